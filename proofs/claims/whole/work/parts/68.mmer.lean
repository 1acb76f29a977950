set_option maxRecDepth 100000 in
theorem cX6_merge1 {D : mg_D} {l : Launch} (hl : l.stackTraces = false) {M : mg_M} {m₀ : Nat} {tp lf₀ hg wd : Int → Int} (st₀ : mm_st M m₀) (rc : mm_rc M m₀) (h4 : 0 ≤ gi M m₀ 4 ∧ gi M m₀ 4 ≤ 120) (hs : mm_si M m₀) (rt : mm_RT M m₀ tp lf₀ hg wd) (h₀ : mh_sum (fun k₀ => if mm_ch M m₀ tp lf₀ hg wd k₀ then 1 else 0) (gi M m₀ 4).toNat = 1) : mg_Mt D l 174 [.inr (.inl m₀)] M (fun v₀ N => v₀ = some (.inl 0) ∧ N = si M m₀ 0 1) mg_no := by
  refine mg_of2 hl ok_X6_merge al_X6_merge rfl (fun K hK₀ => ?_)
  have k7₀ := st₀.1
  have c₀ := cX6_chosen (D := D) hl st₀ rc h4 hs rt
  rw [h₀] at c₀
  refine hK₀ _ _ _ _ _ ?_
  (repeat' (((conv => whnf); first | (show (_ : Option mg_V) = _ ∧ _; assumption) | (show K _ _ _ _ _; assumption) | refine And.intro (by first | assumption | omega | (simp only [true_and]; first | done | assumption | omega)) ?_ | (refine And.intro (fun _ => ?_) (fun _ => ?_) <;> first | (exfalso; omega) | skip) | intro _ | fail)))
  all_goals (try ((conv => whnf); (refine Exists.intro _ (Exists.intro _ (And.intro (c₀) (And.intro ?_ (fun _ _ h₀ => h₀.elim)))); rintro _ _ ⟨rfl, e₀⟩; have e2₀ := e₀.symm; clear e₀; subst e2₀); (repeat' (((conv => whnf); first | (show (_ : Option mg_V) = _ ∧ _; assumption) | (show K _ _ _ _ _; assumption) | refine And.intro (by first | assumption | omega | (simp only [true_and]; first | done | assumption | omega)) ?_ | (refine And.intro (fun _ => ?_) (fun _ => ?_) <;> first | (exfalso; omega) | skip) | intro _ | fail)))))
  all_goals (try ((conv => whnf); (refine Exists.intro _ (Exists.intro _ (And.intro (cX6_fails hl k7₀) (And.intro ?_ (fun _ _ h₀ => h₀.elim)))); rintro _ _ ⟨rfl, e₀⟩; have e2₀ := e₀.symm; clear e₀; subst e2₀); (repeat' (((conv => whnf); first | (show (_ : Option mg_V) = _ ∧ _; assumption) | (show K _ _ _ _ _; assumption) | refine And.intro (by first | assumption | omega | (simp only [true_and]; first | done | assumption | omega)) ?_ | (refine And.intro (fun _ => ?_) (fun _ => ?_) <;> first | (exfalso; omega) | skip) | intro _ | fail)))))
  all_goals ((conv => whnf) <;> first | rfl | exact And.intro rfl rfl)
set_option maxRecDepth 100000 in
theorem cX6_merge2 {D : mg_D} {l : Launch} (hl : l.stackTraces = false) {M : mg_M} {m₀ : Nat} {tp lf₀ hg wd : Int → Int} (st₀ : mm_st M m₀) (rc : mm_rc M m₀) (h4 : 0 ≤ gi M m₀ 4 ∧ gi M m₀ 4 ≤ 120) (hs : mm_si M m₀) (rt : mm_RT M m₀ tp lf₀ hg wd) {a₀ b₀ : Int} (ha₀ : mh_sum (fun k₀ => if mm_ch M m₀ tp lf₀ hg wd k₀ then 1 else 0) (gi M m₀ 4).toNat = a₀) (hb₀ : mh_sum (fun k₀ => if mm_ch M m₀ tp lf₀ hg wd k₀ ∧ 0 < gi M (m₀ + 2) k₀ then 1 else 0) (gi M m₀ 4).toNat = b₀) (h₀ : a₀ ≠ 1) (h2 : 1 < b₀ ∨ (gi M m₀ 21 < gi M m₀ 3 ∧ gi M m₀ 3 ≤ gi M m₀ 22)) : mg_Mt D l 174 [.inr (.inl m₀)] M (fun v₀ N => v₀ = some (.inl 0) ∧ N = si M m₀ 0 2) mg_no := by
  refine mg_of2 hl ok_X6_merge al_X6_merge rfl (fun K hK₀ => ?_)
  have k7₀ := st₀.1
  have c₀ := cX6_chosen (D := D) hl st₀ rc h4 hs rt
  have fl₀ := cX6_filled (D := D) hl st₀ rc h4 hs rt
  rw [ha₀] at c₀
  rw [hb₀] at fl₀
  clear ha₀ hb₀
  refine hK₀ _ _ _ _ _ ?_
  (repeat' (((conv => whnf); first | (show (_ : Option mg_V) = _ ∧ _; assumption) | (show K _ _ _ _ _; assumption) | refine And.intro (by first | assumption | omega | (simp only [true_and]; first | done | assumption | omega)) ?_ | (refine And.intro (fun _ => ?_) (fun _ => ?_) <;> first | (exfalso; omega) | skip) | intro _ | fail)))
  all_goals (try ((conv => whnf); (refine Exists.intro _ (Exists.intro _ (And.intro (c₀) (And.intro ?_ (fun _ _ h₀ => h₀.elim)))); rintro _ _ ⟨rfl, e₀⟩; have e2₀ := e₀.symm; clear e₀; subst e2₀); (repeat' (((conv => whnf); first | (show (_ : Option mg_V) = _ ∧ _; assumption) | (show K _ _ _ _ _; assumption) | refine And.intro (by first | assumption | omega | (simp only [true_and]; first | done | assumption | omega)) ?_ | (refine And.intro (fun _ => ?_) (fun _ => ?_) <;> first | (exfalso; omega) | skip) | intro _ | fail)))))
  all_goals (try ((conv => whnf); (refine Exists.intro _ (Exists.intro _ (And.intro (fl₀) (And.intro ?_ (fun _ _ h₀ => h₀.elim)))); rintro _ _ ⟨rfl, e₀⟩; have e2₀ := e₀.symm; clear e₀; subst e2₀); (repeat' (((conv => whnf); first | (show (_ : Option mg_V) = _ ∧ _; assumption) | (show K _ _ _ _ _; assumption) | refine And.intro (by first | assumption | omega | (simp only [true_and]; first | done | assumption | omega)) ?_ | (refine And.intro (fun _ => ?_) (fun _ => ?_) <;> first | (exfalso; omega) | skip) | intro _ | fail)))))
  all_goals (try ((conv => whnf); (refine Exists.intro _ (Exists.intro _ (And.intro (cX6_fails hl k7₀) (And.intro ?_ (fun _ _ h₀ => h₀.elim)))); rintro _ _ ⟨rfl, e₀⟩; have e2₀ := e₀.symm; clear e₀; subst e2₀); (repeat' (((conv => whnf); first | (show (_ : Option mg_V) = _ ∧ _; assumption) | (show K _ _ _ _ _; assumption) | refine And.intro (by first | assumption | omega | (simp only [true_and]; first | done | assumption | omega)) ?_ | (refine And.intro (fun _ => ?_) (fun _ => ?_) <;> first | (exfalso; omega) | skip) | intro _ | fail)))))
  all_goals ((conv => whnf) <;> first | rfl | exact And.intro rfl rfl)
def mi_mr (M : mg_M) (m₀ : Nat) (p₀ q₀ : Int) : Int := if (gi M m₀ 21 ≤ p₀ ∧ p₀ ≤ gi M m₀ 22) ∧ (gi M m₀ 23 ≤ q₀ ∧ q₀ ≤ gi M m₀ 24) then mi M (m₀ + 1) (gi M m₀ 21) (gi M m₀ 23) else mi M (m₀ + 1) p₀ q₀
set_option maxRecDepth 100000 in
theorem cX6_merge0 {D : mg_D} {l : Launch} (hl : l.stackTraces = false) {M : mg_M} {m₀ : Nat} {tp lf₀ hg wd : Int → Int} (st₀ : mm_st M m₀) (rc : mm_rc M m₀) (h4 : 0 ≤ gi M m₀ 4 ∧ gi M m₀ 4 ≤ 120) (hs : mm_si M m₀) (rt : mm_RT M m₀ tp lf₀ hg wd) (hco : ∀ k₀ : Nat, (k₀ : Int) < gi M m₀ 4 → 0 ≤ gi M (m₀ + 2) k₀ ∧ gi M (m₀ + 2) k₀ ≤ 999) (hid₀ : ∀ r₀ c₀, mh_rg (gi M m₀ 1) (gi M m₀ 2) r₀ c₀ → 0 ≤ mi M (m₀ + 1) r₀ c₀ ∧ mi M (m₀ + 1) r₀ c₀ < 120) {a₀ b₀ s₀ : Int} (ha₀ : mh_sum (fun k₀ => if mm_ch M m₀ tp lf₀ hg wd k₀ then 1 else 0) (gi M m₀ 4).toNat = a₀) (hb₀ : mh_sum (fun k₀ => if mm_ch M m₀ tp lf₀ hg wd k₀ ∧ 0 < gi M (m₀ + 2) k₀ then 1 else 0) (gi M m₀ 4).toNat = b₀) (hsu : mh_sum (fun k₀ => if mm_ch M m₀ tp lf₀ hg wd k₀ then gi M (m₀ + 2) k₀ else 0) (gi M m₀ 4).toNat = s₀) (h₀ : a₀ ≠ 1) (h2 : ¬ (1 < b₀ ∨ (gi M m₀ 21 < gi M m₀ 3 ∧ gi M m₀ 3 ≤ gi M m₀ 22))) : mg_Mt D l 174 [.inr (.inl m₀)] M (fun v₀ N => v₀ = some (.inl a₀) ∧ mm_nw M N m₀ (gi M m₀ 1) (gi M m₀ 2) (gi M m₀ 3) (mi_mr M m₀) (fun k₀ => if k₀ = mi M (m₀ + 1) (gi M m₀ 21) (gi M m₀ 23) then s₀ else gi M (m₀ + 2) k₀.toNat) (fun k₀ => gi M (m₀ + 3) k₀.toNat) (fun k₀ => gi M (m₀ + 4) k₀.toNat) (fun k₀ => gi M (m₀ + 5) k₀.toNat) ∧ (gi N m₀ 21 = gi M m₀ 21 ∧ gi N m₀ 22 = gi M m₀ 22 ∧ gi N m₀ 23 = gi M m₀ 23 ∧ gi N m₀ 24 = gi M m₀ 24)) mg_no := by
  refine mg_of2 hl ok_X6_merge al_X6_merge rfl (fun K hK₀ => ?_)
  have k7₀ := st₀.1
  have rc' := rc
  unfold mm_rc at rc'
  obtain ⟨a5, b5, c5₀⟩ := st₀.2.1.1
  obtain ⟨a6, b6, c6₀⟩ := st₀.2.1.2.1
  have hid0 := hid₀ (gi M m₀ 21) (gi M m₀ 23) (by omega)
  generalize ec : mi M (m₀ + 1) (gi M m₀ 21) (gi M m₀ 23) = cell₀ at *
  have F₀ : ∀ P, mm_kk M P m₀ → K 101 [(0, Sum.inr (Sum.inl m₀)), (1, Sum.inl a₀), (3, Sum.inl cell₀), (4, Sum.inl (gi M m₀ 21))] [] (si P (m₀ + 2) cell₀.toNat s₀) 0 := by
    intro P kk
    have f3₀ := kk.1
    have kt : mm_kt M P m₀ := kk.2.2
    have z0 := kk.2.1
    have stP := mm_f_st f3₀ st₀
    refine mh_for2d (P := fun r₀ c₀ N => mm_f (fun b₀ k₀ => b₀ = m₀ + 1 ∨ (b₀ = m₀ + 2 ∧ k₀ = cell₀.toNat)) P N ∧ gi N (m₀ + 2) cell₀.toNat = s₀ ∧ ∀ p₀ q₀, 0 ≤ p₀ → 0 ≤ q₀ ∧ q₀ < 10 → mi N (m₀ + 1) p₀ q₀ = if (gi M m₀ 21 ≤ p₀ ∧ gi M m₀ 23 ≤ q₀ ∧ q₀ ≤ gi M m₀ 24) ∧ (p₀ < r₀ ∨ (p₀ = r₀ ∧ q₀ < c₀)) then cell₀ else mi M (m₀ + 1) p₀ q₀) (G1 := fun r₀ N => K 101 [(0, Sum.inr (Sum.inl m₀)), (1, Sum.inl a₀), (3, Sum.inl cell₀), (4, Sum.inl r₀)] [] N 0) (G2 := fun r₀ c₀ N => K 116 [(0, Sum.inr (Sum.inl m₀)), (1, Sum.inl a₀), (3, Sum.inl cell₀), (4, Sum.inl r₀), (5, Sum.inl c₀)] [] N 0) (R := gi M m₀ 22 + 1) (C := gi M m₀ 24 + 1) (r0 := gi M m₀ 21) (c0 := gi M m₀ 23) (by omega) (by omega) ?_ ?_ ?_ ?_ (si P (m₀ + 2) cell₀.toNat s₀) ⟨mm_f_si mm_f_rfl (Or.inr ⟨rfl, rfl⟩), by rw [gi_si, if_pos ⟨rfl, rfl⟩], fun p₀ q₀ hp hq => ?_⟩
    · rintro N ⟨f5₀, v2, v1₀⟩
      have fN₀ : mm_f (mm_sB m₀) M N := mm_f_tr (mm_f_mono f3₀ (fun b₀ k₀ z₀ => by omega)) (mm_f_mono f5₀ (fun b₀ k₀ z₀ => by omega))
      have stN₀ := mm_f_st f5₀ stP
      have k7N := stN₀.1
      have e₀ := fun k₀ (hk : k₀ ≠ 0 ∧ ¬ (10 ≤ k₀ ∧ k₀ ≤ 13)) => (mm_f_gi f5₀ m₀ k₀ (by omega)).trans (mm_f_gi f3₀ m₀ k₀ (by omega))
      have t22 := e₀ 22 (by omega)
      have pr : mm_pre M N m₀ (gi M m₀ 1) (gi M m₀ 2) (gi M m₀ 3) (mi_mr M m₀) (fun k₀ => if k₀ = cell₀ then s₀ else gi M (m₀ + 2) k₀.toNat) (fun k₀ => gi M (m₀ + 3) k₀.toNat) (fun k₀ => gi M (m₀ + 4) k₀.toNat) (fun k₀ => gi M (m₀ + 5) k₀.toNat) := by
        have ej : ∀ r₀ c₀, mh_rg (gi M m₀ 1) (gi M m₀ 2) r₀ c₀ → mi N (m₀ + 1) r₀ c₀ = mi_mr M m₀ r₀ c₀ := by
          intro r₀ c₀ hr
          rw [v1₀ r₀ c₀ (by omega) (by omega)]
          unfold mi_mr
          rw [ec]
          have e9₀ : ((gi M m₀ 21 ≤ r₀ ∧ gi M m₀ 23 ≤ c₀ ∧ c₀ ≤ gi M m₀ 24) ∧ (r₀ < gi M m₀ 22 + 1 ∨ r₀ = gi M m₀ 22 + 1 ∧ c₀ < gi M m₀ 23)) ↔ ((gi M m₀ 21 ≤ r₀ ∧ r₀ ≤ gi M m₀ 22) ∧ gi M m₀ 23 ≤ c₀ ∧ c₀ ≤ gi M m₀ 24) := by omega
          simp only [e9₀]
        have eb : ∀ r₀ c₀, mh_rg (gi M m₀ 1) (gi M m₀ 2) r₀ c₀ → 0 ≤ mi_mr M m₀ r₀ c₀ ∧ mi_mr M m₀ r₀ c₀ < 120 := by
          intro r₀ c₀ hr
          unfold mi_mr
          rw [ec]
          split
          · exact hid0
          · exact hid₀ r₀ c₀ hr
        refine ⟨fN₀, ⟨?_, e₀ 1 (by omega), e₀ 2 (by omega), e₀ 3 (by omega)⟩, ?_, by omega, ?_, ?_, ?_, ?_⟩
        · rw [mm_f_gi f5₀ m₀ 0 (by omega)]; exact z0
        · exact mm_kt_f f5₀ (fun k₀ _ _ => by omega) (fun b₀ k₀ _ _ => by omega) kt
        · intro r₀ c₀ hr
          have := eb r₀ c₀ hr
          exact ⟨ej r₀ c₀ hr, by omega⟩
        · intro r₀ c₀ hr
          have := eb r₀ c₀ hr
          rw [mm_f_gi f5₀ (m₀ + 3) _ (by omega), mm_f_gi f3₀ (m₀ + 3) _ (by omega)]
          refine ⟨?_, rfl⟩
          dsimp only
          by_cases q₀ : mi_mr M m₀ r₀ c₀ = cell₀
          · rw [q₀, if_pos rfl]; exact v2
          · rw [if_neg q₀, mm_f_gi f5₀ (m₀ + 2) _ (by omega), mm_f_gi f3₀ (m₀ + 2) _ (by omega)]
        · intro k₀ h0 h1
          rw [mm_f_gi f5₀ (m₀ + 4) _ (by omega), mm_f_gi f3₀ (m₀ + 4) _ (by omega)]
        · intro k₀ h0 h1
          rw [mm_f_gi f5₀ (m₀ + 5) _ (by omega), mm_f_gi f3₀ (m₀ + 5) _ (by omega)]
      obtain ⟨y1, y2⟩ := mm_pre_rc pr
      have s1₀ := e₀ 21 (by omega)
      have s3₀ := e₀ 23 (by omega)
      have s4₀ := e₀ 24 (by omega)
      clear v1₀ v2 e₀ hid₀ hco
      refine hK₀ _ _ _ _ _ ?_
      (repeat' (((conv => whnf); first | (show (_ : Option mg_V) = _ ∧ _; assumption) | (show K _ _ _ _ _; assumption) | refine And.intro (by first | assumption | omega | (simp only [true_and, a5, b5, c5₀, a6, b6, c6₀, kd_si, ln_si, gr_si]; first | done | assumption | omega)) ?_ | (refine And.intro (fun _ => ?_) (fun _ => ?_) <;> first | (exfalso; omega) | skip) | intro _ | fail)))
      (conv => whnf)
      refine Exists.intro _ (Exists.intro _ (And.intro (cX6_settles hl stN₀ y1 y2) (And.intro ?_ (fun _ _ h₀ => h₀.elim))))
      rintro _ N2 ⟨rfl, hs2⟩
      have nw := mm_pre_set pr hs2
      have f6₀ := hs2.1
      have Q₀ := And.intro (Eq.refl (some (Sum.inl a₀ : mg_V))) (And.intro nw (show gi N2 m₀ 21 = gi M m₀ 21 ∧ gi N2 m₀ 22 = gi M m₀ 22 ∧ gi N2 m₀ 23 = gi M m₀ 23 ∧ gi N2 m₀ 24 = gi M m₀ 24 by rw [mm_f_gi f6₀ m₀ 21 (by omega), mm_f_gi f6₀ m₀ 22 (by omega), mm_f_gi f6₀ m₀ 23 (by omega), mm_f_gi f6₀ m₀ 24 (by omega)]; exact ⟨s1₀, t22, s3₀, s4₀⟩))
      clear pr hs2 nw f6₀
      (repeat' (((conv => whnf); first | (show (_ : Option mg_V) = _ ∧ _; assumption) | (show K _ _ _ _ _; assumption) | refine And.intro (by first | assumption | omega | (simp only [true_and, a5, b5, c5₀, a6, b6, c6₀, kd_si, ln_si, gr_si]; first | done | assumption | omega)) ?_ | (refine And.intro (fun _ => ?_) (fun _ => ?_) <;> first | (exfalso; omega) | skip) | intro _ | fail)))
    · rintro r₀ N r1₀ r2 ⟨f5₀, v₀⟩ g₀
      have k7N := (mm_f_st f5₀ stP).1
      have t22 := (mm_f_gi f5₀ m₀ 22 (by omega)).trans (mm_f_gi f3₀ m₀ 22 (by omega))
      have t23 := (mm_f_gi f5₀ m₀ 23 (by omega)).trans (mm_f_gi f3₀ m₀ 23 (by omega))
      rw [← t23] at g₀
      clear v₀
      refine hK₀ _ _ _ _ _ ?_
      (repeat' (((conv => whnf); first | (show (_ : Option mg_V) = _ ∧ _; assumption) | (show K _ _ _ _ _; assumption) | refine And.intro (by first | assumption | omega | (simp only [true_and, a5, b5, c5₀, a6, b6, c6₀, kd_si, ln_si, gr_si]; first | done | assumption | omega)) ?_ | (refine And.intro (fun _ => ?_) (fun _ => ?_) <;> first | (exfalso; omega) | skip) | intro _ | fail)))
    · rintro r₀ N r1₀ r2 ⟨f5₀, v2, v1₀⟩
      have k7N := (mm_f_st f5₀ stP).1
      have t24 := (mm_f_gi f5₀ m₀ 24 (by omega)).trans (mm_f_gi f3₀ m₀ 24 (by omega))
      refine ⟨⟨f5₀, v2, fun p₀ q₀ hp hq => by rw [v1₀ p₀ q₀ hp hq]; (repeat' split) <;> first | rfl | omega⟩, fun g₀ => ?_⟩
      clear v1₀ v2
      refine hK₀ _ _ _ _ _ ?_
      (repeat' (((conv => whnf); first | (show (_ : Option mg_V) = _ ∧ _; assumption) | (show K _ _ _ _ _; assumption) | refine And.intro (by first | assumption | omega | (simp only [true_and, a5, b5, c5₀, a6, b6, c6₀, kd_si, ln_si, gr_si]; first | done | assumption | omega)) ?_ | (refine And.intro (fun _ => ?_) (fun _ => ?_) <;> first | (exfalso; omega) | skip) | intro _ | fail)))
    · rintro r₀ c₀ N r1₀ r2 c1₀ c2₀ ⟨f5₀, v2, v1₀⟩ nex
      have stN₀ := mm_f_st f5₀ stP
      have k7N := stN₀.1
      have t24 := (mm_f_gi f5₀ m₀ 24 (by omega)).trans (mm_f_gi f3₀ m₀ 24 (by omega))
      obtain ⟨a5, b5, c5₀⟩ := stN₀.2.1.1
      have w₀ := nex (si N (m₀ + 1) (10 * r₀ + c₀).toNat cell₀) ⟨mm_f_si f5₀ (Or.inl rfl), by rw [gi_si, if_neg (by omega)]; exact v2, fun p₀ q₀ hp hq => by
        have e₀ := v1₀ p₀ q₀ hp hq
        unfold mi at e₀ ⊢
        rw [gi_si]
        by_cases y₀ : p₀ = r₀ ∧ q₀ = c₀
        · rw [y₀.1, y₀.2, if_pos ⟨rfl, rfl⟩, if_pos (by omega)]
        · rw [if_neg (by omega), e₀]
          (repeat' split) <;> first | rfl | omega⟩
      clear nex v1₀ v2
      refine hK₀ _ _ _ _ _ ?_
      (repeat' (((conv => whnf); first | (show (_ : Option mg_V) = _ ∧ _; assumption) | (show K _ _ _ _ _; assumption) | refine And.intro (by first | assumption | omega | (simp only [true_and, a5, b5, c5₀, a6, b6, c6₀, kd_si, ln_si, gr_si]; first | done | assumption | omega)) ?_ | (refine And.intro (fun _ => ?_) (fun _ => ?_) <;> first | (exfalso; omega) | skip) | intro _ | fail)))
      all_goals ((conv => whnf); rw [a5]; exact w₀)
    · rw [if_neg (by omega)]
      have := mm_f_gi f3₀ (m₀ + 1) (10 * p₀ + q₀).toNat (by omega)
      unfold mi
      rw [gi_si, if_neg (by omega)]
      exact this
  have c₀ := cX6_chosen (D := D) hl st₀ rc h4 hs rt
  have fl₀ := cX6_filled (D := D) hl st₀ rc h4 hs rt
  rw [ha₀] at c₀
  rw [hb₀] at fl₀
  clear ha₀ hb₀
  refine hK₀ _ _ _ _ _ ?_
  (repeat' (((conv => whnf); first | (show (_ : Option mg_V) = _ ∧ _; assumption) | (show K _ _ _ _ _; assumption) | refine And.intro (by first | assumption | omega | (simp only [true_and, a5, b5, c5₀, a6, b6, c6₀, kd_si, ln_si, gr_si]; first | done | assumption | omega)) ?_ | (refine And.intro (fun _ => ?_) (fun _ => ?_) <;> first | (exfalso; omega) | skip) | intro _ | fail)))
  all_goals (try ((conv => whnf); (refine Exists.intro _ (Exists.intro _ (And.intro (c₀) (And.intro ?_ (fun _ _ h₀ => h₀.elim)))); rintro _ _ ⟨rfl, e₀⟩; have e2₀ := e₀.symm; clear e₀; subst e2₀); (repeat' (((conv => whnf); first | (show (_ : Option mg_V) = _ ∧ _; assumption) | (show K _ _ _ _ _; assumption) | refine And.intro (by first | assumption | omega | (simp only [true_and, a5, b5, c5₀, a6, b6, c6₀, kd_si, ln_si, gr_si]; first | done | assumption | omega)) ?_ | (refine And.intro (fun _ => ?_) (fun _ => ?_) <;> first | (exfalso; omega) | skip) | intro _ | fail)))))
  all_goals (try ((conv => whnf); (refine Exists.intro _ (Exists.intro _ (And.intro (fl₀) (And.intro ?_ (fun _ _ h₀ => h₀.elim)))); rintro _ _ ⟨rfl, e₀⟩; have e2₀ := e₀.symm; clear e₀; subst e2₀); (repeat' (((conv => whnf); first | (show (_ : Option mg_V) = _ ∧ _; assumption) | (show K _ _ _ _ _; assumption) | refine And.intro (by first | assumption | omega | (simp only [true_and, a5, b5, c5₀, a6, b6, c6₀, kd_si, ln_si, gr_si]; first | done | assumption | omega)) ?_ | (refine And.intro (fun _ => ?_) (fun _ => ?_) <;> first | (exfalso; omega) | skip) | intro _ | fail)))))
  all_goals (try ((conv => whnf); (refine Exists.intro _ (Exists.intro _ (And.intro (cX6_fails hl k7₀) (And.intro ?_ (fun _ _ h₀ => h₀.elim)))); rintro _ _ ⟨rfl, e₀⟩; have e2₀ := e₀.symm; clear e₀; subst e2₀); (repeat' (((conv => whnf); first | (show (_ : Option mg_V) = _ ∧ _; assumption) | (show K _ _ _ _ _; assumption) | refine And.intro (by first | assumption | omega | (simp only [true_and, a5, b5, c5₀, a6, b6, c6₀, kd_si, ln_si, gr_si]; first | done | assumption | omega)) ?_ | (refine And.intro (fun _ => ?_) (fun _ => ?_) <;> first | (exfalso; omega) | skip) | intro _ | fail)))))
  all_goals (
    (conv => whnf)
    refine Exists.intro _ (Exists.intro _ (And.intro (cX6_keeps0 hl st₀) (And.intro ?_ (fun _ _ h₀ => h₀.elim))))
    rintro _ P ⟨rfl, kk⟩
    have f₀ := kk.1
    have stP := mm_f_st f₀ st₀
    have k7P := stP.1
    have t1₀ := mm_f_gi f₀ m₀ 1 (by omega)
    have t2₀ := mm_f_gi f₀ m₀ 2 (by omega)
    have t4₀ := mm_f_gi f₀ m₀ 4 (by omega)
    have t21 := mm_f_gi f₀ m₀ 21 (by omega)
    have t22 := mm_f_gi f₀ m₀ 22 (by omega)
    have t23 := mm_f_gi f₀ m₀ 23 (by omega)
    have t24 := mm_f_gi f₀ m₀ 24 (by omega)
    have tc₀ := fun k₀ => mm_f_gi f₀ (m₀ + 2) k₀ (by omega)
    have rcP := mm_rc_f f₀ (by omega) (by omega) rc
    have eid : mi P (m₀ + 1) (gi P m₀ 21) (gi P m₀ 23) = cell₀ := by rw [t21, t23, ← ec]; exact mm_f_gi f₀ (m₀ + 1) _ (by omega)
    have c1₀ := cX6_chosenSum (D := D) hl stP rcP (by omega) (by omega) (mm_RT_f f₀ (by omega) (by omega) (by omega) (fun j₀ => by omega) rt) (fun k₀ hk => by rw [tc₀]; exact hco k₀ (by omega))
    simp only [mm_ch, t21, t22, t23, t24, t4₀, tc₀] at c1₀
    simp only [mm_ch] at hsu
    rw [hsu] at c1₀
    obtain ⟨a6, b6, c6₀⟩ := stP.2.1.2.1
    have w₀ := F₀ P kk
    have u21 : gi (si P (m₀ + 2) cell₀.toNat s₀) m₀ 21 = gi M m₀ 21 := by rw [gi_si, if_neg (by omega)]; exact t21
    rw [← u21] at w₀
    clear F₀ hid₀ hco
    (repeat' (((conv => whnf); first | (show (_ : Option mg_V) = _ ∧ _; assumption) | (show K _ _ _ _ _; assumption) | refine And.intro (by first | assumption | omega | (simp only [true_and, a5, b5, c5₀, a6, b6, c6₀, kd_si, ln_si, gr_si]; first | done | assumption | omega)) ?_ | (refine And.intro (fun _ => ?_) (fun _ => ?_) <;> first | (exfalso; omega) | skip) | intro _ | fail)))
    all_goals (try ((conv => whnf); (refine Exists.intro _ (Exists.intro _ (And.intro (cX6_id hl stP (by omega) (by omega)) (And.intro ?_ (fun _ _ h₀ => h₀.elim)))); rintro _ _ ⟨rfl, e₀⟩; have e2₀ := e₀.symm; clear e₀; subst e2₀); (repeat' (((conv => whnf); first | (show (_ : Option mg_V) = _ ∧ _; assumption) | (show K _ _ _ _ _; assumption) | refine And.intro (by first | assumption | omega | (simp only [true_and, a5, b5, c5₀, a6, b6, c6₀, kd_si, ln_si, gr_si]; first | done | assumption | omega)) ?_ | (refine And.intro (fun _ => ?_) (fun _ => ?_) <;> first | (exfalso; omega) | skip) | intro _ | fail)))))
    all_goals ((conv => whnf); rw [eid])
    (repeat' (((conv => whnf); first | (show (_ : Option mg_V) = _ ∧ _; assumption) | (show K _ _ _ _ _; assumption) | refine And.intro (by first | assumption | omega | (simp only [true_and, a5, b5, c5₀, a6, b6, c6₀, kd_si, ln_si, gr_si]; first | done | assumption | omega)) ?_ | (refine And.intro (fun _ => ?_) (fun _ => ?_) <;> first | (exfalso; omega) | skip) | intro _ | fail)))
    all_goals (try ((conv => whnf); (refine Exists.intro _ (Exists.intro _ (And.intro (c1₀) (And.intro ?_ (fun _ _ h₀ => h₀.elim)))); rintro _ _ ⟨rfl, e₀⟩; have e2₀ := e₀.symm; clear e₀; subst e2₀); (repeat' (((conv => whnf); first | (show (_ : Option mg_V) = _ ∧ _; assumption) | (show K _ _ _ _ _; assumption) | refine And.intro (by first | assumption | omega | (simp only [true_and, a5, b5, c5₀, a6, b6, c6₀, kd_si, ln_si, gr_si]; first | done | assumption | omega)) ?_ | (refine And.intro (fun _ => ?_) (fun _ => ?_) <;> first | (exfalso; omega) | skip) | intro _ | fail)))))
    all_goals ((conv => whnf); rw [a6]; exact w₀))
