
def mi_dr (M : mg_M) (m₀ : Nat) (x₀ : Int) (p₀ q₀ : Int) : Int := if p₀ < x₀ then mi M (m₀ + 1) p₀ q₀ else mi M (m₀ + 1) (p₀ + 1) (q₀)
def mi_dh (M : mg_M) (m₀ : Nat) (x₀ k₀ : Int) : Int := if k₀ < x₀ then gi M (m₀ + 5) k₀.toNat else gi M (m₀ + 5) (k₀ + 1).toNat
set_option maxRecDepth 100000 in
theorem cX6_deleteRow1 {D : mg_D} {l : Launch} (hl : l.stackTraces = false) {M : mg_M} {m₀ : Nat} {x₀ : Int} (st₀ : mm_st M m₀) (rc : mm_rc M m₀) (h₀ : ¬ (0 ≤ x₀ ∧ x₀ < gi M m₀ 1)) : mg_Mt D l 148 [.inr (.inl m₀), .inl x₀] M (fun v₀ N => v₀ = some (.inl 0) ∧ N = si M m₀ 0 1) mg_no := by
  refine mg_of2 hl ok_X6_deleteRow al_X6_deleteRow rfl (fun K hK₀ => ?_)
  have k7₀ := st₀.1
  have rc' := rc
  unfold mm_rc at rc'
  refine hK₀ _ _ _ _ _ ?_
  (repeat' (((conv => whnf); first | assumption | refine And.intro (by first | assumption | omega | (simp only [true_and]; first | done | assumption | omega)) ?_ | (refine And.intro (fun _ => ?_) (fun _ => ?_) <;> first | (exfalso; omega) | skip) | intro _ | fail)))
  all_goals (try ((conv => whnf); (refine Exists.intro _ (Exists.intro _ (And.intro (cX6_in hl) (And.intro ?_ (fun _ _ h₀ => h₀.elim)))); rintro _ _ ⟨rfl, e₀⟩; have e2₀ := e₀.symm; clear e₀; subst e2₀); (repeat' (((conv => whnf); first | assumption | refine And.intro (by first | assumption | omega | (simp only [true_and]; first | done | assumption | omega)) ?_ | (refine And.intro (fun _ => ?_) (fun _ => ?_) <;> first | (exfalso; omega) | skip) | intro _ | fail)))))
  all_goals (try ((conv => whnf); (refine Exists.intro _ (Exists.intro _ (And.intro (cX6_fails hl k7₀) (And.intro ?_ (fun _ _ h₀ => h₀.elim)))); rintro _ _ ⟨rfl, e₀⟩; have e2₀ := e₀.symm; clear e₀; subst e2₀); (repeat' (((conv => whnf); first | assumption | refine And.intro (by first | assumption | omega | (simp only [true_and]; first | done | assumption | omega)) ?_ | (refine And.intro (fun _ => ?_) (fun _ => ?_) <;> first | (exfalso; omega) | skip) | intro _ | fail)))))
  all_goals ((conv => whnf) <;> first | rfl | exact And.intro rfl rfl)
set_option maxRecDepth 100000 in
theorem cX6_deleteRow2 {D : mg_D} {l : Launch} (hl : l.stackTraces = false) {M : mg_M} {m₀ : Nat} {x₀ : Int} (st₀ : mm_st M m₀) (rc : mm_rc M m₀) (h₀ : 0 ≤ x₀ ∧ x₀ < gi M m₀ 1) (h2 : gi M m₀ 1 = 1) : mg_Mt D l 148 [.inr (.inl m₀), .inl x₀] M (fun v₀ N => v₀ = some (.inl 0) ∧ N = si M m₀ 0 2) mg_no := by
  refine mg_of2 hl ok_X6_deleteRow al_X6_deleteRow rfl (fun K hK₀ => ?_)
  have k7₀ := st₀.1
  have rc' := rc
  unfold mm_rc at rc'
  refine hK₀ _ _ _ _ _ ?_
  (repeat' (((conv => whnf); first | assumption | refine And.intro (by first | assumption | omega | (simp only [true_and]; first | done | assumption | omega)) ?_ | (refine And.intro (fun _ => ?_) (fun _ => ?_) <;> first | (exfalso; omega) | skip) | intro _ | fail)))
  all_goals (try ((conv => whnf); (refine Exists.intro _ (Exists.intro _ (And.intro (cX6_in hl) (And.intro ?_ (fun _ _ h₀ => h₀.elim)))); rintro _ _ ⟨rfl, e₀⟩; have e2₀ := e₀.symm; clear e₀; subst e2₀); (repeat' (((conv => whnf); first | assumption | refine And.intro (by first | assumption | omega | (simp only [true_and]; first | done | assumption | omega)) ?_ | (refine And.intro (fun _ => ?_) (fun _ => ?_) <;> first | (exfalso; omega) | skip) | intro _ | fail)))))
  all_goals (try ((conv => whnf); (refine Exists.intro _ (Exists.intro _ (And.intro (cX6_fails hl k7₀) (And.intro ?_ (fun _ _ h₀ => h₀.elim)))); rintro _ _ ⟨rfl, e₀⟩; have e2₀ := e₀.symm; clear e₀; subst e2₀); (repeat' (((conv => whnf); first | assumption | refine And.intro (by first | assumption | omega | (simp only [true_and]; first | done | assumption | omega)) ?_ | (refine And.intro (fun _ => ?_) (fun _ => ?_) <;> first | (exfalso; omega) | skip) | intro _ | fail)))))
  all_goals ((conv => whnf) <;> first | rfl | exact And.intro rfl rfl)
set_option maxRecDepth 100000 in
theorem cX6_deleteRow0 {D : mg_D} {l : Launch} (hl : l.stackTraces = false) {M : mg_M} {m₀ : Nat} {x₀ : Int} {T L₀ H₀ W₀ : Int → Int → Int} (st₀ : mm_st M m₀) (rc : mm_rc M m₀) (h₀ : 0 ≤ x₀ ∧ x₀ < gi M m₀ 1) (h2 : gi M m₀ 1 ≠ 1) (hb₀ : 1 ≤ gi M m₀ 1 ∧ 1 ≤ gi M m₀ 2) (hh : 0 ≤ gi M m₀ 3 ∧ gi M m₀ 3 ≤ gi M m₀ 1) (h4 : 0 ≤ gi M m₀ 4 ∧ gi M m₀ 4 ≤ 120) (hid₀ : ∀ r₀ c₀, mh_rg (gi M m₀ 1) (gi M m₀ 2) r₀ c₀ → 0 ≤ mi M (m₀ + 1) r₀ c₀ ∧ mi M (m₀ + 1) r₀ c₀ < 120) (t₀ : mh_til (gi M m₀ 1 - 1) (gi M m₀ 2) (mi_dr M m₀ x₀) T L₀ H₀ W₀) : mg_Mt D l 148 [.inr (.inl m₀), .inl x₀] M (fun v₀ N => v₀ = some (.inl (gi M m₀ 4 - gi N m₀ 4)) ∧ mm_nw M N m₀ (gi M m₀ 1 - 1) (gi M m₀ 2) (gi M m₀ 3 - (if x₀ < gi M m₀ 3 then 1 else 0)) (mi_dr M m₀ x₀) (fun k₀ => gi M (m₀ + 2) k₀.toNat) (fun k₀ => gi M (m₀ + 3) k₀.toNat) (fun k₀ => gi M (m₀ + 4) k₀.toNat) (mi_dh M m₀ x₀) ∧ mm_se N m₀ (gi M m₀ 1 - 1) (gi M m₀ 2) T L₀ H₀ W₀) mg_no := by
  refine mg_of2 hl ok_X6_deleteRow al_X6_deleteRow rfl (fun K hK₀ => ?_)
  have k7₀ := st₀.1
  have rc' := rc
  unfold mm_rc at rc'
  obtain ⟨a5, b5, c5₀⟩ := st₀.2.1.1
  obtain ⟨as₀, bs, cs⟩ := st₀.2.1.2.2.2.2
  have hid' : ∀ p₀ q₀, mh_rg (gi M m₀ 1) (gi M m₀ 2) p₀ q₀ → 0 ≤ mi M (m₀ + 1) p₀ q₀ ∧ mi M (m₀ + 1) p₀ q₀ < 120 := fun p₀ q₀ z₀ => hid₀ _ _ (by omega)
  have F₀ : ∀ P3, mm_kk M P3 m₀ → K 46 [(0, Sum.inr (Sum.inl m₀)), (1, Sum.inl x₀), (2, Sum.inl x₀)] [] P3 0 := by
    intro P3 kk
    have f3₀ := kk.1
    have kt : mm_kt M P3 m₀ := kk.2.2
    have z0 := kk.2.1
    have stP := mm_f_st f3₀ st₀
    have s1₀ := mm_f_gi f3₀ m₀ 1 (by omega)
    have s2₀ := mm_f_gi f3₀ m₀ 2 (by omega)
    have s4₀ := mm_f_gi f3₀ m₀ 4 (by omega)
    refine mh_for (P := fun k₀ N => mm_f (fun b₀ _ => b₀ = m₀ + 1 ∨ b₀ = m₀ + 5) P3 N ∧ (∀ i₀, 0 ≤ i₀ → i₀ < 12 → gi N (m₀ + 5) i₀.toNat = if x₀ ≤ i₀ ∧ i₀ < k₀ then gi M (m₀ + 5) (i₀ + 1).toNat else gi M (m₀ + 5) i₀.toNat) ∧ (∀ i₀ j₀, 0 ≤ i₀ ∧ i₀ < 12 → 0 ≤ j₀ ∧ j₀ < gi M m₀ 2 → mi N (m₀ + 1) i₀ j₀ = if x₀ ≤ i₀ ∧ i₀ < k₀ then mi M (m₀ + 1) (i₀ + 1) j₀ else mi M (m₀ + 1) i₀ j₀)) (G := fun k₀ N => K 46 [(0, Sum.inr (Sum.inl m₀)), (1, Sum.inl x₀), (2, Sum.inl k₀)] [] N 0) (hi := gi M m₀ 1 - 1) (by omega) ?_ ?_ P3 ⟨mm_f_rfl, fun i₀ h0 h1 => by rw [if_neg (by omega)]; exact mm_f_gi f3₀ (m₀ + 5) _ (by omega), fun i₀ j₀ h0 h1 => by rw [if_neg (by omega)]; exact mm_f_gi f3₀ (m₀ + 1) _ (by omega)⟩
    · rintro N ⟨f5₀, v5, v1₀⟩
      have fN₀ : mm_f (mm_sB m₀) M N := mm_f_tr (mm_f_mono f3₀ (fun b₀ k₀ z₀ => by omega)) (mm_f_mono f5₀ (fun b₀ k₀ z₀ => by omega))
      have stN₀ := mm_f_st f5₀ stP
      have k7N := stN₀.1
      have u1₀ := (mm_f_gi f5₀ m₀ 1 (by omega)).trans (mm_f_gi f3₀ m₀ 1 (by omega))
      have u2₀ := (mm_f_gi f5₀ m₀ 2 (by omega)).trans (mm_f_gi f3₀ m₀ 2 (by omega))
      have u3 := (mm_f_gi f5₀ m₀ 3 (by omega)).trans (mm_f_gi f3₀ m₀ 3 (by omega))
      have PR₀ : ∀ Z₀, mm_f (fun b₀ k₀ => b₀ = m₀ ∧ (k₀ = 1 ∨ k₀ = 2 ∨ k₀ = 3)) N Z₀ → gi Z₀ m₀ 1 = gi M m₀ 1 - 1 → gi Z₀ m₀ 2 = gi M m₀ 2 → gi Z₀ m₀ 3 = gi M m₀ 3 - (if x₀ < gi M m₀ 3 then 1 else 0) → mm_pre M Z₀ m₀ (gi M m₀ 1 - 1) (gi M m₀ 2) (gi M m₀ 3 - (if x₀ < gi M m₀ 3 then 1 else 0)) (mi_dr M m₀ x₀) (fun k₀ => gi M (m₀ + 2) k₀.toNat) (fun k₀ => gi M (m₀ + 3) k₀.toNat) (fun k₀ => gi M (m₀ + 4) k₀.toNat) (mi_dh M m₀ x₀) := by
        intro Z₀ fZ q1₀ q2₀ q3₀
        have ej : ∀ p₀ q₀, 0 ≤ p₀ ∧ p₀ < gi M m₀ 1 - 1 → 0 ≤ q₀ ∧ q₀ < gi M m₀ 2 → mi N (m₀ + 1) p₀ q₀ = mi_dr M m₀ x₀ p₀ q₀ := by
          intro p₀ q₀ hp hq
          rw [v1₀ p₀ q₀ (by omega) hq]
          unfold mi_dr
          (repeat' split) <;> first | rfl | (exfalso; omega) | (congr 1; omega)
        have eb : ∀ p₀ q₀, 0 ≤ p₀ ∧ p₀ < gi M m₀ 1 - 1 → 0 ≤ q₀ ∧ q₀ < gi M m₀ 2 → 0 ≤ mi_dr M m₀ x₀ p₀ q₀ ∧ mi_dr M m₀ x₀ p₀ q₀ < 140 := by
          intro p₀ q₀ hp hq
          have z1 := fun w₀ => hid' p₀ q₀ ⟨w₀, hq⟩
          have z2 := fun w₀ => hid' (p₀ + 1) q₀ ⟨w₀, hq⟩
          unfold mi_dr
          (repeat' split)
          · have := z1 (by omega); omega
          · have := z2 (by omega); omega
        refine ⟨mm_f_tr fN₀ (mm_f_mono fZ (fun b₀ k₀ z₀ => by omega)), ⟨?_, q1₀, q2₀, q3₀⟩, ?_, by omega, ?_, ?_, ?_, ?_⟩
        · rw [mm_f_gi fZ m₀ 0 (by omega), mm_f_gi f5₀ m₀ 0 (by omega)]; exact z0
        · exact mm_kt_f fZ (fun k₀ _ _ => by omega) (fun b₀ k₀ _ _ => by omega) (mm_kt_f f5₀ (fun k₀ _ _ => by omega) (fun b₀ k₀ _ _ => by omega) kt)
        · intro r₀ c₀ hr
          have e1₀ : mi Z₀ (m₀ + 1) r₀ c₀ = mi N (m₀ + 1) r₀ c₀ := mm_f_gi fZ (m₀ + 1) _ (by omega)
          have e2₀ := ej r₀ c₀ (by omega) (by omega)
          have e3₀ := eb r₀ c₀ (by omega) (by omega)
          rw [e1₀, e2₀]
          exact ⟨rfl, e3₀.1, e3₀.2⟩
        · intro r₀ c₀ hr
          rw [mm_f_gi fZ (m₀ + 2) _ (by omega), mm_f_gi f5₀ (m₀ + 2) _ (by omega), mm_f_gi fZ (m₀ + 3) _ (by omega), mm_f_gi f5₀ (m₀ + 3) _ (by omega), mm_f_gi f3₀ (m₀ + 2) _ (by omega), mm_f_gi f3₀ (m₀ + 3) _ (by omega)]
          exact ⟨rfl, rfl⟩
        · intro k₀ h0 h1
          rw [mm_f_gi fZ (m₀ + 4) _ (by omega)]
          rw [mm_f_gi f5₀ (m₀ + 4) _ (by omega), mm_f_gi f3₀ (m₀ + 4) _ (by omega)]
        · intro k₀ h0 h1
          rw [mm_f_gi fZ (m₀ + 5) _ (by omega)]
          rw [v5 k₀ h0 (by omega)]; unfold mi_dh; (repeat' split) <;> first | rfl | omega
      clear v5 v1₀
      have TL : ∀ Z₀, mm_f (fun b₀ k₀ => b₀ = m₀ ∧ (k₀ = 1 ∨ k₀ = 2 ∨ k₀ = 3)) N Z₀ → gi Z₀ m₀ 1 = gi M m₀ 1 - 1 → gi Z₀ m₀ 2 = gi M m₀ 2 → gi Z₀ m₀ 3 = gi M m₀ 3 - (if x₀ < gi M m₀ 3 then 1 else 0) → mg_Mt D l 129 [.inr (.inl m₀)] Z₀ (fun v₀ P => v₀ = none ∧ mm_nw M P m₀ (gi M m₀ 1 - 1) (gi M m₀ 2) (gi M m₀ 3 - (if x₀ < gi M m₀ 3 then 1 else 0)) (mi_dr M m₀ x₀) (fun k₀ => gi M (m₀ + 2) k₀.toNat) (fun k₀ => gi M (m₀ + 3) k₀.toNat) (fun k₀ => gi M (m₀ + 4) k₀.toNat) (mi_dh M m₀ x₀)) mg_no := by
        intro Z₀ fZ q1₀ q2₀ q3₀
        have pr := PR₀ Z₀ fZ q1₀ q2₀ q3₀
        obtain ⟨y1, y2⟩ := mm_pre_rc pr
        exact mg_MtN (cX6_settles hl (mm_f_st fZ stN₀) y1 y2) (fun v₀ P z₀ => ⟨z₀.1, mm_pre_set pr z₀.2⟩)
      clear PR₀
      have u4₀ : gi (si N m₀ 1 (gi N m₀ 1 - 1)) m₀ 3 = gi M m₀ 3 := by rw [gi_si, if_neg (by omega)]; exact u3
      have u5 : gi N m₀ 4 = gi M m₀ 4 := (mm_f_gi f5₀ m₀ 4 (by omega)).trans s4₀
      refine hK₀ _ _ _ _ _ ?_
      (repeat' (((conv => whnf); first | assumption | refine And.intro (by first | assumption | omega | (simp only [true_and, kd_si, ln_si, gr_si, a5, b5, c5₀, as₀, bs, cs]; first | done | assumption | omega)) ?_ | (refine And.intro (fun _ => ?_) (fun _ => ?_) <;> first | (exfalso; omega) | skip) | intro _ | fail)))
      all_goals (
        (conv => whnf)
        refine Exists.intro _ (Exists.intro _ (And.intro (TL _ ?_ ?_ ?_ ?_) (And.intro ?_ (fun _ _ h₀ => h₀.elim))))
        · exact mm_f_si (mm_f_si mm_f_rfl (by omega)) (by omega)
        · rw [gi_si, if_neg (by omega), gi_si, if_pos ⟨rfl, rfl⟩]; omega
        · rw [gi_si, if_neg (by omega), gi_si, if_neg (by omega)]; exact u2₀
        · rw [gi_si, if_pos ⟨rfl, rfl⟩]; omega
        · first | rw [show ∀ y₀, gi (si (si N m₀ 1 (gi N m₀ 1 - 1)) m₀ 3 y₀) m₀ 4 = gi M m₀ 4 from fun y₀ => by rw [gi_si, if_neg (by omega), gi_si, if_neg (by omega), u5]] | rw [show gi (si N m₀ 1 (gi N m₀ 1 - 1)) m₀ 4 = gi M m₀ 4 by rw [gi_si, if_neg (by omega), u5]] | skip
          rintro _ N2 ⟨rfl, nw⟩
          have k72 : kd N2 m₀ = 7 := (nw.1.1 m₀).trans st₀.1
          (repeat' (((conv => whnf); first | assumption | refine And.intro (by first | assumption | omega | (simp only [true_and, kd_si, ln_si, gr_si, a5, b5, c5₀, as₀, bs, cs]; first | done | assumption | omega)) ?_ | (refine And.intro (fun _ => ?_) (fun _ => ?_) <;> first | (exfalso; omega) | skip) | intro _ | fail)))
          all_goals (
            (conv => whnf)
            refine Exists.intro _ (Exists.intro _ (And.intro (cX6_starts hl st₀ (by omega) nw t₀) (And.intro ?_ (fun _ _ h₀ => h₀.elim))))
            rintro _ N3 ⟨rfl, Q1₀, Q2₀⟩
            have k73 : kd N3 m₀ = 7 := (Q1₀.1.1 m₀).trans st₀.1
            have z4 := Q1₀.2.2.2.1
            have Q₀ := And.intro (Eq.refl (some (Sum.inl (gi M m₀ 4 - gi N3 m₀ 4) : mg_V))) (And.intro Q1₀ Q2₀)
            (repeat' (((conv => whnf); first | assumption | refine And.intro (by first | assumption | omega | (simp only [true_and, kd_si, ln_si, gr_si, a5, b5, c5₀, as₀, bs, cs]; first | done | assumption | omega)) ?_ | (refine And.intro (fun _ => ?_) (fun _ => ?_) <;> first | (exfalso; omega) | skip) | intro _ | fail)))
            all_goals ((conv => whnf); exact Q₀)))
    · rintro k₀ N k0₀ k1₀ ⟨f₀, v₀, w₀⟩ nex
      have stN₀ := mm_f_st f₀ stP
      have k7N := stN₀.1
      have t1₀ := (mm_f_gi f₀ m₀ 1 (by omega)).trans s1₀
      obtain ⟨as₀, bs, cs⟩ := stN₀.2.1.2.2.2.2
      have v0₀ := v₀ (k₀ + 1) (by omega) (by omega)
      rw [if_neg (by omega)] at v0₀
      have I₀ : ∀ Z₀, mm_f (fun b₀ _ => b₀ = m₀ + 1 ∨ b₀ = m₀ + 5) P3 Z₀ → (∀ i₀, 0 ≤ i₀ → i₀ < 12 → gi Z₀ (m₀ + 5) i₀.toNat = if x₀ ≤ i₀ ∧ i₀ < k₀ + 1 then gi M (m₀ + 5) (i₀ + 1).toNat else gi M (m₀ + 5) i₀.toNat) → (∀ i₀ j₀, 0 ≤ i₀ ∧ i₀ < 12 → 0 ≤ j₀ ∧ j₀ < gi M m₀ 2 → mi Z₀ (m₀ + 1) i₀ j₀ = if x₀ ≤ i₀ ∧ i₀ < k₀ then mi M (m₀ + 1) (i₀ + 1) j₀ else mi M (m₀ + 1) i₀ j₀) → K 72 [(0, Sum.inr (Sum.inl m₀)), (1, Sum.inl x₀), (2, Sum.inl k₀), (3, Sum.inl 0)] [] Z₀ 0 := by
        intro Z₀ fZ vZ wZ
        refine mh_for (P := fun u₀ N => mm_f (fun b₀ _ => b₀ = m₀ + 1 ∨ b₀ = m₀ + 5) P3 N ∧ (∀ i₀, 0 ≤ i₀ → i₀ < 12 → gi N (m₀ + 5) i₀.toNat = if x₀ ≤ i₀ ∧ i₀ < k₀ + 1 then gi M (m₀ + 5) (i₀ + 1).toNat else gi M (m₀ + 5) i₀.toNat) ∧ (∀ i₀ j₀, 0 ≤ i₀ ∧ i₀ < 12 → 0 ≤ j₀ ∧ j₀ < gi M m₀ 2 → mi N (m₀ + 1) i₀ j₀ = if (x₀ ≤ i₀ ∧ i₀ < k₀) ∨ (i₀ = k₀ ∧ j₀ < u₀) then mi M (m₀ + 1) (i₀ + 1) j₀ else mi M (m₀ + 1) i₀ j₀)) (G := fun u₀ N => K 72 [(0, Sum.inr (Sum.inl m₀)), (1, Sum.inl x₀), (2, Sum.inl k₀), (3, Sum.inl u₀)] [] N 0) (lo := 0) (hi := gi M m₀ 2) (by omega) ?_ ?_ Z₀ ⟨fZ, vZ, fun i₀ j₀ hi hj => by rw [wZ i₀ j₀ hi hj]; (repeat' split) <;> first | rfl | omega⟩
        · rintro Y ⟨fY, vY, wY⟩
          have stY := mm_f_st fY stP
          have k7Y := stY.1
          have t2₀ := (mm_f_gi fY m₀ 2 (by omega)).trans s2₀
          have g₀ := nex Y ⟨fY, vY, fun i₀ j₀ hi hj => by rw [wY i₀ j₀ hi hj]; (repeat' split) <;> first | rfl | omega⟩
          clear nex vY wY vZ wZ v₀ w₀
          refine hK₀ _ _ _ _ _ ?_
          (repeat' (((conv => whnf); first | assumption | refine And.intro (by first | assumption | omega | (simp only [true_and, kd_si, ln_si, gr_si, a5, b5, c5₀, as₀, bs, cs]; first | done | assumption | omega)) ?_ | (refine And.intro (fun _ => ?_) (fun _ => ?_) <;> first | (exfalso; omega) | skip) | intro _ | fail)))
        · rintro u₀ Y u0 u1₀ ⟨fY, vY, wY⟩ nex2
          have stY := mm_f_st fY stP
          have k7Y := stY.1
          have t2₀ := (mm_f_gi fY m₀ 2 (by omega)).trans s2₀
          obtain ⟨a5, b5, c5₀⟩ := stY.2.1.1
          have vb := wY (k₀ + 1) u₀ (by omega) (by omega)
          rw [if_neg (by omega)] at vb
          have nex3 : ∀ i₀ z₀, i₀ = (10 * k₀ + u₀).toNat → z₀ = mi M (m₀ + 1) (k₀ + 1) u₀ → K 72 [(0, Sum.inr (Sum.inl m₀)), (1, Sum.inl x₀), (2, Sum.inl k₀), (3, Sum.inl (u₀ + 1))] [] (si Y (m₀ + 1) i₀ z₀) 0 := by
            intro i₀ z₀ hi hz
            subst hi
            refine nex2 _ ⟨mm_f_si fY (Or.inl rfl), fun i₀ h0 h1 => ?_, fun p₀ q₀ hp hq => ?_⟩
            · rw [gi_si, if_neg (by omega)]; exact vY i₀ h0 h1
            · have e₀ := wY p₀ q₀ hp hq
              unfold mi at e₀ hz ⊢
              rw [gi_si]
              by_cases y₀ : p₀ = k₀ ∧ q₀ = u₀
              · obtain ⟨y1, y2⟩ := y₀
                subst y1
                subst y2
                rw [if_pos ⟨rfl, rfl⟩, if_pos (by omega)]
                exact hz
              · rw [if_neg (by omega), e₀]
                (repeat' split) <;> first | rfl | omega
          clear nex nex2 vY wY vZ wZ v₀ w₀
          refine hK₀ _ _ _ _ _ ?_
          (repeat' (((conv => whnf); first | assumption | refine And.intro (by first | assumption | omega | (simp only [true_and, kd_si, ln_si, gr_si, a5, b5, c5₀, as₀, bs, cs]; first | done | assumption | omega)) ?_ | (refine And.intro (fun _ => ?_) (fun _ => ?_) <;> first | (exfalso; omega) | skip) | intro _ | fail)))
          all_goals ((conv => whnf); rw [a5]; refine nex3 _ _ (by first | rfl | (congr 1; omega)) ?_; rw [← vb]; unfold mi; first | rfl | (congr 2; omega))
      have g₀ := I₀ (si N (m₀ + 5) k₀.toNat (gi M (m₀ + 5) (k₀ + 1).toNat)) (mm_f_si f₀ (Or.inr rfl)) (fun i₀ h0 h1 => by
        rw [gi_si]
        by_cases e₀ : i₀ = k₀
        · subst e₀
          rw [if_pos ⟨rfl, rfl⟩, if_pos (by omega)]
        · rw [if_neg (by omega), v₀ i₀ h0 h1]
          (repeat' split) <;> first | rfl | omega) (fun i₀ j₀ hi hj => by
        have := w₀ i₀ j₀ hi hj
        unfold mi at this ⊢
        rw [gi_si, if_neg (by omega)]
        exact this)
      clear v₀ w₀ nex I₀
      refine hK₀ _ _ _ _ _ ?_
      (repeat' (((conv => whnf); first | assumption | refine And.intro (by first | assumption | omega | (simp only [true_and, kd_si, ln_si, gr_si, a5, b5, c5₀, as₀, bs, cs]; first | done | assumption | omega)) ?_ | (refine And.intro (fun _ => ?_) (fun _ => ?_) <;> first | (exfalso; omega) | skip) | intro _ | fail)))
      all_goals ((conv => whnf); rw [as₀, v0₀]; exact g₀)
  refine hK₀ _ _ _ _ _ ?_
  (repeat' (((conv => whnf); first | assumption | refine And.intro (by first | assumption | omega | (simp only [true_and, kd_si, ln_si, gr_si, a5, b5, c5₀, as₀, bs, cs]; first | done | assumption | omega)) ?_ | (refine And.intro (fun _ => ?_) (fun _ => ?_) <;> first | (exfalso; omega) | skip) | intro _ | fail)))
  all_goals (try ((conv => whnf); (refine Exists.intro _ (Exists.intro _ (And.intro (cX6_in hl) (And.intro ?_ (fun _ _ h₀ => h₀.elim)))); rintro _ _ ⟨rfl, e₀⟩; have e2₀ := e₀.symm; clear e₀; subst e2₀); (repeat' (((conv => whnf); first | assumption | refine And.intro (by first | assumption | omega | (simp only [true_and, kd_si, ln_si, gr_si, a5, b5, c5₀, as₀, bs, cs]; first | done | assumption | omega)) ?_ | (refine And.intro (fun _ => ?_) (fun _ => ?_) <;> first | (exfalso; omega) | skip) | intro _ | fail)))))
  all_goals (try ((conv => whnf); (refine Exists.intro _ (Exists.intro _ (And.intro (cX6_fails hl k7₀) (And.intro ?_ (fun _ _ h₀ => h₀.elim)))); rintro _ _ ⟨rfl, e₀⟩; have e2₀ := e₀.symm; clear e₀; subst e2₀); (repeat' (((conv => whnf); first | assumption | refine And.intro (by first | assumption | omega | (simp only [true_and, kd_si, ln_si, gr_si, a5, b5, c5₀, as₀, bs, cs]; first | done | assumption | omega)) ?_ | (refine And.intro (fun _ => ?_) (fun _ => ?_) <;> first | (exfalso; omega) | skip) | intro _ | fail)))))
  (conv => whnf)
  refine Exists.intro _ (Exists.intro _ (And.intro (cX6_keeps0 hl st₀) (And.intro ?_ (fun _ _ h₀ => h₀.elim))))
  rintro _ P ⟨rfl, kk⟩
  have w₀ := F₀ P kk
  (repeat' (((conv => whnf); first | assumption | refine And.intro (by first | assumption | omega | (simp only [true_and, kd_si, ln_si, gr_si, a5, b5, c5₀, as₀, bs, cs]; first | done | assumption | omega)) ?_ | (refine And.intro (fun _ => ?_) (fun _ => ?_) <;> first | (exfalso; omega) | skip) | intro _ | fail)))

def mi_dc (M : mg_M) (m₀ : Nat) (x₀ : Int) (p₀ q₀ : Int) : Int := if q₀ < x₀ then mi M (m₀ + 1) p₀ q₀ else mi M (m₀ + 1) (p₀) (q₀ + 1)
def mi_dw (M : mg_M) (m₀ : Nat) (x₀ k₀ : Int) : Int := if k₀ < x₀ then gi M (m₀ + 4) k₀.toNat else gi M (m₀ + 4) (k₀ + 1).toNat
set_option maxRecDepth 100000 in
theorem cX6_deleteColumn1 {D : mg_D} {l : Launch} (hl : l.stackTraces = false) {M : mg_M} {m₀ : Nat} {x₀ : Int} (st₀ : mm_st M m₀) (rc : mm_rc M m₀) (h₀ : ¬ (0 ≤ x₀ ∧ x₀ < gi M m₀ 2)) : mg_Mt D l 149 [.inr (.inl m₀), .inl x₀] M (fun v₀ N => v₀ = some (.inl 0) ∧ N = si M m₀ 0 1) mg_no := by
  refine mg_of2 hl ok_X6_deleteColumn al_X6_deleteColumn rfl (fun K hK₀ => ?_)
  have k7₀ := st₀.1
  have rc' := rc
  unfold mm_rc at rc'
  refine hK₀ _ _ _ _ _ ?_
  (repeat' (((conv => whnf); first | assumption | refine And.intro (by first | assumption | omega | (simp only [true_and]; first | done | assumption | omega)) ?_ | (refine And.intro (fun _ => ?_) (fun _ => ?_) <;> first | (exfalso; omega) | skip) | intro _ | fail)))
  all_goals (try ((conv => whnf); (refine Exists.intro _ (Exists.intro _ (And.intro (cX6_in hl) (And.intro ?_ (fun _ _ h₀ => h₀.elim)))); rintro _ _ ⟨rfl, e₀⟩; have e2₀ := e₀.symm; clear e₀; subst e2₀); (repeat' (((conv => whnf); first | assumption | refine And.intro (by first | assumption | omega | (simp only [true_and]; first | done | assumption | omega)) ?_ | (refine And.intro (fun _ => ?_) (fun _ => ?_) <;> first | (exfalso; omega) | skip) | intro _ | fail)))))
  all_goals (try ((conv => whnf); (refine Exists.intro _ (Exists.intro _ (And.intro (cX6_fails hl k7₀) (And.intro ?_ (fun _ _ h₀ => h₀.elim)))); rintro _ _ ⟨rfl, e₀⟩; have e2₀ := e₀.symm; clear e₀; subst e2₀); (repeat' (((conv => whnf); first | assumption | refine And.intro (by first | assumption | omega | (simp only [true_and]; first | done | assumption | omega)) ?_ | (refine And.intro (fun _ => ?_) (fun _ => ?_) <;> first | (exfalso; omega) | skip) | intro _ | fail)))))
  all_goals ((conv => whnf) <;> first | rfl | exact And.intro rfl rfl)
set_option maxRecDepth 100000 in
theorem cX6_deleteColumn2 {D : mg_D} {l : Launch} (hl : l.stackTraces = false) {M : mg_M} {m₀ : Nat} {x₀ : Int} (st₀ : mm_st M m₀) (rc : mm_rc M m₀) (h₀ : 0 ≤ x₀ ∧ x₀ < gi M m₀ 2) (h2 : gi M m₀ 2 = 1) : mg_Mt D l 149 [.inr (.inl m₀), .inl x₀] M (fun v₀ N => v₀ = some (.inl 0) ∧ N = si M m₀ 0 2) mg_no := by
  refine mg_of2 hl ok_X6_deleteColumn al_X6_deleteColumn rfl (fun K hK₀ => ?_)
  have k7₀ := st₀.1
  have rc' := rc
  unfold mm_rc at rc'
  refine hK₀ _ _ _ _ _ ?_
  (repeat' (((conv => whnf); first | assumption | refine And.intro (by first | assumption | omega | (simp only [true_and]; first | done | assumption | omega)) ?_ | (refine And.intro (fun _ => ?_) (fun _ => ?_) <;> first | (exfalso; omega) | skip) | intro _ | fail)))
  all_goals (try ((conv => whnf); (refine Exists.intro _ (Exists.intro _ (And.intro (cX6_in hl) (And.intro ?_ (fun _ _ h₀ => h₀.elim)))); rintro _ _ ⟨rfl, e₀⟩; have e2₀ := e₀.symm; clear e₀; subst e2₀); (repeat' (((conv => whnf); first | assumption | refine And.intro (by first | assumption | omega | (simp only [true_and]; first | done | assumption | omega)) ?_ | (refine And.intro (fun _ => ?_) (fun _ => ?_) <;> first | (exfalso; omega) | skip) | intro _ | fail)))))
  all_goals (try ((conv => whnf); (refine Exists.intro _ (Exists.intro _ (And.intro (cX6_fails hl k7₀) (And.intro ?_ (fun _ _ h₀ => h₀.elim)))); rintro _ _ ⟨rfl, e₀⟩; have e2₀ := e₀.symm; clear e₀; subst e2₀); (repeat' (((conv => whnf); first | assumption | refine And.intro (by first | assumption | omega | (simp only [true_and]; first | done | assumption | omega)) ?_ | (refine And.intro (fun _ => ?_) (fun _ => ?_) <;> first | (exfalso; omega) | skip) | intro _ | fail)))))
  all_goals ((conv => whnf) <;> first | rfl | exact And.intro rfl rfl)
set_option maxRecDepth 100000 in
theorem cX6_deleteColumn0 {D : mg_D} {l : Launch} (hl : l.stackTraces = false) {M : mg_M} {m₀ : Nat} {x₀ : Int} {T L₀ H₀ W₀ : Int → Int → Int} (st₀ : mm_st M m₀) (rc : mm_rc M m₀) (h₀ : 0 ≤ x₀ ∧ x₀ < gi M m₀ 2) (h2 : gi M m₀ 2 ≠ 1) (hb₀ : 1 ≤ gi M m₀ 1 ∧ 1 ≤ gi M m₀ 2) (hh : 0 ≤ gi M m₀ 3 ∧ gi M m₀ 3 ≤ gi M m₀ 1) (h4 : 0 ≤ gi M m₀ 4 ∧ gi M m₀ 4 ≤ 120) (hid₀ : ∀ r₀ c₀, mh_rg (gi M m₀ 1) (gi M m₀ 2) r₀ c₀ → 0 ≤ mi M (m₀ + 1) r₀ c₀ ∧ mi M (m₀ + 1) r₀ c₀ < 120) (t₀ : mh_til (gi M m₀ 1) (gi M m₀ 2 - 1) (mi_dc M m₀ x₀) T L₀ H₀ W₀) : mg_Mt D l 149 [.inr (.inl m₀), .inl x₀] M (fun v₀ N => v₀ = some (.inl (gi M m₀ 4 - gi N m₀ 4)) ∧ mm_nw M N m₀ (gi M m₀ 1) (gi M m₀ 2 - 1) (gi M m₀ 3) (mi_dc M m₀ x₀) (fun k₀ => gi M (m₀ + 2) k₀.toNat) (fun k₀ => gi M (m₀ + 3) k₀.toNat) (mi_dw M m₀ x₀) (fun k₀ => gi M (m₀ + 5) k₀.toNat) ∧ mm_se N m₀ (gi M m₀ 1) (gi M m₀ 2 - 1) T L₀ H₀ W₀) mg_no := by
  refine mg_of2 hl ok_X6_deleteColumn al_X6_deleteColumn rfl (fun K hK₀ => ?_)
  have k7₀ := st₀.1
  have rc' := rc
  unfold mm_rc at rc'
  obtain ⟨a5, b5, c5₀⟩ := st₀.2.1.1
  obtain ⟨as₀, bs, cs⟩ := st₀.2.1.2.2.2.1
  have hid' : ∀ p₀ q₀, mh_rg (gi M m₀ 2) (gi M m₀ 1) p₀ q₀ → 0 ≤ mi M (m₀ + 1) q₀ p₀ ∧ mi M (m₀ + 1) q₀ p₀ < 120 := fun p₀ q₀ z₀ => hid₀ _ _ (by omega)
  have F₀ : ∀ P3, mm_kk M P3 m₀ → K 46 [(0, Sum.inr (Sum.inl m₀)), (2, Sum.inl x₀)] [] P3 0 := by
    intro P3 kk
    have f3₀ := kk.1
    have kt : mm_kt M P3 m₀ := kk.2.2
    have z0 := kk.2.1
    have stP := mm_f_st f3₀ st₀
    have s1₀ := mm_f_gi f3₀ m₀ 2 (by omega)
    have s2₀ := mm_f_gi f3₀ m₀ 1 (by omega)
    have s4₀ := mm_f_gi f3₀ m₀ 4 (by omega)
    refine mh_for (P := fun k₀ N => mm_f (fun b₀ _ => b₀ = m₀ + 1 ∨ b₀ = m₀ + 4) P3 N ∧ (∀ i₀, 0 ≤ i₀ → i₀ < 10 → gi N (m₀ + 4) i₀.toNat = if x₀ ≤ i₀ ∧ i₀ < k₀ then gi M (m₀ + 4) (i₀ + 1).toNat else gi M (m₀ + 4) i₀.toNat) ∧ (∀ i₀ j₀, 0 ≤ i₀ ∧ i₀ < 10 → 0 ≤ j₀ ∧ j₀ < gi M m₀ 1 → mi N (m₀ + 1) j₀ i₀ = if x₀ ≤ i₀ ∧ i₀ < k₀ then mi M (m₀ + 1) j₀ (i₀ + 1) else mi M (m₀ + 1) j₀ i₀)) (G := fun k₀ N => K 46 [(0, Sum.inr (Sum.inl m₀)), (2, Sum.inl k₀)] [] N 0) (hi := gi M m₀ 2 - 1) (by omega) ?_ ?_ P3 ⟨mm_f_rfl, fun i₀ h0 h1 => by rw [if_neg (by omega)]; exact mm_f_gi f3₀ (m₀ + 4) _ (by omega), fun i₀ j₀ h0 h1 => by rw [if_neg (by omega)]; exact mm_f_gi f3₀ (m₀ + 1) _ (by omega)⟩
    · rintro N ⟨f5₀, v5, v1₀⟩
      have fN₀ : mm_f (mm_sB m₀) M N := mm_f_tr (mm_f_mono f3₀ (fun b₀ k₀ z₀ => by omega)) (mm_f_mono f5₀ (fun b₀ k₀ z₀ => by omega))
      have stN₀ := mm_f_st f5₀ stP
      have k7N := stN₀.1
      have u1₀ := (mm_f_gi f5₀ m₀ 1 (by omega)).trans (mm_f_gi f3₀ m₀ 1 (by omega))
      have u2₀ := (mm_f_gi f5₀ m₀ 2 (by omega)).trans (mm_f_gi f3₀ m₀ 2 (by omega))
      have u3 := (mm_f_gi f5₀ m₀ 3 (by omega)).trans (mm_f_gi f3₀ m₀ 3 (by omega))
      have PR₀ : ∀ Z₀, mm_f (fun b₀ k₀ => b₀ = m₀ ∧ (k₀ = 1 ∨ k₀ = 2 ∨ k₀ = 3)) N Z₀ → gi Z₀ m₀ 1 = gi M m₀ 1 → gi Z₀ m₀ 2 = gi M m₀ 2 - 1 → gi Z₀ m₀ 3 = gi M m₀ 3 → mm_pre M Z₀ m₀ (gi M m₀ 1) (gi M m₀ 2 - 1) (gi M m₀ 3) (mi_dc M m₀ x₀) (fun k₀ => gi M (m₀ + 2) k₀.toNat) (fun k₀ => gi M (m₀ + 3) k₀.toNat) (mi_dw M m₀ x₀) (fun k₀ => gi M (m₀ + 5) k₀.toNat) := by
        intro Z₀ fZ q1₀ q2₀ q3₀
        have ej : ∀ p₀ q₀, 0 ≤ p₀ ∧ p₀ < gi M m₀ 2 - 1 → 0 ≤ q₀ ∧ q₀ < gi M m₀ 1 → mi N (m₀ + 1) q₀ p₀ = mi_dc M m₀ x₀ q₀ p₀ := by
          intro p₀ q₀ hp hq
          rw [v1₀ p₀ q₀ (by omega) hq]
          unfold mi_dc
          (repeat' split) <;> first | rfl | (exfalso; omega) | (congr 1; omega)
        have eb : ∀ p₀ q₀, 0 ≤ p₀ ∧ p₀ < gi M m₀ 2 - 1 → 0 ≤ q₀ ∧ q₀ < gi M m₀ 1 → 0 ≤ mi_dc M m₀ x₀ q₀ p₀ ∧ mi_dc M m₀ x₀ q₀ p₀ < 140 := by
          intro p₀ q₀ hp hq
          have z1 := fun w₀ => hid' p₀ q₀ ⟨w₀, hq⟩
          have z2 := fun w₀ => hid' (p₀ + 1) q₀ ⟨w₀, hq⟩
          unfold mi_dc
          (repeat' split)
          · have := z1 (by omega); omega
          · have := z2 (by omega); omega
        refine ⟨mm_f_tr fN₀ (mm_f_mono fZ (fun b₀ k₀ z₀ => by omega)), ⟨?_, q1₀, q2₀, q3₀⟩, ?_, by omega, ?_, ?_, ?_, ?_⟩
        · rw [mm_f_gi fZ m₀ 0 (by omega), mm_f_gi f5₀ m₀ 0 (by omega)]; exact z0
        · exact mm_kt_f fZ (fun k₀ _ _ => by omega) (fun b₀ k₀ _ _ => by omega) (mm_kt_f f5₀ (fun k₀ _ _ => by omega) (fun b₀ k₀ _ _ => by omega) kt)
        · intro r₀ c₀ hr
          have e1₀ : mi Z₀ (m₀ + 1) r₀ c₀ = mi N (m₀ + 1) r₀ c₀ := mm_f_gi fZ (m₀ + 1) _ (by omega)
          have e2₀ := ej c₀ r₀ (by omega) (by omega)
          have e3₀ := eb c₀ r₀ (by omega) (by omega)
          rw [e1₀, e2₀]
          exact ⟨rfl, e3₀.1, e3₀.2⟩
        · intro r₀ c₀ hr
          rw [mm_f_gi fZ (m₀ + 2) _ (by omega), mm_f_gi f5₀ (m₀ + 2) _ (by omega), mm_f_gi fZ (m₀ + 3) _ (by omega), mm_f_gi f5₀ (m₀ + 3) _ (by omega), mm_f_gi f3₀ (m₀ + 2) _ (by omega), mm_f_gi f3₀ (m₀ + 3) _ (by omega)]
          exact ⟨rfl, rfl⟩
        · intro k₀ h0 h1
          rw [mm_f_gi fZ (m₀ + 4) _ (by omega)]
          rw [v5 k₀ h0 (by omega)]; unfold mi_dw; (repeat' split) <;> first | rfl | omega
        · intro k₀ h0 h1
          rw [mm_f_gi fZ (m₀ + 5) _ (by omega)]
          rw [mm_f_gi f5₀ (m₀ + 5) _ (by omega), mm_f_gi f3₀ (m₀ + 5) _ (by omega)]
      clear v5 v1₀
      have TL : ∀ Z₀, mm_f (fun b₀ k₀ => b₀ = m₀ ∧ (k₀ = 1 ∨ k₀ = 2 ∨ k₀ = 3)) N Z₀ → gi Z₀ m₀ 1 = gi M m₀ 1 → gi Z₀ m₀ 2 = gi M m₀ 2 - 1 → gi Z₀ m₀ 3 = gi M m₀ 3 → mg_Mt D l 129 [.inr (.inl m₀)] Z₀ (fun v₀ P => v₀ = none ∧ mm_nw M P m₀ (gi M m₀ 1) (gi M m₀ 2 - 1) (gi M m₀ 3) (mi_dc M m₀ x₀) (fun k₀ => gi M (m₀ + 2) k₀.toNat) (fun k₀ => gi M (m₀ + 3) k₀.toNat) (mi_dw M m₀ x₀) (fun k₀ => gi M (m₀ + 5) k₀.toNat)) mg_no := by
        intro Z₀ fZ q1₀ q2₀ q3₀
        have pr := PR₀ Z₀ fZ q1₀ q2₀ q3₀
        obtain ⟨y1, y2⟩ := mm_pre_rc pr
        exact mg_MtN (cX6_settles hl (mm_f_st fZ stN₀) y1 y2) (fun v₀ P z₀ => ⟨z₀.1, mm_pre_set pr z₀.2⟩)
      clear PR₀
      skip
      have u5 : gi N m₀ 4 = gi M m₀ 4 := (mm_f_gi f5₀ m₀ 4 (by omega)).trans s4₀
      refine hK₀ _ _ _ _ _ ?_
      (repeat' (((conv => whnf); first | assumption | refine And.intro (by first | assumption | omega | (simp only [true_and, kd_si, ln_si, gr_si, a5, b5, c5₀, as₀, bs, cs]; first | done | assumption | omega)) ?_ | (refine And.intro (fun _ => ?_) (fun _ => ?_) <;> first | (exfalso; omega) | skip) | intro _ | fail)))
      all_goals (
        (conv => whnf)
        refine Exists.intro _ (Exists.intro _ (And.intro (TL _ ?_ ?_ ?_ ?_) (And.intro ?_ (fun _ _ h₀ => h₀.elim))))
        · exact mm_f_si mm_f_rfl (by omega)
        · rw [gi_si, if_neg (by omega)]; exact u1₀
        · rw [gi_si, if_pos ⟨rfl, rfl⟩]; omega
        · rw [gi_si, if_neg (by omega)]; exact u3
        · first | rw [show gi (si N m₀ 2 (gi N m₀ 2 - 1)) m₀ 4 = gi M m₀ 4 by rw [gi_si, if_neg (by omega), u5]] | skip
          rintro _ N2 ⟨rfl, nw⟩
          have k72 : kd N2 m₀ = 7 := (nw.1.1 m₀).trans st₀.1
          (repeat' (((conv => whnf); first | assumption | refine And.intro (by first | assumption | omega | (simp only [true_and, kd_si, ln_si, gr_si, a5, b5, c5₀, as₀, bs, cs]; first | done | assumption | omega)) ?_ | (refine And.intro (fun _ => ?_) (fun _ => ?_) <;> first | (exfalso; omega) | skip) | intro _ | fail)))
          all_goals (
            (conv => whnf)
            refine Exists.intro _ (Exists.intro _ (And.intro (cX6_starts hl st₀ (by omega) nw t₀) (And.intro ?_ (fun _ _ h₀ => h₀.elim))))
            rintro _ N3 ⟨rfl, Q1₀, Q2₀⟩
            have k73 : kd N3 m₀ = 7 := (Q1₀.1.1 m₀).trans st₀.1
            have z4 := Q1₀.2.2.2.1
            have Q₀ := And.intro (Eq.refl (some (Sum.inl (gi M m₀ 4 - gi N3 m₀ 4) : mg_V))) (And.intro Q1₀ Q2₀)
            (repeat' (((conv => whnf); first | assumption | refine And.intro (by first | assumption | omega | (simp only [true_and, kd_si, ln_si, gr_si, a5, b5, c5₀, as₀, bs, cs]; first | done | assumption | omega)) ?_ | (refine And.intro (fun _ => ?_) (fun _ => ?_) <;> first | (exfalso; omega) | skip) | intro _ | fail)))
            all_goals ((conv => whnf); exact Q₀)))
    · rintro k₀ N k0₀ k1₀ ⟨f₀, v₀, w₀⟩ nex
      have stN₀ := mm_f_st f₀ stP
      have k7N := stN₀.1
      have t1₀ := (mm_f_gi f₀ m₀ 2 (by omega)).trans s1₀
      obtain ⟨as₀, bs, cs⟩ := stN₀.2.1.2.2.2.1
      have v0₀ := v₀ (k₀ + 1) (by omega) (by omega)
      rw [if_neg (by omega)] at v0₀
      have I₀ : ∀ Z₀, mm_f (fun b₀ _ => b₀ = m₀ + 1 ∨ b₀ = m₀ + 4) P3 Z₀ → (∀ i₀, 0 ≤ i₀ → i₀ < 10 → gi Z₀ (m₀ + 4) i₀.toNat = if x₀ ≤ i₀ ∧ i₀ < k₀ + 1 then gi M (m₀ + 4) (i₀ + 1).toNat else gi M (m₀ + 4) i₀.toNat) → (∀ i₀ j₀, 0 ≤ i₀ ∧ i₀ < 10 → 0 ≤ j₀ ∧ j₀ < gi M m₀ 1 → mi Z₀ (m₀ + 1) j₀ i₀ = if x₀ ≤ i₀ ∧ i₀ < k₀ then mi M (m₀ + 1) j₀ (i₀ + 1) else mi M (m₀ + 1) j₀ i₀) → K 72 [(0, Sum.inr (Sum.inl m₀)), (2, Sum.inl k₀), (3, Sum.inl 0)] [] Z₀ 0 := by
        intro Z₀ fZ vZ wZ
        refine mh_for (P := fun u₀ N => mm_f (fun b₀ _ => b₀ = m₀ + 1 ∨ b₀ = m₀ + 4) P3 N ∧ (∀ i₀, 0 ≤ i₀ → i₀ < 10 → gi N (m₀ + 4) i₀.toNat = if x₀ ≤ i₀ ∧ i₀ < k₀ + 1 then gi M (m₀ + 4) (i₀ + 1).toNat else gi M (m₀ + 4) i₀.toNat) ∧ (∀ i₀ j₀, 0 ≤ i₀ ∧ i₀ < 10 → 0 ≤ j₀ ∧ j₀ < gi M m₀ 1 → mi N (m₀ + 1) j₀ i₀ = if (x₀ ≤ i₀ ∧ i₀ < k₀) ∨ (i₀ = k₀ ∧ j₀ < u₀) then mi M (m₀ + 1) j₀ (i₀ + 1) else mi M (m₀ + 1) j₀ i₀)) (G := fun u₀ N => K 72 [(0, Sum.inr (Sum.inl m₀)), (2, Sum.inl k₀), (3, Sum.inl u₀)] [] N 0) (lo := 0) (hi := gi M m₀ 1) (by omega) ?_ ?_ Z₀ ⟨fZ, vZ, fun i₀ j₀ hi hj => by rw [wZ i₀ j₀ hi hj]; (repeat' split) <;> first | rfl | omega⟩
        · rintro Y ⟨fY, vY, wY⟩
          have stY := mm_f_st fY stP
          have k7Y := stY.1
          have t2₀ := (mm_f_gi fY m₀ 1 (by omega)).trans s2₀
          have g₀ := nex Y ⟨fY, vY, fun i₀ j₀ hi hj => by rw [wY i₀ j₀ hi hj]; (repeat' split) <;> first | rfl | omega⟩
          clear nex vY wY vZ wZ v₀ w₀
          refine hK₀ _ _ _ _ _ ?_
          (repeat' (((conv => whnf); first | assumption | refine And.intro (by first | assumption | omega | (simp only [true_and, kd_si, ln_si, gr_si, a5, b5, c5₀, as₀, bs, cs]; first | done | assumption | omega)) ?_ | (refine And.intro (fun _ => ?_) (fun _ => ?_) <;> first | (exfalso; omega) | skip) | intro _ | fail)))
        · rintro u₀ Y u0 u1₀ ⟨fY, vY, wY⟩ nex2
          have stY := mm_f_st fY stP
          have k7Y := stY.1
          have t2₀ := (mm_f_gi fY m₀ 1 (by omega)).trans s2₀
          obtain ⟨a5, b5, c5₀⟩ := stY.2.1.1
          have vb := wY (k₀ + 1) u₀ (by omega) (by omega)
          rw [if_neg (by omega)] at vb
          have nex3 : ∀ i₀ z₀, i₀ = (10 * u₀ + k₀).toNat → z₀ = mi M (m₀ + 1) u₀ (k₀ + 1) → K 72 [(0, Sum.inr (Sum.inl m₀)), (2, Sum.inl k₀), (3, Sum.inl (u₀ + 1))] [] (si Y (m₀ + 1) i₀ z₀) 0 := by
            intro i₀ z₀ hi hz
            subst hi
            refine nex2 _ ⟨mm_f_si fY (Or.inl rfl), fun i₀ h0 h1 => ?_, fun p₀ q₀ hp hq => ?_⟩
            · rw [gi_si, if_neg (by omega)]; exact vY i₀ h0 h1
            · have e₀ := wY p₀ q₀ hp hq
              unfold mi at e₀ hz ⊢
              rw [gi_si]
              by_cases y₀ : p₀ = k₀ ∧ q₀ = u₀
              · obtain ⟨y1, y2⟩ := y₀
                subst y1
                subst y2
                rw [if_pos ⟨rfl, rfl⟩, if_pos (by omega)]
                exact hz
              · rw [if_neg (by omega), e₀]
                (repeat' split) <;> first | rfl | omega
          clear nex nex2 vY wY vZ wZ v₀ w₀
          refine hK₀ _ _ _ _ _ ?_
          (repeat' (((conv => whnf); first | assumption | refine And.intro (by first | assumption | omega | (simp only [true_and, kd_si, ln_si, gr_si, a5, b5, c5₀, as₀, bs, cs]; first | done | assumption | omega)) ?_ | (refine And.intro (fun _ => ?_) (fun _ => ?_) <;> first | (exfalso; omega) | skip) | intro _ | fail)))
          all_goals ((conv => whnf); rw [a5]; refine nex3 _ _ (by first | rfl | (congr 1; omega)) ?_; rw [← vb]; unfold mi; first | rfl | (congr 2; omega))
      have g₀ := I₀ (si N (m₀ + 4) k₀.toNat (gi M (m₀ + 4) (k₀ + 1).toNat)) (mm_f_si f₀ (Or.inr rfl)) (fun i₀ h0 h1 => by
        rw [gi_si]
        by_cases e₀ : i₀ = k₀
        · subst e₀
          rw [if_pos ⟨rfl, rfl⟩, if_pos (by omega)]
        · rw [if_neg (by omega), v₀ i₀ h0 h1]
          (repeat' split) <;> first | rfl | omega) (fun i₀ j₀ hi hj => by
        have := w₀ i₀ j₀ hi hj
        unfold mi at this ⊢
        rw [gi_si, if_neg (by omega)]
        exact this)
      clear v₀ w₀ nex I₀
      refine hK₀ _ _ _ _ _ ?_
      (repeat' (((conv => whnf); first | assumption | refine And.intro (by first | assumption | omega | (simp only [true_and, kd_si, ln_si, gr_si, a5, b5, c5₀, as₀, bs, cs]; first | done | assumption | omega)) ?_ | (refine And.intro (fun _ => ?_) (fun _ => ?_) <;> first | (exfalso; omega) | skip) | intro _ | fail)))
      all_goals ((conv => whnf); rw [as₀, v0₀]; exact g₀)
  refine hK₀ _ _ _ _ _ ?_
  (repeat' (((conv => whnf); first | assumption | refine And.intro (by first | assumption | omega | (simp only [true_and, kd_si, ln_si, gr_si, a5, b5, c5₀, as₀, bs, cs]; first | done | assumption | omega)) ?_ | (refine And.intro (fun _ => ?_) (fun _ => ?_) <;> first | (exfalso; omega) | skip) | intro _ | fail)))
  all_goals (try ((conv => whnf); (refine Exists.intro _ (Exists.intro _ (And.intro (cX6_in hl) (And.intro ?_ (fun _ _ h₀ => h₀.elim)))); rintro _ _ ⟨rfl, e₀⟩; have e2₀ := e₀.symm; clear e₀; subst e2₀); (repeat' (((conv => whnf); first | assumption | refine And.intro (by first | assumption | omega | (simp only [true_and, kd_si, ln_si, gr_si, a5, b5, c5₀, as₀, bs, cs]; first | done | assumption | omega)) ?_ | (refine And.intro (fun _ => ?_) (fun _ => ?_) <;> first | (exfalso; omega) | skip) | intro _ | fail)))))
  all_goals (try ((conv => whnf); (refine Exists.intro _ (Exists.intro _ (And.intro (cX6_fails hl k7₀) (And.intro ?_ (fun _ _ h₀ => h₀.elim)))); rintro _ _ ⟨rfl, e₀⟩; have e2₀ := e₀.symm; clear e₀; subst e2₀); (repeat' (((conv => whnf); first | assumption | refine And.intro (by first | assumption | omega | (simp only [true_and, kd_si, ln_si, gr_si, a5, b5, c5₀, as₀, bs, cs]; first | done | assumption | omega)) ?_ | (refine And.intro (fun _ => ?_) (fun _ => ?_) <;> first | (exfalso; omega) | skip) | intro _ | fail)))))
  (conv => whnf)
  refine Exists.intro _ (Exists.intro _ (And.intro (cX6_keeps0 hl st₀) (And.intro ?_ (fun _ _ h₀ => h₀.elim))))
  rintro _ P ⟨rfl, kk⟩
  have w₀ := F₀ P kk
  (repeat' (((conv => whnf); first | assumption | refine And.intro (by first | assumption | omega | (simp only [true_and, kd_si, ln_si, gr_si, a5, b5, c5₀, as₀, bs, cs]; first | done | assumption | omega)) ?_ | (refine And.intro (fun _ => ?_) (fun _ => ?_) <;> first | (exfalso; omega) | skip) | intro _ | fail)))
