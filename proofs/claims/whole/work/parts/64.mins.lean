
def mi_ir (M : mg_M) (m₀ : Nat) (x₀ : Int) (p₀ q₀ : Int) : Int := if p₀ < x₀ then mi M (m₀ + 1) p₀ q₀ else if x₀ < p₀ then mi M (m₀ + 1) (p₀ - 1) (q₀) else if (0 < x₀ ∧ x₀ < gi M m₀ 1) ∧ mi M (m₀ + 1) (x₀ - 1) (q₀) = mi M (m₀ + 1) x₀ (q₀) then mi M (m₀ + 1) x₀ (q₀) else 120 + q₀
def mi_ih (M : mg_M) (m₀ : Nat) (x₀ k₀ : Int) : Int := if k₀ < x₀ then gi M (m₀ + 5) k₀.toNat else if x₀ < k₀ then gi M (m₀ + 5) (k₀ - 1).toNat else 20
def mm_c0 (M : mg_M) (a₀ : Nat) (x₀ : Int) : Int := if x₀ < 120 then gi M a₀ x₀.toNat else 0
set_option maxRecDepth 100000 in
theorem cX6_insertRow1 {D : mg_D} {l : Launch} (hl : l.stackTraces = false) {M : mg_M} {m₀ : Nat} {x₀ : Int} (st₀ : mm_st M m₀) (h₀ : ¬ (0 ≤ x₀ ∧ x₀ ≤ gi M m₀ 1)) : mg_Mt D l 146 [.inr (.inl m₀), .inl x₀] M (fun v₀ N => v₀ = some (.inl 0) ∧ N = si M m₀ 0 1) mg_no := by
  refine mg_of2 hl ok_X6_insertRow al_X6_insertRow rfl (fun K hK₀ => ?_)
  have k7₀ := st₀.1
  refine hK₀ _ _ _ _ _ ?_
  (repeat' (((conv => whnf); first | assumption | refine And.intro (by first | assumption | omega | (simp only [true_and]; first | done | assumption | omega)) ?_ | (refine And.intro (fun _ => ?_) (fun _ => ?_) <;> first | (exfalso; omega) | skip) | intro _ | fail)))
  all_goals (try ((conv => whnf); (refine Exists.intro _ (Exists.intro _ (And.intro (cX6_in hl) (And.intro ?_ (fun _ _ h₀ => h₀.elim)))); rintro _ _ ⟨rfl, e₀⟩; have e2₀ := e₀.symm; clear e₀; subst e2₀); (repeat' (((conv => whnf); first | assumption | refine And.intro (by first | assumption | omega | (simp only [true_and]; first | done | assumption | omega)) ?_ | (refine And.intro (fun _ => ?_) (fun _ => ?_) <;> first | (exfalso; omega) | skip) | intro _ | fail)))))
  all_goals (try ((conv => whnf); (refine Exists.intro _ (Exists.intro _ (And.intro (cX6_fails hl k7₀) (And.intro ?_ (fun _ _ h₀ => h₀.elim)))); rintro _ _ ⟨rfl, e₀⟩; have e2₀ := e₀.symm; clear e₀; subst e2₀); (repeat' (((conv => whnf); first | assumption | refine And.intro (by first | assumption | omega | (simp only [true_and]; first | done | assumption | omega)) ?_ | (refine And.intro (fun _ => ?_) (fun _ => ?_) <;> first | (exfalso; omega) | skip) | intro _ | fail)))))
  all_goals ((conv => whnf) <;> first | rfl | exact And.intro rfl rfl)
set_option maxRecDepth 100000 in
theorem cX6_insertRow2 {D : mg_D} {l : Launch} (hl : l.stackTraces = false) {M : mg_M} {m₀ : Nat} {x₀ : Int} (st₀ : mm_st M m₀) (h₀ : 0 ≤ x₀ ∧ x₀ ≤ gi M m₀ 1) (h2 : gi M m₀ 1 = 12) : mg_Mt D l 146 [.inr (.inl m₀), .inl x₀] M (fun v₀ N => v₀ = some (.inl 0) ∧ N = si M m₀ 0 2) mg_no := by
  refine mg_of2 hl ok_X6_insertRow al_X6_insertRow rfl (fun K hK₀ => ?_)
  have k7₀ := st₀.1
  refine hK₀ _ _ _ _ _ ?_
  (repeat' (((conv => whnf); first | assumption | refine And.intro (by first | assumption | omega | (simp only [true_and]; first | done | assumption | omega)) ?_ | (refine And.intro (fun _ => ?_) (fun _ => ?_) <;> first | (exfalso; omega) | skip) | intro _ | fail)))
  all_goals (try ((conv => whnf); (refine Exists.intro _ (Exists.intro _ (And.intro (cX6_in hl) (And.intro ?_ (fun _ _ h₀ => h₀.elim)))); rintro _ _ ⟨rfl, e₀⟩; have e2₀ := e₀.symm; clear e₀; subst e2₀); (repeat' (((conv => whnf); first | assumption | refine And.intro (by first | assumption | omega | (simp only [true_and]; first | done | assumption | omega)) ?_ | (refine And.intro (fun _ => ?_) (fun _ => ?_) <;> first | (exfalso; omega) | skip) | intro _ | fail)))))
  all_goals (try ((conv => whnf); (refine Exists.intro _ (Exists.intro _ (And.intro (cX6_fails hl k7₀) (And.intro ?_ (fun _ _ h₀ => h₀.elim)))); rintro _ _ ⟨rfl, e₀⟩; have e2₀ := e₀.symm; clear e₀; subst e2₀); (repeat' (((conv => whnf); first | assumption | refine And.intro (by first | assumption | omega | (simp only [true_and]; first | done | assumption | omega)) ?_ | (refine And.intro (fun _ => ?_) (fun _ => ?_) <;> first | (exfalso; omega) | skip) | intro _ | fail)))))
  all_goals ((conv => whnf) <;> first | rfl | exact And.intro rfl rfl)
set_option maxRecDepth 100000 in
theorem cX6_insertRow0 {D : mg_D} {l : Launch} (hl : l.stackTraces = false) {M : mg_M} {m₀ : Nat} {x₀ : Int} {T L₀ H₀ W₀ : Int → Int → Int} (st₀ : mm_st M m₀) (rc : mm_rc M m₀) (h₀ : 0 ≤ x₀ ∧ x₀ ≤ gi M m₀ 1) (h2 : gi M m₀ 1 < 12) (hb₀ : 1 ≤ gi M m₀ 1 ∧ 1 ≤ gi M m₀ 2) (hh : 0 ≤ gi M m₀ 3 ∧ gi M m₀ 3 ≤ gi M m₀ 1) (hid₀ : ∀ r₀ c₀, mh_rg (gi M m₀ 1) (gi M m₀ 2) r₀ c₀ → 0 ≤ mi M (m₀ + 1) r₀ c₀ ∧ mi M (m₀ + 1) r₀ c₀ < 120) (t₀ : mh_til (gi M m₀ 1 + 1) (gi M m₀ 2) (mi_ir M m₀ x₀) T L₀ H₀ W₀) : mg_Mt D l 146 [.inr (.inl m₀), .inl x₀] M (fun v₀ N => v₀ = some (.inl (gi N m₀ 4)) ∧ mm_nw M N m₀ (gi M m₀ 1 + 1) (gi M m₀ 2) (gi M m₀ 3 + (if x₀ < gi M m₀ 3 then 1 else 0)) (mi_ir M m₀ x₀) (mm_c0 M (m₀ + 2)) (mm_c0 M (m₀ + 3)) (fun k₀ => gi M (m₀ + 4) k₀.toNat) (mi_ih M m₀ x₀) ∧ mm_se N m₀ (gi M m₀ 1 + 1) (gi M m₀ 2) T L₀ H₀ W₀) mg_no := by
  refine mg_of2 hl ok_X6_insertRow al_X6_insertRow rfl (fun K hK₀ => ?_)
  have k7₀ := st₀.1
  have rc' := rc
  unfold mm_rc at rc'
  obtain ⟨a5, b5, c5₀⟩ := st₀.2.1.1
  obtain ⟨as₀, bs, cs⟩ := st₀.2.1.2.2.2.2
  obtain ⟨a19, b19, c19₀⟩ := st₀.2.2.2.1
  have hid' : ∀ p₀ q₀, mh_rg (gi M m₀ 1) (gi M m₀ 2) p₀ q₀ → 0 ≤ mi M (m₀ + 1) p₀ q₀ ∧ mi M (m₀ + 1) p₀ q₀ < 120 := fun p₀ q₀ z₀ => hid₀ _ _ (by omega)
  have F₀ : ∀ P3, mm_f (fun b₀ k₀ => mm_sM m₀ b₀ k₀ ∨ b₀ = m₀ + 11 ∨ ((b₀ = m₀ + 2 ∨ b₀ = m₀ + 3) ∧ 120 ≤ k₀)) M P3 → mm_kt M P3 m₀ → gi P3 m₀ 0 = 0 → (∀ k₀ : Nat, k₀ < 120 → gi P3 (m₀ + 11) k₀ = gi M (m₀ + 1) k₀) → (∀ k₀ : Nat, 120 ≤ k₀ → k₀ < 140 → gi P3 (m₀ + 2) k₀ = 0 ∧ gi P3 (m₀ + 3) k₀ = 0) → K 56 [(0, Sum.inr (Sum.inl m₀)), (1, Sum.inl x₀), (2, Sum.inl (gi M m₀ 1))] [] P3 0 := by
    intro P3 f3₀ kt z0 va vz
    have stP := mm_f_st f3₀ st₀
    have s1₀ := mm_f_gi f3₀ m₀ 1 (by omega)
    have s2₀ := mm_f_gi f3₀ m₀ 2 (by omega)
    have va' : ∀ y₀ : Int, 0 ≤ y₀ → y₀ < 120 → gi P3 (m₀ + 11) y₀.toNat = gi M (m₀ + 1) y₀.toNat := fun y₀ y0 y1 => va _ (by omega)
    have G3 : ∀ N, mm_f (fun b₀ _ => b₀ = m₀ + 1 ∨ b₀ = m₀ + 5) P3 N → (∀ k₀, 0 ≤ k₀ → k₀ < 12 → gi N (m₀ + 5) k₀.toNat = if k₀ ≤ gi M m₀ 1 then mi_ih M m₀ x₀ k₀ else gi M (m₀ + 5) k₀.toNat) → (∀ i₀ j₀, 0 ≤ i₀ ∧ i₀ < 12 → 0 ≤ j₀ ∧ j₀ < gi M m₀ 2 → mi N (m₀ + 1) i₀ j₀ = if x₀ < i₀ ∧ i₀ ≤ gi M m₀ 1 then mi M (m₀ + 1) (i₀ - 1) j₀ else mi M (m₀ + 1) i₀ j₀) → K 131 [(0, Sum.inr (Sum.inl m₀)), (1, Sum.inl x₀), (2, Sum.inl 0)] [] N 0 := by
      intro N f5₀ v5 v1₀
      refine mh_for (P := fun j₀ N => mm_f (fun b₀ _ => b₀ = m₀ + 1 ∨ b₀ = m₀ + 5) P3 N ∧ (∀ k₀, 0 ≤ k₀ → k₀ < 12 → gi N (m₀ + 5) k₀.toNat = if k₀ ≤ gi M m₀ 1 then mi_ih M m₀ x₀ k₀ else gi M (m₀ + 5) k₀.toNat) ∧ ∀ p₀ q₀, 0 ≤ p₀ ∧ p₀ < 12 → 0 ≤ q₀ ∧ q₀ < gi M m₀ 2 → mi N (m₀ + 1) p₀ q₀ = if p₀ = x₀ ∧ q₀ < j₀ then (if (0 < x₀ ∧ x₀ < gi M m₀ 1) ∧ mi M (m₀ + 1) (x₀ - 1) q₀ = mi M (m₀ + 1) x₀ q₀ then mi M (m₀ + 1) x₀ q₀ else 120 + q₀) else if x₀ < p₀ ∧ p₀ ≤ gi M m₀ 1 then mi M (m₀ + 1) (p₀ - 1) q₀ else mi M (m₀ + 1) p₀ q₀) (G := fun j₀ N => K 131 [(0, Sum.inr (Sum.inl m₀)), (1, Sum.inl x₀), (2, Sum.inl j₀)] [] N 0) (lo := 0) (hi := gi M m₀ 2) (by omega) ?_ ?_ N ⟨f5₀, v5, fun p₀ q₀ hp hq => by rw [if_neg (by omega)]; exact v1₀ p₀ q₀ hp hq⟩
      · clear v5 v1₀ f5₀
        rintro N ⟨f5₀, v5, v1₀⟩
        have fN₀ : mm_f (mm_sB m₀) M N := mm_f_tr (mm_f_mono f3₀ (fun b₀ k₀ z₀ => by omega)) (mm_f_mono f5₀ (fun b₀ k₀ z₀ => by omega))
        have stN₀ := mm_f_st f5₀ stP
        have k7N := stN₀.1
        have u1₀ := (mm_f_gi f5₀ m₀ 1 (by omega)).trans (mm_f_gi f3₀ m₀ 1 (by omega))
        have u2₀ := (mm_f_gi f5₀ m₀ 2 (by omega)).trans (mm_f_gi f3₀ m₀ 2 (by omega))
        have u3 := (mm_f_gi f5₀ m₀ 3 (by omega)).trans (mm_f_gi f3₀ m₀ 3 (by omega))
        have PR₀ : ∀ Z₀, mm_f (fun b₀ k₀ => b₀ = m₀ ∧ (k₀ = 1 ∨ k₀ = 2 ∨ k₀ = 3)) N Z₀ → gi Z₀ m₀ 1 = gi M m₀ 1 + 1 → gi Z₀ m₀ 2 = gi M m₀ 2 → gi Z₀ m₀ 3 = gi M m₀ 3 + (if x₀ < gi M m₀ 3 then 1 else 0) → mm_pre M Z₀ m₀ (gi M m₀ 1 + 1) (gi M m₀ 2) (gi M m₀ 3 + (if x₀ < gi M m₀ 3 then 1 else 0)) (mi_ir M m₀ x₀) (mm_c0 M (m₀ + 2)) (mm_c0 M (m₀ + 3)) (fun k₀ => gi M (m₀ + 4) k₀.toNat) (mi_ih M m₀ x₀) := by
          intro Z₀ fZ q1₀ q2₀ q3₀
          have ej : ∀ p₀ q₀, 0 ≤ p₀ ∧ p₀ < gi M m₀ 1 + 1 → 0 ≤ q₀ ∧ q₀ < gi M m₀ 2 → mi N (m₀ + 1) p₀ q₀ = mi_ir M m₀ x₀ p₀ q₀ := by
            intro p₀ q₀ hp hq
            rw [v1₀ p₀ q₀ (by omega) hq]
            unfold mi_ir
            (repeat' split) <;> first | rfl | (exfalso; omega) | (congr 1; omega)
          have eb : ∀ p₀ q₀, 0 ≤ p₀ ∧ p₀ < gi M m₀ 1 + 1 → 0 ≤ q₀ ∧ q₀ < gi M m₀ 2 → 0 ≤ mi_ir M m₀ x₀ p₀ q₀ ∧ mi_ir M m₀ x₀ p₀ q₀ < 140 ∧ (mi_ir M m₀ x₀ p₀ q₀ < 120 ∨ mi_ir M m₀ x₀ p₀ q₀ = 120 + q₀) := by
            intro p₀ q₀ hp hq
            have z1 := fun w₀ => hid' p₀ q₀ ⟨w₀, hq⟩
            have z2 := fun w₀ => hid' (p₀ - 1) q₀ ⟨w₀, hq⟩
            have z3 := fun w₀ => hid' x₀ q₀ ⟨w₀, hq⟩
            unfold mi_ir
            (repeat' split)
            · have := z1 (by omega); omega
            · have := z2 (by omega); omega
            · have := z3 (by omega); omega
            · omega
          refine ⟨mm_f_tr fN₀ (mm_f_mono fZ (fun b₀ k₀ z₀ => by omega)), ⟨?_, q1₀, q2₀, q3₀⟩, ?_, by omega, ?_, ?_, ?_, ?_⟩
          · rw [mm_f_gi fZ m₀ 0 (by omega), mm_f_gi f5₀ m₀ 0 (by omega)]; exact z0
          · exact mm_kt_f fZ (fun k₀ _ _ => by omega) (fun b₀ k₀ _ _ => by omega) (mm_kt_f f5₀ (fun k₀ _ _ => by omega) (fun b₀ k₀ _ _ => by omega) kt)
          · intro r₀ c₀ hr
            have e1₀ : mi Z₀ (m₀ + 1) r₀ c₀ = mi N (m₀ + 1) r₀ c₀ := mm_f_gi fZ (m₀ + 1) _ (by omega)
            have e2₀ := ej r₀ c₀ (by omega) (by omega)
            have e3₀ := eb r₀ c₀ (by omega) (by omega)
            rw [e1₀, e2₀]
            exact ⟨rfl, e3₀.1, e3₀.2.1⟩
          · intro r₀ c₀ hr
            have e3₀ := eb r₀ c₀ (by omega) (by omega)
            rw [mm_f_gi fZ (m₀ + 2) _ (by omega), mm_f_gi f5₀ (m₀ + 2) _ (by omega), mm_f_gi fZ (m₀ + 3) _ (by omega), mm_f_gi f5₀ (m₀ + 3) _ (by omega)]
            unfold mm_c0
            by_cases q₀ : mi_ir M m₀ x₀ r₀ c₀ < 120
            · rw [if_pos q₀, if_pos q₀, mm_f_gi f3₀ (m₀ + 2) _ (by omega), mm_f_gi f3₀ (m₀ + 3) _ (by omega)]
              exact ⟨rfl, rfl⟩
            · rw [if_neg q₀, if_neg q₀]
              exact vz _ (by omega) (by omega)
          · intro k₀ h0 h1
            rw [mm_f_gi fZ (m₀ + 4) _ (by omega)]
            rw [mm_f_gi f5₀ (m₀ + 4) _ (by omega), mm_f_gi f3₀ (m₀ + 4) _ (by omega)]
          · intro k₀ h0 h1
            rw [mm_f_gi fZ (m₀ + 5) _ (by omega)]
            rw [v5 k₀ h0 (by omega), if_pos (by omega)]
        clear v5 v1₀ f5₀
        have TL : ∀ Z₀, mm_f (fun b₀ k₀ => b₀ = m₀ ∧ (k₀ = 1 ∨ k₀ = 2 ∨ k₀ = 3)) N Z₀ → gi Z₀ m₀ 1 = gi M m₀ 1 + 1 → gi Z₀ m₀ 2 = gi M m₀ 2 → gi Z₀ m₀ 3 = gi M m₀ 3 + (if x₀ < gi M m₀ 3 then 1 else 0) → mg_Mt D l 129 [.inr (.inl m₀)] Z₀ (fun v₀ P => v₀ = none ∧ mm_nw M P m₀ (gi M m₀ 1 + 1) (gi M m₀ 2) (gi M m₀ 3 + (if x₀ < gi M m₀ 3 then 1 else 0)) (mi_ir M m₀ x₀) (mm_c0 M (m₀ + 2)) (mm_c0 M (m₀ + 3)) (fun k₀ => gi M (m₀ + 4) k₀.toNat) (mi_ih M m₀ x₀)) mg_no := by
          intro Z₀ fZ q1₀ q2₀ q3₀
          have pr := PR₀ Z₀ fZ q1₀ q2₀ q3₀
          obtain ⟨y1, y2⟩ := mm_pre_rc pr
          exact mg_MtN (cX6_settles hl (mm_f_st fZ stN₀) y1 y2) (fun v₀ P z₀ => ⟨z₀.1, mm_pre_set pr z₀.2⟩)
        clear PR₀
        have k7M := k7₀
        have u4₀ : gi (si N m₀ 1 (gi N m₀ 1 + 1)) m₀ 3 = gi M m₀ 3 := by rw [gi_si, if_neg (by omega)]; exact u3
        refine hK₀ _ _ _ _ _ ?_
        (repeat' (((conv => whnf); first | assumption | refine And.intro (by first | assumption | omega | (simp only [true_and, kd_si, ln_si, gr_si, a5, b5, c5₀, as₀, bs, cs, a19, b19, c19₀]; first | done | assumption | omega)) ?_ | (refine And.intro (fun _ => ?_) (fun _ => ?_) <;> first | (exfalso; omega) | skip) | intro _ | fail)))
        all_goals (
          (conv => whnf)
          refine Exists.intro _ (Exists.intro _ (And.intro (TL _ ?_ ?_ ?_ ?_) (And.intro ?_ (fun _ _ h₀ => h₀.elim))))
          · exact mm_f_si (mm_f_si mm_f_rfl (by omega)) (by omega)
          · rw [gi_si, if_neg (by omega), gi_si, if_pos ⟨rfl, rfl⟩]; omega
          · rw [gi_si, if_neg (by omega), gi_si, if_neg (by omega)]; exact u2₀
          · rw [gi_si, if_pos ⟨rfl, rfl⟩]; omega
          · rintro _ N2 ⟨rfl, nw⟩
            have k72 : kd N2 m₀ = 7 := (nw.1.1 m₀).trans st₀.1
            (repeat' (((conv => whnf); first | assumption | refine And.intro (by first | assumption | omega | (simp only [true_and, kd_si, ln_si, gr_si, a5, b5, c5₀, as₀, bs, cs, a19, b19, c19₀]; first | done | assumption | omega)) ?_ | (refine And.intro (fun _ => ?_) (fun _ => ?_) <;> first | (exfalso; omega) | skip) | intro _ | fail)))
            all_goals (
              (conv => whnf)
              refine Exists.intro _ (Exists.intro _ (And.intro (cX6_starts hl st₀ (by omega) nw t₀) (And.intro ?_ (fun _ _ h₀ => h₀.elim))))
              rintro _ N3 ⟨rfl, Q1₀, Q2₀⟩
              have k73 : kd N3 m₀ = 7 := (Q1₀.1.1 m₀).trans st₀.1
              have Q₀ := And.intro (Eq.refl (some (Sum.inl (gi N3 m₀ 4) : mg_V))) (And.intro Q1₀ Q2₀)
              (repeat' (((conv => whnf); first | assumption | refine And.intro (by first | assumption | omega | (simp only [true_and, kd_si, ln_si, gr_si, a5, b5, c5₀, as₀, bs, cs, a19, b19, c19₀]; first | done | assumption | omega)) ?_ | (refine And.intro (fun _ => ?_) (fun _ => ?_) <;> first | (exfalso; omega) | skip) | intro _ | fail)))))
      · rintro j₀ N j0 j1 ⟨f₀, v₀, w₀⟩ nex
        have stN₀ := mm_f_st f₀ stP
        have k7N := stN₀.1
        have t1₀ := (mm_f_gi f₀ m₀ 1 (by omega)).trans s1₀
        have t2₀ := (mm_f_gi f₀ m₀ 2 (by omega)).trans s2₀
        obtain ⟨a5, b5, c5₀⟩ := stN₀.2.1.1
        obtain ⟨a19, b19, c19₀⟩ := stN₀.2.2.2.1
        have vb : ∀ y₀ : Int, 0 ≤ y₀ → y₀ < 120 → gi N (gr N m₀ 19) y₀.toNat = gi M (m₀ + 1) y₀.toNat := fun y₀ y0 y1 => by rw [a19, mm_f_gi f₀ (m₀ + 11) _ (by omega)]; exact va' y₀ y0 y1
        have nex2 : ∀ i₀ z₀, i₀ = (10 * x₀ + j₀).toNat → z₀ = (if (0 < x₀ ∧ x₀ < gi M m₀ 1) ∧ mi M (m₀ + 1) (x₀ - 1) j₀ = mi M (m₀ + 1) x₀ j₀ then mi M (m₀ + 1) x₀ j₀ else 120 + j₀) → K 131 [(0, Sum.inr (Sum.inl m₀)), (1, Sum.inl x₀), (2, Sum.inl (j₀ + 1))] [] (si N (m₀ + 1) i₀ z₀) 0 := by
          intro i₀ z₀ hi hz
          subst hi
          refine nex _ ⟨mm_f_si f₀ (Or.inl rfl), fun k₀ h0 h1 => ?_, fun p₀ q₀ hp hq => ?_⟩
          · rw [gi_si, if_neg (by omega)]; exact v₀ k₀ h0 h1
          · have e₀ := w₀ p₀ q₀ hp hq
            unfold mi at e₀ hz ⊢
            rw [gi_si]
            by_cases y₀ : p₀ = x₀ ∧ q₀ = j₀
            · obtain ⟨y1, y2⟩ := y₀
              subst y1
              subst y2
              rw [if_pos ⟨rfl, rfl⟩, if_pos ⟨rfl, by omega⟩]
              exact hz
            · rw [if_neg (by omega), e₀]
              have e9₀ : (p₀ = x₀ ∧ q₀ < j₀ + 1) ↔ (p₀ = x₀ ∧ q₀ < j₀) := by omega
              simp only [e9₀]
        have y1 := fun (w₀ : 0 < x₀) => vb (10 * (x₀ - 1) + j₀) (by omega) (by omega)
        have y2 := fun (w₀ : x₀ < gi M m₀ 1) => vb (10 * x₀ + j₀) (by omega) (by omega)
        have y3 : ∀ P : Prop, (0 < x₀ ∧ x₀ < gi M m₀ 1 → (gi N (gr N m₀ 19) (10 * (x₀ - 1) + j₀).toNat = mi M (m₀ + 1) (x₀ - 1) j₀ → gi N (gr N m₀ 19) (10 * x₀ + j₀).toNat = mi M (m₀ + 1) x₀ j₀ → P)) → (¬ (0 < x₀ ∧ x₀ < gi M m₀ 1) → P) → P := by
          intro P hp hq
          by_cases q₀ : 0 < x₀ ∧ x₀ < gi M m₀ 1
          · refine hp q₀ ?_ (y2 q₀.2)
            have := y1 q₀.1
            first | exact this | (refine Eq.trans ?_ this; congr 2; omega)
          · exact hq q₀
        refine y3 _ (fun q₀ y4 y5 => ?_) (fun q₀ => ?_)
        · clear nex w₀ v₀ y1 y2 y3
          unfold mi at y4 y5 nex2
          refine hK₀ _ _ _ _ _ ?_
          (repeat' (((conv => whnf); first | assumption | refine And.intro (by first | assumption | omega | (simp only [true_and, kd_si, ln_si, gr_si, a5, b5, c5₀, as₀, bs, cs, a19, b19, c19₀]; first | done | assumption | omega)) ?_ | (refine And.intro (fun _ => ?_) (fun _ => ?_) <;> first | (exfalso; omega) | skip) | intro _ | fail)))
          all_goals ((conv => whnf); rw [a5]; refine nex2 _ _ (by first | rfl | (congr 1; omega)) ?_)
          all_goals (first | (rw [if_pos (by omega)]; first | exact y5 | omega) | (rw [if_neg (by omega)]))
        · clear nex w₀ v₀ y1 y2 y3
          unfold mi at nex2
          refine hK₀ _ _ _ _ _ ?_
          (repeat' (((conv => whnf); first | assumption | refine And.intro (by first | assumption | omega | (simp only [true_and, kd_si, ln_si, gr_si, a5, b5, c5₀, as₀, bs, cs, a19, b19, c19₀]; first | done | assumption | omega)) ?_ | (refine And.intro (fun _ => ?_) (fun _ => ?_) <;> first | (exfalso; omega) | skip) | intro _ | fail)))
          all_goals ((conv => whnf); rw [a5]; refine nex2 _ _ (by first | rfl | (congr 1; omega)) ?_)
          all_goals (rw [if_neg (by omega)])
    refine mh_ford (P := fun k₀ N => mm_f (fun b₀ _ => b₀ = m₀ + 1 ∨ b₀ = m₀ + 5) P3 N ∧ (∀ i₀, 0 ≤ i₀ → i₀ < 12 → gi N (m₀ + 5) i₀.toNat = if k₀ < i₀ ∧ i₀ ≤ gi M m₀ 1 then gi M (m₀ + 5) (i₀ - 1).toNat else gi M (m₀ + 5) i₀.toNat) ∧ (∀ i₀ j₀, 0 ≤ i₀ ∧ i₀ < 12 → 0 ≤ j₀ ∧ j₀ < gi M m₀ 2 → mi N (m₀ + 1) i₀ j₀ = if k₀ < i₀ ∧ i₀ ≤ gi M m₀ 1 then mi M (m₀ + 1) (i₀ - 1) j₀ else mi M (m₀ + 1) i₀ j₀)) (G := fun k₀ N => K 56 [(0, Sum.inr (Sum.inl m₀)), (1, Sum.inl x₀), (2, Sum.inl k₀)] [] N 0) (lo := x₀) (by omega) ?_ ?_ P3 ⟨mm_f_rfl, fun i₀ h0 h1 => by rw [if_neg (by omega)]; exact mm_f_gi f3₀ (m₀ + 5) _ (by omega), fun i₀ j₀ h0 h1 => by rw [if_neg (by omega)]; exact mm_f_gi f3₀ (m₀ + 1) _ (by omega)⟩
    · rintro N ⟨f₀, v₀, w₀⟩
      have stN₀ := mm_f_st f₀ stP
      have k7N := stN₀.1
      obtain ⟨as₀, bs, cs⟩ := stN₀.2.1.2.2.2.2
      have g₀ := G3 (si N (m₀ + 5) x₀.toNat 20) (mm_f_si f₀ (Or.inr rfl)) (fun k₀ h0 h1 => by
        rw [gi_si]
        by_cases e₀ : k₀ = x₀
        · subst e₀
          rw [if_pos ⟨rfl, rfl⟩, if_pos h₀.2]
          unfold mi_ih
          rw [if_neg (by omega), if_neg (by omega)]
        · rw [if_neg (by omega), v₀ k₀ h0 h1]
          unfold mi_ih
          (repeat' split) <;> first | rfl | omega) (fun i₀ j₀ hi hj => by
        have := w₀ i₀ j₀ hi hj
        unfold mi at this ⊢
        rw [gi_si, if_neg (by omega)]
        exact this)
      clear v₀ w₀ G3
      refine hK₀ _ _ _ _ _ ?_
      (repeat' (((conv => whnf); first | assumption | refine And.intro (by first | assumption | omega | (simp only [true_and, kd_si, ln_si, gr_si, a5, b5, c5₀, as₀, bs, cs, a19, b19, c19₀]; first | done | assumption | omega)) ?_ | (refine And.intro (fun _ => ?_) (fun _ => ?_) <;> first | (exfalso; omega) | skip) | intro _ | fail)))
      all_goals ((conv => whnf); rw [as₀]; exact g₀)
    · rintro k₀ N k0₀ k1₀ ⟨f₀, v₀, w₀⟩ nex
      have stN₀ := mm_f_st f₀ stP
      have k7N := stN₀.1
      obtain ⟨as₀, bs, cs⟩ := stN₀.2.1.2.2.2.2
      have v0₀ := v₀ (k₀ - 1) (by omega) (by omega)
      rw [if_neg (by omega)] at v0₀
      have I₀ : ∀ Z₀, mm_f (fun b₀ _ => b₀ = m₀ + 1 ∨ b₀ = m₀ + 5) P3 Z₀ → (∀ i₀, 0 ≤ i₀ → i₀ < 12 → gi Z₀ (m₀ + 5) i₀.toNat = if k₀ - 1 < i₀ ∧ i₀ ≤ gi M m₀ 1 then gi M (m₀ + 5) (i₀ - 1).toNat else gi M (m₀ + 5) i₀.toNat) → (∀ i₀ j₀, 0 ≤ i₀ ∧ i₀ < 12 → 0 ≤ j₀ ∧ j₀ < gi M m₀ 2 → mi Z₀ (m₀ + 1) i₀ j₀ = if k₀ < i₀ ∧ i₀ ≤ gi M m₀ 1 then mi M (m₀ + 1) (i₀ - 1) j₀ else mi M (m₀ + 1) i₀ j₀) → K 77 [(0, Sum.inr (Sum.inl m₀)), (1, Sum.inl x₀), (2, Sum.inl k₀), (3, Sum.inl 0)] [] Z₀ 0 := by
        intro Z₀ fZ vZ wZ
        refine mh_for (P := fun u₀ N => mm_f (fun b₀ _ => b₀ = m₀ + 1 ∨ b₀ = m₀ + 5) P3 N ∧ (∀ i₀, 0 ≤ i₀ → i₀ < 12 → gi N (m₀ + 5) i₀.toNat = if k₀ - 1 < i₀ ∧ i₀ ≤ gi M m₀ 1 then gi M (m₀ + 5) (i₀ - 1).toNat else gi M (m₀ + 5) i₀.toNat) ∧ (∀ i₀ j₀, 0 ≤ i₀ ∧ i₀ < 12 → 0 ≤ j₀ ∧ j₀ < gi M m₀ 2 → mi N (m₀ + 1) i₀ j₀ = if (k₀ < i₀ ∧ i₀ ≤ gi M m₀ 1) ∨ (i₀ = k₀ ∧ j₀ < u₀) then mi M (m₀ + 1) (i₀ - 1) j₀ else mi M (m₀ + 1) i₀ j₀)) (G := fun u₀ N => K 77 [(0, Sum.inr (Sum.inl m₀)), (1, Sum.inl x₀), (2, Sum.inl k₀), (3, Sum.inl u₀)] [] N 0) (lo := 0) (hi := gi M m₀ 2) (by omega) ?_ ?_ Z₀ ⟨fZ, vZ, fun i₀ j₀ hi hj => by rw [wZ i₀ j₀ hi hj]; (repeat' split) <;> first | rfl | omega⟩
        · rintro Y ⟨fY, vY, wY⟩
          have stY := mm_f_st fY stP
          have k7Y := stY.1
          have t2₀ := (mm_f_gi fY m₀ 2 (by omega)).trans s2₀
          have g₀ := nex Y ⟨fY, vY, fun i₀ j₀ hi hj => by rw [wY i₀ j₀ hi hj]; (repeat' split) <;> first | rfl | omega⟩
          have e₀ : k₀ + -1 = k₀ - 1 := by omega
          clear nex vY wY vZ wZ v₀ w₀
          refine hK₀ _ _ _ _ _ ?_
          (repeat' (((conv => whnf); first | assumption | refine And.intro (by first | assumption | omega | (simp only [true_and, kd_si, ln_si, gr_si, a5, b5, c5₀, as₀, bs, cs, a19, b19, c19₀]; first | done | assumption | omega)) ?_ | (refine And.intro (fun _ => ?_) (fun _ => ?_) <;> first | (exfalso; omega) | skip) | intro _ | fail)))
          all_goals ((conv => whnf); first | exact g₀ | (rw [e₀]; exact g₀))
        · rintro u₀ Y u0 u1₀ ⟨fY, vY, wY⟩ nex2
          have stY := mm_f_st fY stP
          have k7Y := stY.1
          have t2₀ := (mm_f_gi fY m₀ 2 (by omega)).trans s2₀
          obtain ⟨a5, b5, c5₀⟩ := stY.2.1.1
          obtain ⟨a19, b19, c19₀⟩ := stY.2.2.2.1
          have vb : ∀ y₀ : Int, 0 ≤ y₀ → y₀ < 120 → gi Y (m₀ + 11) y₀.toNat = gi M (m₀ + 1) y₀.toNat := fun y₀ y0 y1 => by rw [mm_f_gi fY (m₀ + 11) _ (by omega)]; exact va' y₀ y0 y1
          have nex3 : ∀ i₀ z₀, i₀ = (10 * k₀ + u₀).toNat → z₀ = mi M (m₀ + 1) (k₀ - 1) u₀ → K 77 [(0, Sum.inr (Sum.inl m₀)), (1, Sum.inl x₀), (2, Sum.inl k₀), (3, Sum.inl (u₀ + 1))] [] (si Y (m₀ + 1) i₀ z₀) 0 := by
            intro i₀ z₀ hi hz
            subst hi
            refine nex2 _ ⟨mm_f_si fY (Or.inl rfl), fun i₀ h0 h1 => ?_, fun p₀ q₀ hp hq => ?_⟩
            · rw [gi_si, if_neg (by omega)]; exact vY i₀ h0 h1
            · have e₀ := wY p₀ q₀ hp hq
              unfold mi at e₀ hz ⊢
              rw [gi_si]
              by_cases y₀ : p₀ = k₀ ∧ q₀ = u₀
              · obtain ⟨y1, y2⟩ := y₀
                subst y1
                subst y2
                rw [if_pos ⟨rfl, rfl⟩, if_pos (by omega)]
                exact hz
              · rw [if_neg (by omega), e₀]
                (repeat' split) <;> first | rfl | omega
          clear nex nex2 vY wY vZ wZ v₀ w₀
          refine hK₀ _ _ _ _ _ ?_
          (repeat' (((conv => whnf); first | assumption | refine And.intro (by first | assumption | omega | (simp only [true_and, kd_si, ln_si, gr_si, a5, b5, c5₀, as₀, bs, cs, a19, b19, c19₀]; first | done | assumption | omega)) ?_ | (refine And.intro (fun _ => ?_) (fun _ => ?_) <;> first | (exfalso; omega) | skip) | intro _ | fail)))
          all_goals ((conv => whnf); rw [a5, a19, vb _ (by omega) (by omega)]; refine nex3 _ _ (by first | rfl | (congr 1; omega)) ?_; unfold mi; first | rfl | (congr 2; omega))
      have g₀ := I₀ (si N (m₀ + 5) k₀.toNat (gi M (m₀ + 5) (k₀ - 1).toNat)) (mm_f_si f₀ (Or.inr rfl)) (fun i₀ h0 h1 => by
        rw [gi_si]
        by_cases e₀ : i₀ = k₀
        · subst e₀
          rw [if_pos ⟨rfl, rfl⟩, if_pos (by omega)]
        · rw [if_neg (by omega), v₀ i₀ h0 h1]
          (repeat' split) <;> first | rfl | omega) (fun i₀ j₀ hi hj => by
        have := w₀ i₀ j₀ hi hj
        unfold mi at this ⊢
        rw [gi_si, if_neg (by omega)]
        exact this)
      clear v₀ w₀ nex I₀
      refine hK₀ _ _ _ _ _ ?_
      (repeat' (((conv => whnf); first | assumption | refine And.intro (by first | assumption | omega | (simp only [true_and, kd_si, ln_si, gr_si, a5, b5, c5₀, as₀, bs, cs, a19, b19, c19₀]; first | done | assumption | omega)) ?_ | (refine And.intro (fun _ => ?_) (fun _ => ?_) <;> first | (exfalso; omega) | skip) | intro _ | fail)))
      all_goals ((conv => whnf); rw [as₀, v0₀]; exact g₀)
  refine hK₀ _ _ _ _ _ ?_
  (repeat' (((conv => whnf); first | assumption | refine And.intro (by first | assumption | omega | (simp only [true_and, kd_si, ln_si, gr_si, a5, b5, c5₀, as₀, bs, cs, a19, b19, c19₀]; first | done | assumption | omega)) ?_ | (refine And.intro (fun _ => ?_) (fun _ => ?_) <;> first | (exfalso; omega) | skip) | intro _ | fail)))
  all_goals (try ((conv => whnf); (refine Exists.intro _ (Exists.intro _ (And.intro (cX6_in hl) (And.intro ?_ (fun _ _ h₀ => h₀.elim)))); rintro _ _ ⟨rfl, e₀⟩; have e2₀ := e₀.symm; clear e₀; subst e2₀); (repeat' (((conv => whnf); first | assumption | refine And.intro (by first | assumption | omega | (simp only [true_and, kd_si, ln_si, gr_si, a5, b5, c5₀, as₀, bs, cs, a19, b19, c19₀]; first | done | assumption | omega)) ?_ | (refine And.intro (fun _ => ?_) (fun _ => ?_) <;> first | (exfalso; omega) | skip) | intro _ | fail)))))
  all_goals (try ((conv => whnf); (refine Exists.intro _ (Exists.intro _ (And.intro (cX6_fails hl k7₀) (And.intro ?_ (fun _ _ h₀ => h₀.elim)))); rintro _ _ ⟨rfl, e₀⟩; have e2₀ := e₀.symm; clear e₀; subst e2₀); (repeat' (((conv => whnf); first | assumption | refine And.intro (by first | assumption | omega | (simp only [true_and, kd_si, ln_si, gr_si, a5, b5, c5₀, as₀, bs, cs, a19, b19, c19₀]; first | done | assumption | omega)) ?_ | (refine And.intro (fun _ => ?_) (fun _ => ?_) <;> first | (exfalso; omega) | skip) | intro _ | fail)))))
  (conv => whnf)
  refine Exists.intro _ (Exists.intro _ (And.intro (cX6_keeps0 hl st₀) (And.intro ?_ (fun _ _ h₀ => h₀.elim))))
  rintro _ P ⟨rfl, kk⟩
  have f₀ := kk.1
  have stP := mm_f_st f₀ st₀
  have k7P := stP.1
  (repeat' (((conv => whnf); first | assumption | refine And.intro (by first | assumption | omega | (simp only [true_and, kd_si, ln_si, gr_si, a5, b5, c5₀, as₀, bs, cs, a19, b19, c19₀]; first | done | assumption | omega)) ?_ | (refine And.intro (fun _ => ?_) (fun _ => ?_) <;> first | (exfalso; omega) | skip) | intro _ | fail)))
  (conv => whnf)
  refine Exists.intro _ (Exists.intro _ (And.intro (cX6_putsAside hl stP) (And.intro ?_ (fun _ _ h₀ => h₀.elim))))
  rintro _ P2₀ ⟨rfl, f2₀, g2⟩
  have stP2 := mm_f_st f2₀ stP
  have k7P2 := stP2.1
  (repeat' (((conv => whnf); first | assumption | refine And.intro (by first | assumption | omega | (simp only [true_and, kd_si, ln_si, gr_si, a5, b5, c5₀, as₀, bs, cs, a19, b19, c19₀]; first | done | assumption | omega)) ?_ | (refine And.intro (fun _ => ?_) (fun _ => ?_) <;> first | (exfalso; omega) | skip) | intro _ | fail)))
  (conv => whnf)
  refine Exists.intro _ (Exists.intro _ (And.intro (cX6_freshens hl stP2) (And.intro ?_ (fun _ _ h₀ => h₀.elim))))
  rintro _ P3 ⟨rfl, f3₀, g3₀⟩
  have k7P3 := (mm_f_st f3₀ stP2).1
  have t1₀ : gi P3 m₀ 1 = gi M m₀ 1 := (mm_f_gi f3₀ m₀ 1 (by omega)).trans ((mm_f_gi f2₀ m₀ 1 (by omega)).trans (mm_f_gi f₀ m₀ 1 (by omega)))
  have w₀ := F₀ P3 (mm_f_tr (mm_f_tr (mm_f_mono f₀ (fun b₀ k₀ z₀ => Or.inl z₀)) (mm_f_mono f2₀ (fun b₀ k₀ z₀ => Or.inr (Or.inl z₀)))) (mm_f_mono f3₀ (fun b₀ k₀ z₀ => Or.inr (Or.inr z₀)))) (mm_kt_f f3₀ (fun k₀ _ _ => by omega) (fun b₀ k₀ _ _ => by omega) (mm_kt_f f2₀ (fun k₀ _ _ => by omega) (fun b₀ k₀ _ _ => by omega) kk.2.2)) (by rw [mm_f_gi f3₀ m₀ 0 (by omega), mm_f_gi f2₀ m₀ 0 (by omega)]; exact kk.2.1) (fun k₀ hk => by rw [mm_f_gi f3₀ (m₀ + 11) k₀ (by omega), g2 k₀ hk, mm_f_gi f₀ (m₀ + 1) k₀ (by omega)]) g3₀
  rw [← t1₀] at w₀
  (repeat' (((conv => whnf); first | assumption | refine And.intro (by first | assumption | omega | (simp only [true_and, kd_si, ln_si, gr_si, a5, b5, c5₀, as₀, bs, cs, a19, b19, c19₀]; first | done | assumption | omega)) ?_ | (refine And.intro (fun _ => ?_) (fun _ => ?_) <;> first | (exfalso; omega) | skip) | intro _ | fail)))

def mi_ic (M : mg_M) (m₀ : Nat) (x₀ : Int) (p₀ q₀ : Int) : Int := if q₀ < x₀ then mi M (m₀ + 1) p₀ q₀ else if x₀ < q₀ then mi M (m₀ + 1) (p₀) (q₀ - 1) else if (0 < x₀ ∧ x₀ < gi M m₀ 2) ∧ mi M (m₀ + 1) (p₀) (x₀ - 1) = mi M (m₀ + 1) (p₀) x₀ then mi M (m₀ + 1) (p₀) x₀ else 120 + p₀
def mi_iw (M : mg_M) (m₀ : Nat) (x₀ k₀ : Int) : Int := if k₀ < x₀ then gi M (m₀ + 4) k₀.toNat else if x₀ < k₀ then gi M (m₀ + 4) (k₀ - 1).toNat else 50
set_option maxRecDepth 100000 in
theorem cX6_insertColumn1 {D : mg_D} {l : Launch} (hl : l.stackTraces = false) {M : mg_M} {m₀ : Nat} {x₀ : Int} (st₀ : mm_st M m₀) (h₀ : ¬ (0 ≤ x₀ ∧ x₀ ≤ gi M m₀ 2)) : mg_Mt D l 147 [.inr (.inl m₀), .inl x₀] M (fun v₀ N => v₀ = some (.inl 0) ∧ N = si M m₀ 0 1) mg_no := by
  refine mg_of2 hl ok_X6_insertColumn al_X6_insertColumn rfl (fun K hK₀ => ?_)
  have k7₀ := st₀.1
  refine hK₀ _ _ _ _ _ ?_
  (repeat' (((conv => whnf); first | assumption | refine And.intro (by first | assumption | omega | (simp only [true_and]; first | done | assumption | omega)) ?_ | (refine And.intro (fun _ => ?_) (fun _ => ?_) <;> first | (exfalso; omega) | skip) | intro _ | fail)))
  all_goals (try ((conv => whnf); (refine Exists.intro _ (Exists.intro _ (And.intro (cX6_in hl) (And.intro ?_ (fun _ _ h₀ => h₀.elim)))); rintro _ _ ⟨rfl, e₀⟩; have e2₀ := e₀.symm; clear e₀; subst e2₀); (repeat' (((conv => whnf); first | assumption | refine And.intro (by first | assumption | omega | (simp only [true_and]; first | done | assumption | omega)) ?_ | (refine And.intro (fun _ => ?_) (fun _ => ?_) <;> first | (exfalso; omega) | skip) | intro _ | fail)))))
  all_goals (try ((conv => whnf); (refine Exists.intro _ (Exists.intro _ (And.intro (cX6_fails hl k7₀) (And.intro ?_ (fun _ _ h₀ => h₀.elim)))); rintro _ _ ⟨rfl, e₀⟩; have e2₀ := e₀.symm; clear e₀; subst e2₀); (repeat' (((conv => whnf); first | assumption | refine And.intro (by first | assumption | omega | (simp only [true_and]; first | done | assumption | omega)) ?_ | (refine And.intro (fun _ => ?_) (fun _ => ?_) <;> first | (exfalso; omega) | skip) | intro _ | fail)))))
  all_goals ((conv => whnf) <;> first | rfl | exact And.intro rfl rfl)
set_option maxRecDepth 100000 in
theorem cX6_insertColumn2 {D : mg_D} {l : Launch} (hl : l.stackTraces = false) {M : mg_M} {m₀ : Nat} {x₀ : Int} (st₀ : mm_st M m₀) (h₀ : 0 ≤ x₀ ∧ x₀ ≤ gi M m₀ 2) (h2 : gi M m₀ 2 = 10) : mg_Mt D l 147 [.inr (.inl m₀), .inl x₀] M (fun v₀ N => v₀ = some (.inl 0) ∧ N = si M m₀ 0 2) mg_no := by
  refine mg_of2 hl ok_X6_insertColumn al_X6_insertColumn rfl (fun K hK₀ => ?_)
  have k7₀ := st₀.1
  refine hK₀ _ _ _ _ _ ?_
  (repeat' (((conv => whnf); first | assumption | refine And.intro (by first | assumption | omega | (simp only [true_and]; first | done | assumption | omega)) ?_ | (refine And.intro (fun _ => ?_) (fun _ => ?_) <;> first | (exfalso; omega) | skip) | intro _ | fail)))
  all_goals (try ((conv => whnf); (refine Exists.intro _ (Exists.intro _ (And.intro (cX6_in hl) (And.intro ?_ (fun _ _ h₀ => h₀.elim)))); rintro _ _ ⟨rfl, e₀⟩; have e2₀ := e₀.symm; clear e₀; subst e2₀); (repeat' (((conv => whnf); first | assumption | refine And.intro (by first | assumption | omega | (simp only [true_and]; first | done | assumption | omega)) ?_ | (refine And.intro (fun _ => ?_) (fun _ => ?_) <;> first | (exfalso; omega) | skip) | intro _ | fail)))))
  all_goals (try ((conv => whnf); (refine Exists.intro _ (Exists.intro _ (And.intro (cX6_fails hl k7₀) (And.intro ?_ (fun _ _ h₀ => h₀.elim)))); rintro _ _ ⟨rfl, e₀⟩; have e2₀ := e₀.symm; clear e₀; subst e2₀); (repeat' (((conv => whnf); first | assumption | refine And.intro (by first | assumption | omega | (simp only [true_and]; first | done | assumption | omega)) ?_ | (refine And.intro (fun _ => ?_) (fun _ => ?_) <;> first | (exfalso; omega) | skip) | intro _ | fail)))))
  all_goals ((conv => whnf) <;> first | rfl | exact And.intro rfl rfl)
set_option maxRecDepth 100000 in
theorem cX6_insertColumn0 {D : mg_D} {l : Launch} (hl : l.stackTraces = false) {M : mg_M} {m₀ : Nat} {x₀ : Int} {T L₀ H₀ W₀ : Int → Int → Int} (st₀ : mm_st M m₀) (rc : mm_rc M m₀) (h₀ : 0 ≤ x₀ ∧ x₀ ≤ gi M m₀ 2) (h2 : gi M m₀ 2 < 10) (hb₀ : 1 ≤ gi M m₀ 1 ∧ 1 ≤ gi M m₀ 2) (hh : 0 ≤ gi M m₀ 3 ∧ gi M m₀ 3 ≤ gi M m₀ 1) (hid₀ : ∀ r₀ c₀, mh_rg (gi M m₀ 1) (gi M m₀ 2) r₀ c₀ → 0 ≤ mi M (m₀ + 1) r₀ c₀ ∧ mi M (m₀ + 1) r₀ c₀ < 120) (t₀ : mh_til (gi M m₀ 1) (gi M m₀ 2 + 1) (mi_ic M m₀ x₀) T L₀ H₀ W₀) : mg_Mt D l 147 [.inr (.inl m₀), .inl x₀] M (fun v₀ N => v₀ = some (.inl (gi N m₀ 4)) ∧ mm_nw M N m₀ (gi M m₀ 1) (gi M m₀ 2 + 1) (gi M m₀ 3) (mi_ic M m₀ x₀) (mm_c0 M (m₀ + 2)) (mm_c0 M (m₀ + 3)) (mi_iw M m₀ x₀) (fun k₀ => gi M (m₀ + 5) k₀.toNat) ∧ mm_se N m₀ (gi M m₀ 1) (gi M m₀ 2 + 1) T L₀ H₀ W₀) mg_no := by
  refine mg_of2 hl ok_X6_insertColumn al_X6_insertColumn rfl (fun K hK₀ => ?_)
  have k7₀ := st₀.1
  have rc' := rc
  unfold mm_rc at rc'
  obtain ⟨a5, b5, c5₀⟩ := st₀.2.1.1
  obtain ⟨as₀, bs, cs⟩ := st₀.2.1.2.2.2.1
  obtain ⟨a19, b19, c19₀⟩ := st₀.2.2.2.1
  have hid' : ∀ p₀ q₀, mh_rg (gi M m₀ 2) (gi M m₀ 1) p₀ q₀ → 0 ≤ mi M (m₀ + 1) q₀ p₀ ∧ mi M (m₀ + 1) q₀ p₀ < 120 := fun p₀ q₀ z₀ => hid₀ _ _ (by omega)
  have F₀ : ∀ P3, mm_f (fun b₀ k₀ => mm_sM m₀ b₀ k₀ ∨ b₀ = m₀ + 11 ∨ ((b₀ = m₀ + 2 ∨ b₀ = m₀ + 3) ∧ 120 ≤ k₀)) M P3 → mm_kt M P3 m₀ → gi P3 m₀ 0 = 0 → (∀ k₀ : Nat, k₀ < 120 → gi P3 (m₀ + 11) k₀ = gi M (m₀ + 1) k₀) → (∀ k₀ : Nat, 120 ≤ k₀ → k₀ < 140 → gi P3 (m₀ + 2) k₀ = 0 ∧ gi P3 (m₀ + 3) k₀ = 0) → K 56 [(0, Sum.inr (Sum.inl m₀)), (1, Sum.inl x₀), (2, Sum.inl (gi M m₀ 2))] [] P3 0 := by
    intro P3 f3₀ kt z0 va vz
    have stP := mm_f_st f3₀ st₀
    have s1₀ := mm_f_gi f3₀ m₀ 2 (by omega)
    have s2₀ := mm_f_gi f3₀ m₀ 1 (by omega)
    have va' : ∀ y₀ : Int, 0 ≤ y₀ → y₀ < 120 → gi P3 (m₀ + 11) y₀.toNat = gi M (m₀ + 1) y₀.toNat := fun y₀ y0 y1 => va _ (by omega)
    have G3 : ∀ N, mm_f (fun b₀ _ => b₀ = m₀ + 1 ∨ b₀ = m₀ + 4) P3 N → (∀ k₀, 0 ≤ k₀ → k₀ < 10 → gi N (m₀ + 4) k₀.toNat = if k₀ ≤ gi M m₀ 2 then mi_iw M m₀ x₀ k₀ else gi M (m₀ + 4) k₀.toNat) → (∀ i₀ j₀, 0 ≤ i₀ ∧ i₀ < 10 → 0 ≤ j₀ ∧ j₀ < gi M m₀ 1 → mi N (m₀ + 1) j₀ i₀ = if x₀ < i₀ ∧ i₀ ≤ gi M m₀ 2 then mi M (m₀ + 1) j₀ (i₀ - 1) else mi M (m₀ + 1) j₀ i₀) → K 131 [(0, Sum.inr (Sum.inl m₀)), (1, Sum.inl x₀), (2, Sum.inl 0)] [] N 0 := by
      intro N f5₀ v5 v1₀
      refine mh_for (P := fun j₀ N => mm_f (fun b₀ _ => b₀ = m₀ + 1 ∨ b₀ = m₀ + 4) P3 N ∧ (∀ k₀, 0 ≤ k₀ → k₀ < 10 → gi N (m₀ + 4) k₀.toNat = if k₀ ≤ gi M m₀ 2 then mi_iw M m₀ x₀ k₀ else gi M (m₀ + 4) k₀.toNat) ∧ ∀ p₀ q₀, 0 ≤ p₀ ∧ p₀ < 10 → 0 ≤ q₀ ∧ q₀ < gi M m₀ 1 → mi N (m₀ + 1) q₀ p₀ = if p₀ = x₀ ∧ q₀ < j₀ then (if (0 < x₀ ∧ x₀ < gi M m₀ 2) ∧ mi M (m₀ + 1) q₀ (x₀ - 1) = mi M (m₀ + 1) q₀ x₀ then mi M (m₀ + 1) q₀ x₀ else 120 + q₀) else if x₀ < p₀ ∧ p₀ ≤ gi M m₀ 2 then mi M (m₀ + 1) q₀ (p₀ - 1) else mi M (m₀ + 1) q₀ p₀) (G := fun j₀ N => K 131 [(0, Sum.inr (Sum.inl m₀)), (1, Sum.inl x₀), (2, Sum.inl j₀)] [] N 0) (lo := 0) (hi := gi M m₀ 1) (by omega) ?_ ?_ N ⟨f5₀, v5, fun p₀ q₀ hp hq => by rw [if_neg (by omega)]; exact v1₀ p₀ q₀ hp hq⟩
      · clear v5 v1₀ f5₀
        rintro N ⟨f5₀, v5, v1₀⟩
        have fN₀ : mm_f (mm_sB m₀) M N := mm_f_tr (mm_f_mono f3₀ (fun b₀ k₀ z₀ => by omega)) (mm_f_mono f5₀ (fun b₀ k₀ z₀ => by omega))
        have stN₀ := mm_f_st f5₀ stP
        have k7N := stN₀.1
        have u1₀ := (mm_f_gi f5₀ m₀ 1 (by omega)).trans (mm_f_gi f3₀ m₀ 1 (by omega))
        have u2₀ := (mm_f_gi f5₀ m₀ 2 (by omega)).trans (mm_f_gi f3₀ m₀ 2 (by omega))
        have u3 := (mm_f_gi f5₀ m₀ 3 (by omega)).trans (mm_f_gi f3₀ m₀ 3 (by omega))
        have PR₀ : ∀ Z₀, mm_f (fun b₀ k₀ => b₀ = m₀ ∧ (k₀ = 1 ∨ k₀ = 2 ∨ k₀ = 3)) N Z₀ → gi Z₀ m₀ 1 = gi M m₀ 1 → gi Z₀ m₀ 2 = gi M m₀ 2 + 1 → gi Z₀ m₀ 3 = gi M m₀ 3 → mm_pre M Z₀ m₀ (gi M m₀ 1) (gi M m₀ 2 + 1) (gi M m₀ 3) (mi_ic M m₀ x₀) (mm_c0 M (m₀ + 2)) (mm_c0 M (m₀ + 3)) (mi_iw M m₀ x₀) (fun k₀ => gi M (m₀ + 5) k₀.toNat) := by
          intro Z₀ fZ q1₀ q2₀ q3₀
          have ej : ∀ p₀ q₀, 0 ≤ p₀ ∧ p₀ < gi M m₀ 2 + 1 → 0 ≤ q₀ ∧ q₀ < gi M m₀ 1 → mi N (m₀ + 1) q₀ p₀ = mi_ic M m₀ x₀ q₀ p₀ := by
            intro p₀ q₀ hp hq
            rw [v1₀ p₀ q₀ (by omega) hq]
            unfold mi_ic
            (repeat' split) <;> first | rfl | (exfalso; omega) | (congr 1; omega)
          have eb : ∀ p₀ q₀, 0 ≤ p₀ ∧ p₀ < gi M m₀ 2 + 1 → 0 ≤ q₀ ∧ q₀ < gi M m₀ 1 → 0 ≤ mi_ic M m₀ x₀ q₀ p₀ ∧ mi_ic M m₀ x₀ q₀ p₀ < 140 ∧ (mi_ic M m₀ x₀ q₀ p₀ < 120 ∨ mi_ic M m₀ x₀ q₀ p₀ = 120 + q₀) := by
            intro p₀ q₀ hp hq
            have z1 := fun w₀ => hid' p₀ q₀ ⟨w₀, hq⟩
            have z2 := fun w₀ => hid' (p₀ - 1) q₀ ⟨w₀, hq⟩
            have z3 := fun w₀ => hid' x₀ q₀ ⟨w₀, hq⟩
            unfold mi_ic
            (repeat' split)
            · have := z1 (by omega); omega
            · have := z2 (by omega); omega
            · have := z3 (by omega); omega
            · omega
          refine ⟨mm_f_tr fN₀ (mm_f_mono fZ (fun b₀ k₀ z₀ => by omega)), ⟨?_, q1₀, q2₀, q3₀⟩, ?_, by omega, ?_, ?_, ?_, ?_⟩
          · rw [mm_f_gi fZ m₀ 0 (by omega), mm_f_gi f5₀ m₀ 0 (by omega)]; exact z0
          · exact mm_kt_f fZ (fun k₀ _ _ => by omega) (fun b₀ k₀ _ _ => by omega) (mm_kt_f f5₀ (fun k₀ _ _ => by omega) (fun b₀ k₀ _ _ => by omega) kt)
          · intro r₀ c₀ hr
            have e1₀ : mi Z₀ (m₀ + 1) r₀ c₀ = mi N (m₀ + 1) r₀ c₀ := mm_f_gi fZ (m₀ + 1) _ (by omega)
            have e2₀ := ej c₀ r₀ (by omega) (by omega)
            have e3₀ := eb c₀ r₀ (by omega) (by omega)
            rw [e1₀, e2₀]
            exact ⟨rfl, e3₀.1, e3₀.2.1⟩
          · intro r₀ c₀ hr
            have e3₀ := eb c₀ r₀ (by omega) (by omega)
            rw [mm_f_gi fZ (m₀ + 2) _ (by omega), mm_f_gi f5₀ (m₀ + 2) _ (by omega), mm_f_gi fZ (m₀ + 3) _ (by omega), mm_f_gi f5₀ (m₀ + 3) _ (by omega)]
            unfold mm_c0
            by_cases q₀ : mi_ic M m₀ x₀ r₀ c₀ < 120
            · rw [if_pos q₀, if_pos q₀, mm_f_gi f3₀ (m₀ + 2) _ (by omega), mm_f_gi f3₀ (m₀ + 3) _ (by omega)]
              exact ⟨rfl, rfl⟩
            · rw [if_neg q₀, if_neg q₀]
              exact vz _ (by omega) (by omega)
          · intro k₀ h0 h1
            rw [mm_f_gi fZ (m₀ + 4) _ (by omega)]
            rw [v5 k₀ h0 (by omega), if_pos (by omega)]
          · intro k₀ h0 h1
            rw [mm_f_gi fZ (m₀ + 5) _ (by omega)]
            rw [mm_f_gi f5₀ (m₀ + 5) _ (by omega), mm_f_gi f3₀ (m₀ + 5) _ (by omega)]
        clear v5 v1₀ f5₀
        have TL : ∀ Z₀, mm_f (fun b₀ k₀ => b₀ = m₀ ∧ (k₀ = 1 ∨ k₀ = 2 ∨ k₀ = 3)) N Z₀ → gi Z₀ m₀ 1 = gi M m₀ 1 → gi Z₀ m₀ 2 = gi M m₀ 2 + 1 → gi Z₀ m₀ 3 = gi M m₀ 3 → mg_Mt D l 129 [.inr (.inl m₀)] Z₀ (fun v₀ P => v₀ = none ∧ mm_nw M P m₀ (gi M m₀ 1) (gi M m₀ 2 + 1) (gi M m₀ 3) (mi_ic M m₀ x₀) (mm_c0 M (m₀ + 2)) (mm_c0 M (m₀ + 3)) (mi_iw M m₀ x₀) (fun k₀ => gi M (m₀ + 5) k₀.toNat)) mg_no := by
          intro Z₀ fZ q1₀ q2₀ q3₀
          have pr := PR₀ Z₀ fZ q1₀ q2₀ q3₀
          obtain ⟨y1, y2⟩ := mm_pre_rc pr
          exact mg_MtN (cX6_settles hl (mm_f_st fZ stN₀) y1 y2) (fun v₀ P z₀ => ⟨z₀.1, mm_pre_set pr z₀.2⟩)
        clear PR₀
        have k7M := k7₀
        skip
        refine hK₀ _ _ _ _ _ ?_
        (repeat' (((conv => whnf); first | assumption | refine And.intro (by first | assumption | omega | (simp only [true_and, kd_si, ln_si, gr_si, a5, b5, c5₀, as₀, bs, cs, a19, b19, c19₀]; first | done | assumption | omega)) ?_ | (refine And.intro (fun _ => ?_) (fun _ => ?_) <;> first | (exfalso; omega) | skip) | intro _ | fail)))
        all_goals (
          (conv => whnf)
          refine Exists.intro _ (Exists.intro _ (And.intro (TL _ ?_ ?_ ?_ ?_) (And.intro ?_ (fun _ _ h₀ => h₀.elim))))
          · exact mm_f_si mm_f_rfl (by omega)
          · rw [gi_si, if_neg (by omega)]; exact u1₀
          · rw [gi_si, if_pos ⟨rfl, rfl⟩]; omega
          · rw [gi_si, if_neg (by omega)]; exact u3
          · rintro _ N2 ⟨rfl, nw⟩
            have k72 : kd N2 m₀ = 7 := (nw.1.1 m₀).trans st₀.1
            (repeat' (((conv => whnf); first | assumption | refine And.intro (by first | assumption | omega | (simp only [true_and, kd_si, ln_si, gr_si, a5, b5, c5₀, as₀, bs, cs, a19, b19, c19₀]; first | done | assumption | omega)) ?_ | (refine And.intro (fun _ => ?_) (fun _ => ?_) <;> first | (exfalso; omega) | skip) | intro _ | fail)))
            all_goals (
              (conv => whnf)
              refine Exists.intro _ (Exists.intro _ (And.intro (cX6_starts hl st₀ (by omega) nw t₀) (And.intro ?_ (fun _ _ h₀ => h₀.elim))))
              rintro _ N3 ⟨rfl, Q1₀, Q2₀⟩
              have k73 : kd N3 m₀ = 7 := (Q1₀.1.1 m₀).trans st₀.1
              have Q₀ := And.intro (Eq.refl (some (Sum.inl (gi N3 m₀ 4) : mg_V))) (And.intro Q1₀ Q2₀)
              (repeat' (((conv => whnf); first | assumption | refine And.intro (by first | assumption | omega | (simp only [true_and, kd_si, ln_si, gr_si, a5, b5, c5₀, as₀, bs, cs, a19, b19, c19₀]; first | done | assumption | omega)) ?_ | (refine And.intro (fun _ => ?_) (fun _ => ?_) <;> first | (exfalso; omega) | skip) | intro _ | fail)))))
      · rintro j₀ N j0 j1 ⟨f₀, v₀, w₀⟩ nex
        have stN₀ := mm_f_st f₀ stP
        have k7N := stN₀.1
        have t1₀ := (mm_f_gi f₀ m₀ 2 (by omega)).trans s1₀
        have t2₀ := (mm_f_gi f₀ m₀ 1 (by omega)).trans s2₀
        obtain ⟨a5, b5, c5₀⟩ := stN₀.2.1.1
        obtain ⟨a19, b19, c19₀⟩ := stN₀.2.2.2.1
        have vb : ∀ y₀ : Int, 0 ≤ y₀ → y₀ < 120 → gi N (gr N m₀ 19) y₀.toNat = gi M (m₀ + 1) y₀.toNat := fun y₀ y0 y1 => by rw [a19, mm_f_gi f₀ (m₀ + 11) _ (by omega)]; exact va' y₀ y0 y1
        have nex2 : ∀ i₀ z₀, i₀ = (10 * j₀ + x₀).toNat → z₀ = (if (0 < x₀ ∧ x₀ < gi M m₀ 2) ∧ mi M (m₀ + 1) j₀ (x₀ - 1) = mi M (m₀ + 1) j₀ x₀ then mi M (m₀ + 1) j₀ x₀ else 120 + j₀) → K 131 [(0, Sum.inr (Sum.inl m₀)), (1, Sum.inl x₀), (2, Sum.inl (j₀ + 1))] [] (si N (m₀ + 1) i₀ z₀) 0 := by
          intro i₀ z₀ hi hz
          subst hi
          refine nex _ ⟨mm_f_si f₀ (Or.inl rfl), fun k₀ h0 h1 => ?_, fun p₀ q₀ hp hq => ?_⟩
          · rw [gi_si, if_neg (by omega)]; exact v₀ k₀ h0 h1
          · have e₀ := w₀ p₀ q₀ hp hq
            unfold mi at e₀ hz ⊢
            rw [gi_si]
            by_cases y₀ : p₀ = x₀ ∧ q₀ = j₀
            · obtain ⟨y1, y2⟩ := y₀
              subst y1
              subst y2
              rw [if_pos ⟨rfl, rfl⟩, if_pos ⟨rfl, by omega⟩]
              exact hz
            · rw [if_neg (by omega), e₀]
              have e9₀ : (p₀ = x₀ ∧ q₀ < j₀ + 1) ↔ (p₀ = x₀ ∧ q₀ < j₀) := by omega
              simp only [e9₀]
        have y1 := fun (w₀ : 0 < x₀) => vb (10 * j₀ + (x₀ - 1)) (by omega) (by omega)
        have y2 := fun (w₀ : x₀ < gi M m₀ 2) => vb (10 * j₀ + x₀) (by omega) (by omega)
        have y3 : ∀ P : Prop, (0 < x₀ ∧ x₀ < gi M m₀ 2 → (gi N (gr N m₀ 19) (10 * j₀ + x₀ - 1).toNat = mi M (m₀ + 1) j₀ (x₀ - 1) → gi N (gr N m₀ 19) (10 * j₀ + x₀).toNat = mi M (m₀ + 1) j₀ x₀ → P)) → (¬ (0 < x₀ ∧ x₀ < gi M m₀ 2) → P) → P := by
          intro P hp hq
          by_cases q₀ : 0 < x₀ ∧ x₀ < gi M m₀ 2
          · refine hp q₀ ?_ (y2 q₀.2)
            have := y1 q₀.1
            first | exact this | (refine Eq.trans ?_ this; congr 2; omega)
          · exact hq q₀
        refine y3 _ (fun q₀ y4 y5 => ?_) (fun q₀ => ?_)
        · clear nex w₀ v₀ y1 y2 y3
          unfold mi at y4 y5 nex2
          refine hK₀ _ _ _ _ _ ?_
          (repeat' (((conv => whnf); first | assumption | refine And.intro (by first | assumption | omega | (simp only [true_and, kd_si, ln_si, gr_si, a5, b5, c5₀, as₀, bs, cs, a19, b19, c19₀]; first | done | assumption | omega)) ?_ | (refine And.intro (fun _ => ?_) (fun _ => ?_) <;> first | (exfalso; omega) | skip) | intro _ | fail)))
          all_goals ((conv => whnf); rw [a5]; refine nex2 _ _ (by first | rfl | (congr 1; omega)) ?_)
          all_goals (first | (rw [if_pos (by omega)]; first | exact y5 | omega) | (rw [if_neg (by omega)]))
        · clear nex w₀ v₀ y1 y2 y3
          unfold mi at nex2
          refine hK₀ _ _ _ _ _ ?_
          (repeat' (((conv => whnf); first | assumption | refine And.intro (by first | assumption | omega | (simp only [true_and, kd_si, ln_si, gr_si, a5, b5, c5₀, as₀, bs, cs, a19, b19, c19₀]; first | done | assumption | omega)) ?_ | (refine And.intro (fun _ => ?_) (fun _ => ?_) <;> first | (exfalso; omega) | skip) | intro _ | fail)))
          all_goals ((conv => whnf); rw [a5]; refine nex2 _ _ (by first | rfl | (congr 1; omega)) ?_)
          all_goals (rw [if_neg (by omega)])
    refine mh_ford (P := fun k₀ N => mm_f (fun b₀ _ => b₀ = m₀ + 1 ∨ b₀ = m₀ + 4) P3 N ∧ (∀ i₀, 0 ≤ i₀ → i₀ < 10 → gi N (m₀ + 4) i₀.toNat = if k₀ < i₀ ∧ i₀ ≤ gi M m₀ 2 then gi M (m₀ + 4) (i₀ - 1).toNat else gi M (m₀ + 4) i₀.toNat) ∧ (∀ i₀ j₀, 0 ≤ i₀ ∧ i₀ < 10 → 0 ≤ j₀ ∧ j₀ < gi M m₀ 1 → mi N (m₀ + 1) j₀ i₀ = if k₀ < i₀ ∧ i₀ ≤ gi M m₀ 2 then mi M (m₀ + 1) j₀ (i₀ - 1) else mi M (m₀ + 1) j₀ i₀)) (G := fun k₀ N => K 56 [(0, Sum.inr (Sum.inl m₀)), (1, Sum.inl x₀), (2, Sum.inl k₀)] [] N 0) (lo := x₀) (by omega) ?_ ?_ P3 ⟨mm_f_rfl, fun i₀ h0 h1 => by rw [if_neg (by omega)]; exact mm_f_gi f3₀ (m₀ + 4) _ (by omega), fun i₀ j₀ h0 h1 => by rw [if_neg (by omega)]; exact mm_f_gi f3₀ (m₀ + 1) _ (by omega)⟩
    · rintro N ⟨f₀, v₀, w₀⟩
      have stN₀ := mm_f_st f₀ stP
      have k7N := stN₀.1
      obtain ⟨as₀, bs, cs⟩ := stN₀.2.1.2.2.2.1
      have g₀ := G3 (si N (m₀ + 4) x₀.toNat 50) (mm_f_si f₀ (Or.inr rfl)) (fun k₀ h0 h1 => by
        rw [gi_si]
        by_cases e₀ : k₀ = x₀
        · subst e₀
          rw [if_pos ⟨rfl, rfl⟩, if_pos h₀.2]
          unfold mi_iw
          rw [if_neg (by omega), if_neg (by omega)]
        · rw [if_neg (by omega), v₀ k₀ h0 h1]
          unfold mi_iw
          (repeat' split) <;> first | rfl | omega) (fun i₀ j₀ hi hj => by
        have := w₀ i₀ j₀ hi hj
        unfold mi at this ⊢
        rw [gi_si, if_neg (by omega)]
        exact this)
      clear v₀ w₀ G3
      refine hK₀ _ _ _ _ _ ?_
      (repeat' (((conv => whnf); first | assumption | refine And.intro (by first | assumption | omega | (simp only [true_and, kd_si, ln_si, gr_si, a5, b5, c5₀, as₀, bs, cs, a19, b19, c19₀]; first | done | assumption | omega)) ?_ | (refine And.intro (fun _ => ?_) (fun _ => ?_) <;> first | (exfalso; omega) | skip) | intro _ | fail)))
      all_goals ((conv => whnf); rw [as₀]; exact g₀)
    · rintro k₀ N k0₀ k1₀ ⟨f₀, v₀, w₀⟩ nex
      have stN₀ := mm_f_st f₀ stP
      have k7N := stN₀.1
      obtain ⟨as₀, bs, cs⟩ := stN₀.2.1.2.2.2.1
      have v0₀ := v₀ (k₀ - 1) (by omega) (by omega)
      rw [if_neg (by omega)] at v0₀
      have I₀ : ∀ Z₀, mm_f (fun b₀ _ => b₀ = m₀ + 1 ∨ b₀ = m₀ + 4) P3 Z₀ → (∀ i₀, 0 ≤ i₀ → i₀ < 10 → gi Z₀ (m₀ + 4) i₀.toNat = if k₀ - 1 < i₀ ∧ i₀ ≤ gi M m₀ 2 then gi M (m₀ + 4) (i₀ - 1).toNat else gi M (m₀ + 4) i₀.toNat) → (∀ i₀ j₀, 0 ≤ i₀ ∧ i₀ < 10 → 0 ≤ j₀ ∧ j₀ < gi M m₀ 1 → mi Z₀ (m₀ + 1) j₀ i₀ = if k₀ < i₀ ∧ i₀ ≤ gi M m₀ 2 then mi M (m₀ + 1) j₀ (i₀ - 1) else mi M (m₀ + 1) j₀ i₀) → K 77 [(0, Sum.inr (Sum.inl m₀)), (1, Sum.inl x₀), (2, Sum.inl k₀), (3, Sum.inl 0)] [] Z₀ 0 := by
        intro Z₀ fZ vZ wZ
        refine mh_for (P := fun u₀ N => mm_f (fun b₀ _ => b₀ = m₀ + 1 ∨ b₀ = m₀ + 4) P3 N ∧ (∀ i₀, 0 ≤ i₀ → i₀ < 10 → gi N (m₀ + 4) i₀.toNat = if k₀ - 1 < i₀ ∧ i₀ ≤ gi M m₀ 2 then gi M (m₀ + 4) (i₀ - 1).toNat else gi M (m₀ + 4) i₀.toNat) ∧ (∀ i₀ j₀, 0 ≤ i₀ ∧ i₀ < 10 → 0 ≤ j₀ ∧ j₀ < gi M m₀ 1 → mi N (m₀ + 1) j₀ i₀ = if (k₀ < i₀ ∧ i₀ ≤ gi M m₀ 2) ∨ (i₀ = k₀ ∧ j₀ < u₀) then mi M (m₀ + 1) j₀ (i₀ - 1) else mi M (m₀ + 1) j₀ i₀)) (G := fun u₀ N => K 77 [(0, Sum.inr (Sum.inl m₀)), (1, Sum.inl x₀), (2, Sum.inl k₀), (3, Sum.inl u₀)] [] N 0) (lo := 0) (hi := gi M m₀ 1) (by omega) ?_ ?_ Z₀ ⟨fZ, vZ, fun i₀ j₀ hi hj => by rw [wZ i₀ j₀ hi hj]; (repeat' split) <;> first | rfl | omega⟩
        · rintro Y ⟨fY, vY, wY⟩
          have stY := mm_f_st fY stP
          have k7Y := stY.1
          have t2₀ := (mm_f_gi fY m₀ 1 (by omega)).trans s2₀
          have g₀ := nex Y ⟨fY, vY, fun i₀ j₀ hi hj => by rw [wY i₀ j₀ hi hj]; (repeat' split) <;> first | rfl | omega⟩
          have e₀ : k₀ + -1 = k₀ - 1 := by omega
          clear nex vY wY vZ wZ v₀ w₀
          refine hK₀ _ _ _ _ _ ?_
          (repeat' (((conv => whnf); first | assumption | refine And.intro (by first | assumption | omega | (simp only [true_and, kd_si, ln_si, gr_si, a5, b5, c5₀, as₀, bs, cs, a19, b19, c19₀]; first | done | assumption | omega)) ?_ | (refine And.intro (fun _ => ?_) (fun _ => ?_) <;> first | (exfalso; omega) | skip) | intro _ | fail)))
          all_goals ((conv => whnf); first | exact g₀ | (rw [e₀]; exact g₀))
        · rintro u₀ Y u0 u1₀ ⟨fY, vY, wY⟩ nex2
          have stY := mm_f_st fY stP
          have k7Y := stY.1
          have t2₀ := (mm_f_gi fY m₀ 1 (by omega)).trans s2₀
          obtain ⟨a5, b5, c5₀⟩ := stY.2.1.1
          obtain ⟨a19, b19, c19₀⟩ := stY.2.2.2.1
          have vb : ∀ y₀ : Int, 0 ≤ y₀ → y₀ < 120 → gi Y (m₀ + 11) y₀.toNat = gi M (m₀ + 1) y₀.toNat := fun y₀ y0 y1 => by rw [mm_f_gi fY (m₀ + 11) _ (by omega)]; exact va' y₀ y0 y1
          have nex3 : ∀ i₀ z₀, i₀ = (10 * u₀ + k₀).toNat → z₀ = mi M (m₀ + 1) u₀ (k₀ - 1) → K 77 [(0, Sum.inr (Sum.inl m₀)), (1, Sum.inl x₀), (2, Sum.inl k₀), (3, Sum.inl (u₀ + 1))] [] (si Y (m₀ + 1) i₀ z₀) 0 := by
            intro i₀ z₀ hi hz
            subst hi
            refine nex2 _ ⟨mm_f_si fY (Or.inl rfl), fun i₀ h0 h1 => ?_, fun p₀ q₀ hp hq => ?_⟩
            · rw [gi_si, if_neg (by omega)]; exact vY i₀ h0 h1
            · have e₀ := wY p₀ q₀ hp hq
              unfold mi at e₀ hz ⊢
              rw [gi_si]
              by_cases y₀ : p₀ = k₀ ∧ q₀ = u₀
              · obtain ⟨y1, y2⟩ := y₀
                subst y1
                subst y2
                rw [if_pos ⟨rfl, rfl⟩, if_pos (by omega)]
                exact hz
              · rw [if_neg (by omega), e₀]
                (repeat' split) <;> first | rfl | omega
          clear nex nex2 vY wY vZ wZ v₀ w₀
          refine hK₀ _ _ _ _ _ ?_
          (repeat' (((conv => whnf); first | assumption | refine And.intro (by first | assumption | omega | (simp only [true_and, kd_si, ln_si, gr_si, a5, b5, c5₀, as₀, bs, cs, a19, b19, c19₀]; first | done | assumption | omega)) ?_ | (refine And.intro (fun _ => ?_) (fun _ => ?_) <;> first | (exfalso; omega) | skip) | intro _ | fail)))
          all_goals ((conv => whnf); rw [a5, a19, vb _ (by omega) (by omega)]; refine nex3 _ _ (by first | rfl | (congr 1; omega)) ?_; unfold mi; first | rfl | (congr 2; omega))
      have g₀ := I₀ (si N (m₀ + 4) k₀.toNat (gi M (m₀ + 4) (k₀ - 1).toNat)) (mm_f_si f₀ (Or.inr rfl)) (fun i₀ h0 h1 => by
        rw [gi_si]
        by_cases e₀ : i₀ = k₀
        · subst e₀
          rw [if_pos ⟨rfl, rfl⟩, if_pos (by omega)]
        · rw [if_neg (by omega), v₀ i₀ h0 h1]
          (repeat' split) <;> first | rfl | omega) (fun i₀ j₀ hi hj => by
        have := w₀ i₀ j₀ hi hj
        unfold mi at this ⊢
        rw [gi_si, if_neg (by omega)]
        exact this)
      clear v₀ w₀ nex I₀
      refine hK₀ _ _ _ _ _ ?_
      (repeat' (((conv => whnf); first | assumption | refine And.intro (by first | assumption | omega | (simp only [true_and, kd_si, ln_si, gr_si, a5, b5, c5₀, as₀, bs, cs, a19, b19, c19₀]; first | done | assumption | omega)) ?_ | (refine And.intro (fun _ => ?_) (fun _ => ?_) <;> first | (exfalso; omega) | skip) | intro _ | fail)))
      all_goals ((conv => whnf); rw [as₀, v0₀]; exact g₀)
  refine hK₀ _ _ _ _ _ ?_
  (repeat' (((conv => whnf); first | assumption | refine And.intro (by first | assumption | omega | (simp only [true_and, kd_si, ln_si, gr_si, a5, b5, c5₀, as₀, bs, cs, a19, b19, c19₀]; first | done | assumption | omega)) ?_ | (refine And.intro (fun _ => ?_) (fun _ => ?_) <;> first | (exfalso; omega) | skip) | intro _ | fail)))
  all_goals (try ((conv => whnf); (refine Exists.intro _ (Exists.intro _ (And.intro (cX6_in hl) (And.intro ?_ (fun _ _ h₀ => h₀.elim)))); rintro _ _ ⟨rfl, e₀⟩; have e2₀ := e₀.symm; clear e₀; subst e2₀); (repeat' (((conv => whnf); first | assumption | refine And.intro (by first | assumption | omega | (simp only [true_and, kd_si, ln_si, gr_si, a5, b5, c5₀, as₀, bs, cs, a19, b19, c19₀]; first | done | assumption | omega)) ?_ | (refine And.intro (fun _ => ?_) (fun _ => ?_) <;> first | (exfalso; omega) | skip) | intro _ | fail)))))
  all_goals (try ((conv => whnf); (refine Exists.intro _ (Exists.intro _ (And.intro (cX6_fails hl k7₀) (And.intro ?_ (fun _ _ h₀ => h₀.elim)))); rintro _ _ ⟨rfl, e₀⟩; have e2₀ := e₀.symm; clear e₀; subst e2₀); (repeat' (((conv => whnf); first | assumption | refine And.intro (by first | assumption | omega | (simp only [true_and, kd_si, ln_si, gr_si, a5, b5, c5₀, as₀, bs, cs, a19, b19, c19₀]; first | done | assumption | omega)) ?_ | (refine And.intro (fun _ => ?_) (fun _ => ?_) <;> first | (exfalso; omega) | skip) | intro _ | fail)))))
  (conv => whnf)
  refine Exists.intro _ (Exists.intro _ (And.intro (cX6_keeps0 hl st₀) (And.intro ?_ (fun _ _ h₀ => h₀.elim))))
  rintro _ P ⟨rfl, kk⟩
  have f₀ := kk.1
  have stP := mm_f_st f₀ st₀
  have k7P := stP.1
  (repeat' (((conv => whnf); first | assumption | refine And.intro (by first | assumption | omega | (simp only [true_and, kd_si, ln_si, gr_si, a5, b5, c5₀, as₀, bs, cs, a19, b19, c19₀]; first | done | assumption | omega)) ?_ | (refine And.intro (fun _ => ?_) (fun _ => ?_) <;> first | (exfalso; omega) | skip) | intro _ | fail)))
  (conv => whnf)
  refine Exists.intro _ (Exists.intro _ (And.intro (cX6_putsAside hl stP) (And.intro ?_ (fun _ _ h₀ => h₀.elim))))
  rintro _ P2₀ ⟨rfl, f2₀, g2⟩
  have stP2 := mm_f_st f2₀ stP
  have k7P2 := stP2.1
  (repeat' (((conv => whnf); first | assumption | refine And.intro (by first | assumption | omega | (simp only [true_and, kd_si, ln_si, gr_si, a5, b5, c5₀, as₀, bs, cs, a19, b19, c19₀]; first | done | assumption | omega)) ?_ | (refine And.intro (fun _ => ?_) (fun _ => ?_) <;> first | (exfalso; omega) | skip) | intro _ | fail)))
  (conv => whnf)
  refine Exists.intro _ (Exists.intro _ (And.intro (cX6_freshens hl stP2) (And.intro ?_ (fun _ _ h₀ => h₀.elim))))
  rintro _ P3 ⟨rfl, f3₀, g3₀⟩
  have k7P3 := (mm_f_st f3₀ stP2).1
  have t1₀ : gi P3 m₀ 2 = gi M m₀ 2 := (mm_f_gi f3₀ m₀ 2 (by omega)).trans ((mm_f_gi f2₀ m₀ 2 (by omega)).trans (mm_f_gi f₀ m₀ 2 (by omega)))
  have w₀ := F₀ P3 (mm_f_tr (mm_f_tr (mm_f_mono f₀ (fun b₀ k₀ z₀ => Or.inl z₀)) (mm_f_mono f2₀ (fun b₀ k₀ z₀ => Or.inr (Or.inl z₀)))) (mm_f_mono f3₀ (fun b₀ k₀ z₀ => Or.inr (Or.inr z₀)))) (mm_kt_f f3₀ (fun k₀ _ _ => by omega) (fun b₀ k₀ _ _ => by omega) (mm_kt_f f2₀ (fun k₀ _ _ => by omega) (fun b₀ k₀ _ _ => by omega) kk.2.2)) (by rw [mm_f_gi f3₀ m₀ 0 (by omega), mm_f_gi f2₀ m₀ 0 (by omega)]; exact kk.2.1) (fun k₀ hk => by rw [mm_f_gi f3₀ (m₀ + 11) k₀ (by omega), g2 k₀ hk, mm_f_gi f₀ (m₀ + 1) k₀ (by omega)]) g3₀
  rw [← t1₀] at w₀
  (repeat' (((conv => whnf); first | assumption | refine And.intro (by first | assumption | omega | (simp only [true_and, kd_si, ln_si, gr_si, a5, b5, c5₀, as₀, bs, cs, a19, b19, c19₀]; first | done | assumption | omega)) ?_ | (refine And.intro (fun _ => ?_) (fun _ => ?_) <;> first | (exfalso; omega) | skip) | intro _ | fail)))
