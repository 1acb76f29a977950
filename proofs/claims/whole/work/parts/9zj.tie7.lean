/-! split tied₀ -/
/-- numbers₀ told₀ by first rows₀ and columns -/
theorem mh_npJ {N : mg_M} {t₀ : Nat} {R C : Int} {T L₀ : Int → Int → Int} (tl : mh_tl N t₀) (nb : mh_nb N t₀) (s0₀ : gi N t₀ 0 = R) (s1₀ : gi N t₀ 1 = C) (hT₀ : ∀ p₀ q₀, mh_rg R C p₀ q₀ → gi N (mh_co N t₀ p₀ q₀) 0 = T p₀ q₀ ∧ gi N (mh_co N t₀ p₀ q₀) 1 = L₀ p₀ q₀) (p₀ q₀ p' q' : Int) (h₀ : mh_rg R C p₀ q₀) (h' : mh_rg R C p' q') : mh_at N t₀ p₀ q₀ = mh_at N t₀ p' q' ↔ 10 * T p₀ q₀ + L₀ p₀ q₀ = 10 * T p' q' + L₀ p' q' := by
  have h9 : mh_rg (gi N t₀ 0) (gi N t₀ 1) p₀ q₀ := by rw [s0₀, s1₀]; exact h₀
  have h9' : mh_rg (gi N t₀ 0) (gi N t₀ 1) p' q' := by rw [s0₀, s1₀]; exact h'
  have x₀ := mh_at_TL tl nb h9 h9'
  obtain ⟨i₀, hi, _, _, _, ec⟩ := mh_sqc tl nb h9
  obtain ⟨j₀, hj, _, _, _, ec'⟩ := mh_sqc tl nb h9'
  have o := tl.2.2.1 i₀ hi
  have o' := tl.2.2.1 j₀ hj
  have bb := tl.1.2.2
  unfold mh_ok at o o'
  have y₀ := hT₀ p₀ q₀ h₀
  have y' := hT₀ p' q' h'
  unfold mh_fT at x₀
  rw [y₀.1, y₀.2, y'.1, y'.2] at x₀
  rw [ec] at y₀
  rw [ec'] at y'
  refine x₀.trans ⟨fun w₀ => by omega, fun w₀ => by omega⟩
/-- the corner of a₀ square's cell₀ -/
theorem mh_crn {M : mg_M} {g₀ m₀ t₀ u₀ : Nat} {p₀ q₀ : Int} (I₀ : mh_INV M g₀ m₀ t₀ u₀) (h₀ : mh_rg (gi M t₀ 0) (gi M t₀ 1) p₀ q₀) : mh_rg (gi M t₀ 0) (gi M t₀ 1) (mh_fT M t₀ 0 p₀ q₀) (mh_fT M t₀ 1 p₀ q₀) ∧ mi M (m₀ + 1) (mh_fT M t₀ 0 p₀ q₀) (mh_fT M t₀ 1 p₀ q₀) = mi M (m₀ + 1) p₀ q₀ ∧ mh_co M t₀ (mh_fT M t₀ 0 p₀ q₀) (mh_fT M t₀ 1 p₀ q₀) = mh_co M t₀ p₀ q₀ := by
  obtain ⟨st₀, rc, h4, si9, rts, hid₀, cnt₀, hco, hw, hh, hb₀, hd₀⟩ := mh_INV_m I₀
  have zf := I₀.2.2.2.1
  obtain ⟨x1₀, x2₀, x3⟩ := rts p₀ q₀ (by omega)
  have r₀ : mh_rg (gi M t₀ 0) (gi M t₀ 1) (mh_fT M t₀ 0 p₀ q₀) (mh_fT M t₀ 1 p₀ q₀) := by omega
  have e₀ := (x3 (mh_fT M t₀ 0 p₀ q₀) (mh_fT M t₀ 1 p₀ q₀) (by omega) (by omega)).2 (by omega)
  exact ⟨r₀, e₀, (mh_id_co I₀ r₀ h₀).1 e₀⟩
theorem mh_SPL {D : mg_D} {l : Launch} (hl : l.stackTraces = false) {M : mg_M} {g₀ m₀ t₀ u₀ : Nat} {N1 N2 P : mg_M} {r₀ c₀ k₀ : Int} (I₀ : mh_INV M g₀ m₀ t₀ u₀) (h₀ : mh_rg (gi M t₀ 0) (gi M t₀ 1) r₀ c₀) (hk : k₀ = 115 ∨ k₀ = 114 ∨ k₀ = 99) (r9 : mh_rmb M N1 g₀ t₀ u₀) (np : mh_np N1 N2 t₀ (gi N1 t₀ 0) (gi N1 t₀ 1) (gi N1 t₀ 2) (mh_q0 N1 t₀ k₀ (gi M (mh_co M t₀ r₀ c₀) 0) (gi M (mh_co M t₀ r₀ c₀) 1) (gi M (mh_co M t₀ r₀ c₀) 2) (gi M (mh_co M t₀ r₀ c₀) 3)) (mh_q1 N1 t₀ k₀ (gi M (mh_co M t₀ r₀ c₀) 0) (gi M (mh_co M t₀ r₀ c₀) 1) (gi M (mh_co M t₀ r₀ c₀) 2) (gi M (mh_co M t₀ r₀ c₀) 3)) (mh_q2 N1 t₀ k₀ (gi M (mh_co M t₀ r₀ c₀) 0) (gi M (mh_co M t₀ r₀ c₀) 1) (gi M (mh_co M t₀ r₀ c₀) 2) (gi M (mh_co M t₀ r₀ c₀) 3)) (mh_q3 N1 t₀ k₀ (gi M (mh_co M t₀ r₀ c₀) 0) (gi M (mh_co M t₀ r₀ c₀) 1) (gi M (mh_co M t₀ r₀ c₀) 2) (gi M (mh_co M t₀ r₀ c₀) 3)) (mh_q4 N1 t₀ k₀ (gi M (mh_co M t₀ r₀ c₀) 4) (gi M (mh_co M t₀ r₀ c₀) 0) (gi M (mh_co M t₀ r₀ c₀) 1) (gi M (mh_co M t₀ r₀ c₀) 2) (gi M (mh_co M t₀ r₀ c₀) 3)) (mh_q5 N1 t₀ (gi M (mh_co M t₀ r₀ c₀) 5) (gi M (mh_co M t₀ r₀ c₀) 0) (gi M (mh_co M t₀ r₀ c₀) 1) (gi M (mh_co M t₀ r₀ c₀) 2) (gi M (mh_co M t₀ r₀ c₀) 3)) (fun k₀ => gi N1 (t₀ + 2) k₀.toNat) (fun k₀ => gi N1 (t₀ + 1) k₀.toNat)) (hs : mh_hs N2 P t₀ (g₀ + 259) 0 0 0 0) (h3 : mh_dn k₀ (gi M (mh_co M t₀ r₀ c₀) 2) * mh_ax k₀ (gi M (mh_co M t₀ r₀ c₀) 3) ≠ 1) : mh_far M P g₀ ∧ ∀ o z9, mg_Mt D l 175 [.inr (.inl m₀), .inl r₀, .inl c₀, .inl k₀] (sl P o 0 z9) (fun w₀ Q₀ => w₀ = some (.inl (mh_dn k₀ (gi M (mh_co M t₀ r₀ c₀) 2) * mh_ax k₀ (gi M (mh_co M t₀ r₀ c₀) 3))) ∧ gi Q₀ m₀ 0 = 0 ∧ mh_far (sl P o 0 z9) Q₀ g₀ ∧ ∃ t₀ u₀, mh_INV Q₀ g₀ m₀ t₀ u₀) mg_no := by
  obtain ⟨st₀, rc, h4, si9, rts, hid₀, cnt₀, hco, hw, hh, hb₀, hd₀⟩ := mh_INV_m I₀
  have K9 := I₀.1
  have V9 := I₀.2.1
  have zf := I₀.2.2.2.1
  have sq := I₀.2.2.2.2.1
  have pm := I₀.2.2.1.2
  have pl := I₀.1.2.2.1
  have bb := K9.2.2.2.1.1.1.2.2
  obtain ⟨tl, nb⟩ := K9.2.2.2.1
  obtain ⟨K1, E1₀, FR, h21⟩ := mh_rmb_K K9 r9
  have v0₀ := (E1₀ t₀ (by omega) (by omega)).2.2.2
  have v1₀ := (E1₀ (t₀ + 1) (by omega) (by omega)).2.2.2
  have v2 := (E1₀ (t₀ + 2) (by omega) (by omega)).2.2.2
  obtain ⟨fw, tn₀, sz₀, hsq, hwd, hht⟩ := np
  rw [v0₀, v0₀, v0₀] at sz₀
  rw [v0₀, v0₀] at hsq
  rw [v0₀] at hwd hht
  obtain ⟨q1₀, q2₀, q3₀, q4₀, q5₀⟩ := sq
  have rtc := rts r₀ c₀ (by omega)
  have o9 : (0 ≤ gi M (mh_co M t₀ r₀ c₀) 0 ∧ 1 ≤ gi M (mh_co M t₀ r₀ c₀) 2 ∧ gi M (mh_co M t₀ r₀ c₀) 0 + gi M (mh_co M t₀ r₀ c₀) 2 ≤ gi M m₀ 1) ∧ (0 ≤ gi M (mh_co M t₀ r₀ c₀) 1 ∧ 1 ≤ gi M (mh_co M t₀ r₀ c₀) 3 ∧ gi M (mh_co M t₀ r₀ c₀) 1 + gi M (mh_co M t₀ r₀ c₀) 3 ≤ gi M m₀ 2) := ⟨rtc.1, rtc.2.1⟩
  have i9₀ : ∀ p₀ q₀, mh_rg (gi M t₀ 0) (gi M t₀ 1) p₀ q₀ → (mi M (m₀ + 1) p₀ q₀ = mi M (m₀ + 1) r₀ c₀ ↔ mh_iq (gi M (mh_co M t₀ r₀ c₀) 0) (gi M (mh_co M t₀ r₀ c₀) 1) (gi M (mh_co M t₀ r₀ c₀) 2) (gi M (mh_co M t₀ r₀ c₀) 3) p₀ q₀) := fun p₀ q₀ a₀ => rtc.2.2 p₀ q₀ (by omega) (by omega)
  clear rtc
  have hsq' : ∀ p₀ q₀, mh_rg (gi M t₀ 0) (gi M t₀ 1) p₀ q₀ → (gi N2 (mh_co N2 t₀ p₀ q₀) 0 = (mh_q0 M t₀ k₀ (gi M (mh_co M t₀ r₀ c₀) 0) (gi M (mh_co M t₀ r₀ c₀) 1) (gi M (mh_co M t₀ r₀ c₀) 2) (gi M (mh_co M t₀ r₀ c₀) 3)) p₀ q₀ ∧ gi N2 (mh_co N2 t₀ p₀ q₀) 1 = (mh_q1 M t₀ k₀ (gi M (mh_co M t₀ r₀ c₀) 0) (gi M (mh_co M t₀ r₀ c₀) 1) (gi M (mh_co M t₀ r₀ c₀) 2) (gi M (mh_co M t₀ r₀ c₀) 3)) p₀ q₀) ∧ gi N2 (mh_co N2 t₀ p₀ q₀) 4 = (mh_q4 M t₀ k₀ (gi M (mh_co M t₀ r₀ c₀) 4) (gi M (mh_co M t₀ r₀ c₀) 0) (gi M (mh_co M t₀ r₀ c₀) 1) (gi M (mh_co M t₀ r₀ c₀) 2) (gi M (mh_co M t₀ r₀ c₀) 3)) p₀ q₀ ∧ gi N2 (mh_co N2 t₀ p₀ q₀) 5 = (mh_q5 M t₀ (gi M (mh_co M t₀ r₀ c₀) 5) (gi M (mh_co M t₀ r₀ c₀) 0) (gi M (mh_co M t₀ r₀ c₀) 1) (gi M (mh_co M t₀ r₀ c₀) 2) (gi M (mh_co M t₀ r₀ c₀) 3)) p₀ q₀ := fun p₀ q₀ a₀ => by
    have w₀ := hsq p₀ q₀ a₀
    unfold mh_q0 mh_q1 mh_q4 mh_q5 at *
    rw [mh_eq_co E1₀, mh_rm_ct K9 r9 a₀ 0, mh_rm_ct K9 r9 a₀ 1, mh_rm_ct K9 r9 a₀ 4, mh_rm_ct K9 r9 a₀ 5] at w₀
    exact ⟨⟨w₀.1.1, w₀.1.2.1⟩, w₀.2⟩
  have eJ : ∀ p₀ q₀, mh_rg (gi M t₀ 0) (gi M t₀ 1) p₀ q₀ → mi_sp M m₀ (mh_fT M t₀ 0) (mh_fT M t₀ 1) (mi M (m₀ + 1) r₀ c₀) k₀ (gi M (mh_co M t₀ r₀ c₀) 0) (gi M (mh_co M t₀ r₀ c₀) 1) p₀ q₀ = 10 * (mh_q0 M t₀ k₀ (gi M (mh_co M t₀ r₀ c₀) 0) (gi M (mh_co M t₀ r₀ c₀) 1) (gi M (mh_co M t₀ r₀ c₀) 2) (gi M (mh_co M t₀ r₀ c₀) 3)) p₀ q₀ + (mh_q1 M t₀ k₀ (gi M (mh_co M t₀ r₀ c₀) 0) (gi M (mh_co M t₀ r₀ c₀) 1) (gi M (mh_co M t₀ r₀ c₀) 2) (gi M (mh_co M t₀ r₀ c₀) 3)) p₀ q₀ := fun p₀ q₀ a₀ => by
    have z₀ := i9₀ p₀ q₀ a₀
    unfold mi_sp mh_q0 mh_q1
    by_cases y₀ : mi M (m₀ + 1) p₀ q₀ = mi M (m₀ + 1) r₀ c₀
    · rw [if_pos y₀, if_pos (z₀.1 y₀), if_pos (z₀.1 y₀)]
    · rw [if_neg y₀, if_neg (fun w₀ => y₀ (z₀.2 w₀)), if_neg (fun w₀ => y₀ (z₀.2 w₀))]
      rfl
  have hC : ∀ p₀ q₀, mh_rg (gi M t₀ 0) (gi M t₀ 1) p₀ q₀ → (gi N2 (mh_co N2 t₀ p₀ q₀) 4 = mi_sc M m₀ (mi M (m₀ + 1) r₀ c₀) (10 * (gi M (mh_co M t₀ r₀ c₀) 0) + gi M (mh_co M t₀ r₀ c₀) 1) (mi_sp M m₀ (mh_fT M t₀ 0) (mh_fT M t₀ 1) (mi M (m₀ + 1) r₀ c₀) k₀ (gi M (mh_co M t₀ r₀ c₀) 0) (gi M (mh_co M t₀ r₀ c₀) 1) p₀ q₀) ∧ gi N2 (mh_co N2 t₀ p₀ q₀) 5 = mi_ss M m₀ (mi_sp M m₀ (mh_fT M t₀ 0) (mh_fT M t₀ 1) (mi M (m₀ + 1) r₀ c₀) k₀ (gi M (mh_co M t₀ r₀ c₀) 0) (gi M (mh_co M t₀ r₀ c₀) 1) p₀ q₀)) ∧ 0 ≤ mi_sc M m₀ (mi M (m₀ + 1) r₀ c₀) (10 * (gi M (mh_co M t₀ r₀ c₀) 0) + gi M (mh_co M t₀ r₀ c₀) 1) (mi_sp M m₀ (mh_fT M t₀ 0) (mh_fT M t₀ 1) (mi M (m₀ + 1) r₀ c₀) k₀ (gi M (mh_co M t₀ r₀ c₀) 0) (gi M (mh_co M t₀ r₀ c₀) 1) p₀ q₀) ∧ mi_sc M m₀ (mi M (m₀ + 1) r₀ c₀) (10 * (gi M (mh_co M t₀ r₀ c₀) 0) + gi M (mh_co M t₀ r₀ c₀) 1) (mi_sp M m₀ (mh_fT M t₀ 0) (mh_fT M t₀ 1) (mi M (m₀ + 1) r₀ c₀) k₀ (gi M (mh_co M t₀ r₀ c₀) 0) (gi M (mh_co M t₀ r₀ c₀) 1) p₀ q₀) ≤ 999 := fun p₀ q₀ a₀ => by
    have w₀ := (hsq' p₀ q₀ a₀).2
    have z₀ := i9₀ p₀ q₀ a₀
    have y1 : gi M (m₀ + 2) (mi M (m₀ + 1) r₀ c₀).toNat = gi M (mh_co M t₀ r₀ c₀) 4 ∧ gi M (m₀ + 3) (mi M (m₀ + 1) r₀ c₀).toNat = gi M (mh_co M t₀ r₀ c₀) 5 := q3₀ r₀ c₀ h₀
    have y2 : gi M (m₀ + 2) (mi M (m₀ + 1) p₀ q₀).toNat = gi M (mh_co M t₀ p₀ q₀) 4 ∧ gi M (m₀ + 3) (mi M (m₀ + 1) p₀ q₀).toNat = gi M (mh_co M t₀ p₀ q₀) 5 := q3₀ p₀ q₀ a₀
    have u1₀ := mh_V_sq V9 tl nb h₀
    have u2₀ := mh_V_sq V9 tl nb a₀
    have K0 : ∀ x₀ y₀ : Int, gi M (m₀ + 1) (10 * x₀ + y₀).toNat = mi M (m₀ + 1) x₀ y₀ := fun _ _ => rfl
    rw [eJ p₀ q₀ a₀]
    unfold mi_sc mi_ss
    by_cases y₀ : mi M (m₀ + 1) p₀ q₀ = mi M (m₀ + 1) r₀ c₀
    · have y9 := z₀.1 y₀
      unfold mh_q4 mh_q5 at w₀
      rw [if_pos y9, if_pos y9] at w₀
      obtain ⟨x9, hX⟩ : ∃ x9, x9 = (mh_q0 M t₀ k₀ (gi M (mh_co M t₀ r₀ c₀) 0) (gi M (mh_co M t₀ r₀ c₀) 1) (gi M (mh_co M t₀ r₀ c₀) 2) (gi M (mh_co M t₀ r₀ c₀) 3)) p₀ q₀ := ⟨_, rfl⟩
      obtain ⟨z9, hY⟩ : ∃ z9, z9 = (mh_q1 M t₀ k₀ (gi M (mh_co M t₀ r₀ c₀) 0) (gi M (mh_co M t₀ r₀ c₀) 1) (gi M (mh_co M t₀ r₀ c₀) 2) (gi M (mh_co M t₀ r₀ c₀) 3)) p₀ q₀ := ⟨_, rfl⟩
      rw [← hX, ← hY]
      unfold mh_q0 at hX
      unfold mh_q1 at hY
      rw [if_pos y9] at hX hY
      have xx : (k₀ = 99 ∧ x9 = gi M (mh_co M t₀ r₀ c₀) 0) ∨ (k₀ ≠ 99 ∧ x9 = p₀) := by
        by_cases c9₀ : k₀ = 99
        · rw [if_pos c9₀] at hX; exact Or.inl ⟨c9₀, hX⟩
        · rw [if_neg c9₀] at hX; exact Or.inr ⟨c9₀, hX⟩
      have zz : (k₀ = 114 ∧ z9 = gi M (mh_co M t₀ r₀ c₀) 1) ∨ (k₀ ≠ 114 ∧ z9 = q₀) := by
        by_cases c9₀ : k₀ = 114
        · rw [if_pos c9₀] at hY; exact Or.inl ⟨c9₀, hY⟩
        · rw [if_neg c9₀] at hY; exact Or.inr ⟨c9₀, hY⟩
      have rXY : mh_rg (gi M t₀ 0) (gi M t₀ 1) x9 z9 := by omega
      have eXY := (i9₀ x9 z9 rXY).2 (by omega)
      rw [K0, eXY, if_pos rfl, y1.1, y1.2]
      refine ⟨⟨?_, w₀.2⟩, ?_⟩
      · rw [w₀.1]
        by_cases c9₀ : (k₀ = 99 ∨ p₀ = gi M (mh_co M t₀ r₀ c₀) 0) ∧ (k₀ = 114 ∨ q₀ = gi M (mh_co M t₀ r₀ c₀) 1)
        · rw [if_pos c9₀, if_pos (by omega)]
        · rw [if_neg c9₀, if_neg (by omega)]
      · split <;> omega
    · have y9 : ¬ mh_iq (gi M (mh_co M t₀ r₀ c₀) 0) (gi M (mh_co M t₀ r₀ c₀) 1) (gi M (mh_co M t₀ r₀ c₀) 2) (gi M (mh_co M t₀ r₀ c₀) 3) p₀ q₀ := fun w₀ => y₀ (z₀.2 w₀)
      unfold mh_q4 mh_q5 at w₀
      rw [if_neg y9, if_neg y9] at w₀
      unfold mh_q0 mh_q1
      rw [if_neg y9, if_neg y9]
      have cr := (mh_crn I₀ a₀).2.1
      unfold mh_fT at cr
      rw [K0, cr, if_neg y₀, y2.1, y2.2]
      exact ⟨w₀, u2₀⟩
  have hW : ∀ k₀, 0 ≤ k₀ → k₀ < gi M t₀ 1 → gi N2 (t₀ + 2) k₀.toNat = gi M (m₀ + 4) k₀.toNat ∧ 10 ≤ gi M (m₀ + 4) k₀.toNat ∧ gi M (m₀ + 4) k₀.toNat ≤ 200 := by
    intro k₀ k0₀ k1₀
    have w₀ : gi N2 (t₀ + 2) k₀.toNat = gi M (t₀ + 2) k₀.toNat := (hwd k₀ k0₀ k1₀).trans (v2 _)
    have y' : gi M (m₀ + 4) k₀.toNat = gi M (t₀ + 2) k₀.toNat := q4₀ k₀ k0₀ k1₀
    have v₀ := V9.2.1 k₀.toNat (by omega)
    rw [y']
    exact ⟨w₀, v₀⟩
  have hH : ∀ k₀, 0 ≤ k₀ → k₀ < gi M t₀ 0 → gi N2 (t₀ + 1) k₀.toNat = gi M (m₀ + 5) k₀.toNat ∧ 5 ≤ gi M (m₀ + 5) k₀.toNat ∧ gi M (m₀ + 5) k₀.toNat ≤ 100 := by
    intro k₀ k0₀ k1₀
    have w₀ : gi N2 (t₀ + 1) k₀.toNat = gi M (t₀ + 1) k₀.toNat := (hht k₀ k0₀ k1₀).trans (v1₀ _)
    have y' : gi M (m₀ + 5) k₀.toNat = gi M (t₀ + 1) k₀.toNat := q5₀ k₀ k0₀ k1₀
    have v₀ := V9.2.2 k₀.toNat (by omega)
    rw [y']
    exact ⟨w₀, v₀⟩
  obtain ⟨til, cm, stP, far₀, cu, US₀⟩ := mh_UPS (J₀ := mi_sp M m₀ (mh_fT M t₀ 0) (mh_fT M t₀ 1) (mi M (m₀ + 1) r₀ c₀) k₀ (gi M (mh_co M t₀ r₀ c₀) 0) (gi M (mh_co M t₀ r₀ c₀) 1)) (cn := mi_sc M m₀ (mi M (m₀ + 1) r₀ c₀) (10 * (gi M (mh_co M t₀ r₀ c₀) 0) + gi M (mh_co M t₀ r₀ c₀) 1)) (sy := mi_ss M m₀) (wd := fun k₀ => gi M (m₀ + 4) k₀.toNat) (ht := fun k₀ => gi M (m₀ + 5) k₀.toNat) I₀ r9 (mh_chg_fw fw) (fun a₀ k₀ a1₀ a2 => (fw.2.2.2.2.2.2 a₀ k₀).resolve_left (by omega)) (mh_far_fw fw (by omega)) tn₀ hs sz₀ (by omega) (fun p₀ q₀ p' q' a₀ b₀ => (mh_npJ tn₀.1 tn₀.2 sz₀.1 sz₀.2.1 (fun p₀ q₀ a₀ => (hsq' p₀ q₀ a₀).1) p₀ q₀ p' q' a₀ b₀).trans (by rw [eJ p₀ q₀ a₀, eJ p' q' b₀])) hC hW hH
  refine ⟨far₀, fun o z9 => ?_⟩
  have e0₀ : ∀ k₀, gi (sl P o 0 z9) m₀ k₀ = gi M m₀ k₀ := fun k₀ => cm m₀ k₀ (by omega) (by omega)
  have e1₀ : ∀ k₀, gi (sl P o 0 z9) (m₀ + 1) k₀ = gi M (m₀ + 1) k₀ := fun k₀ => cm (m₀ + 1) k₀ (by omega) (by omega)
  have e2₀ : ∀ k₀, gi (sl P o 0 z9) (m₀ + 2) k₀ = gi M (m₀ + 2) k₀ := fun k₀ => cm (m₀ + 2) k₀ (by omega) (by omega)
  have e3₀ : ∀ k₀, gi (sl P o 0 z9) (m₀ + 3) k₀ = gi M (m₀ + 3) k₀ := fun k₀ => cm (m₀ + 3) k₀ (by omega) (by omega)
  have e4₀ : ∀ k₀, gi (sl P o 0 z9) (m₀ + 4) k₀ = gi M (m₀ + 4) k₀ := fun k₀ => cm (m₀ + 4) k₀ (by omega) (by omega)
  have e5₀ : ∀ k₀, gi (sl P o 0 z9) (m₀ + 5) k₀ = gi M (m₀ + 5) k₀ := fun k₀ => cm (m₀ + 5) k₀ (by omega) (by omega)
  have eF : mi (sl P o 0 z9) (m₀ + 1) = mi M (m₀ + 1) := by funext p₀ q₀; exact e1₀ _
  have eSP : mi_sp (sl P o 0 z9) m₀ = mi_sp M m₀ := by funext x1₀ x2₀ x3 x4₀ x5₀ x6 x7 x8; unfold mi_sp; rw [eF]
  have eSC : mi_sc (sl P o 0 z9) m₀ = mi_sc M m₀ := by funext x1₀ x2₀ x3; unfold mi_sc; rw [e1₀, e2₀, e2₀]
  have eSS : mi_ss (sl P o 0 z9) m₀ = mi_ss M m₀ := by funext x1₀; unfold mi_ss; rw [e1₀, e3₀]
  have R := @cX6_split0 D l hl (sl P o 0 z9) m₀ r₀ c₀ k₀ (gi M (mh_co M t₀ r₀ c₀) 0) (gi M (mh_co M t₀ r₀ c₀) 1) (gi M (mh_co M t₀ r₀ c₀) 2) (gi M (mh_co M t₀ r₀ c₀) 3) (mh_fT M t₀ 0) (mh_fT M t₀ 1) (mh_fT M t₀ 2) (mh_fT M t₀ 3) (mh_fT P t₀ 0) (mh_fT P t₀ 1) (mh_fT P t₀ 2) (mh_fT P t₀ 3) stP (by unfold mm_rc; rw [e0₀, e0₀]; omega) (by rw [e0₀, e0₀]; omega) hk (fun p₀ q₀ a₀ => by rw [e0₀, e0₀] at a₀; rw [eF]; exact mm_rect_f (e0₀ 1) (e0₀ 2) e1₀ (rts p₀ q₀ a₀)) (fun p₀ q₀ a₀ => by
    rw [e0₀, e0₀, zf.1, zf.2.1] at a₀
    have x₀ := (mh_crn I₀ a₀).2.2
    exact ⟨by show gi M (mh_co M t₀ (mh_fT M t₀ 0 p₀ q₀) (mh_fT M t₀ 1 p₀ q₀)) 0 = _; rw [x₀]; rfl, by show gi M (mh_co M t₀ (mh_fT M t₀ 0 p₀ q₀) (mh_fT M t₀ 1 p₀ q₀)) 1 = _; rw [x₀]; rfl⟩) (fun r₀ c₀ a₀ => by rw [e0₀, e0₀] at a₀; simp only [mi, e1₀]; exact hid₀ r₀ c₀ a₀) ⟨rfl, rfl, rfl, rfl⟩ h3 (by rw [eSP, eF, e0₀, e0₀, zf.1, zf.2.1]; exact til)
  rw [eSP, eSC, eSS, eF] at R
  simp only [e0₀, e4₀, e5₀] at R
  rw [zf.1, zf.2.1, zf.2.2] at R
  refine mg_MtN R ?_
  rintro w₀ Q₀ ⟨e₀, nw, se⟩
  exact ⟨e₀, (US₀ o z9 Q₀ nw se).2⟩
theorem ti_split0_115 {D : mg_D} {l : Launch} (hl : l.stackTraces = false) {M : mg_M} {g₀ m₀ t₀ u₀ : Nat} {r₀ c₀ : Int} (I₀ : mh_INV M g₀ m₀ t₀ u₀) (h₀ : mh_rg (gi M t₀ 0) (gi M t₀ 1) r₀ c₀) (h3 : gi M (mh_co M t₀ r₀ c₀) 2 * gi M (mh_co M t₀ r₀ c₀) 3 ≠ 1) : mh_opN D l 94 175 [.inl r₀, .inl c₀, .inl 115] M g₀ m₀ := by
  refine ⟨fun z₀ P => z₀ = gi M (mh_co M t₀ r₀ c₀) 2 * gi M (mh_co M t₀ r₀ c₀) 3 ∧ ∃ N1 N2, mh_rmb M N1 g₀ t₀ u₀ ∧ mh_np N1 N2 t₀ (gi N1 t₀ 0) (gi N1 t₀ 1) (gi N1 t₀ 2) (mh_q0 N1 t₀ 115 (gi M (mh_co M t₀ r₀ c₀) 0) (gi M (mh_co M t₀ r₀ c₀) 1) (gi M (mh_co M t₀ r₀ c₀) 2) (gi M (mh_co M t₀ r₀ c₀) 3)) (mh_q1 N1 t₀ 115 (gi M (mh_co M t₀ r₀ c₀) 0) (gi M (mh_co M t₀ r₀ c₀) 1) (gi M (mh_co M t₀ r₀ c₀) 2) (gi M (mh_co M t₀ r₀ c₀) 3)) (mh_q2 N1 t₀ 115 (gi M (mh_co M t₀ r₀ c₀) 0) (gi M (mh_co M t₀ r₀ c₀) 1) (gi M (mh_co M t₀ r₀ c₀) 2) (gi M (mh_co M t₀ r₀ c₀) 3)) (mh_q3 N1 t₀ 115 (gi M (mh_co M t₀ r₀ c₀) 0) (gi M (mh_co M t₀ r₀ c₀) 1) (gi M (mh_co M t₀ r₀ c₀) 2) (gi M (mh_co M t₀ r₀ c₀) 3)) (mh_q4 N1 t₀ 115 (gi M (mh_co M t₀ r₀ c₀) 4) (gi M (mh_co M t₀ r₀ c₀) 0) (gi M (mh_co M t₀ r₀ c₀) 1) (gi M (mh_co M t₀ r₀ c₀) 2) (gi M (mh_co M t₀ r₀ c₀) 3)) (mh_q5 N1 t₀ (gi M (mh_co M t₀ r₀ c₀) 5) (gi M (mh_co M t₀ r₀ c₀) 0) (gi M (mh_co M t₀ r₀ c₀) 1) (gi M (mh_co M t₀ r₀ c₀) 2) (gi M (mh_co M t₀ r₀ c₀) 3)) (fun k₀ => gi N1 (t₀ + 2) k₀.toNat) (fun k₀ => gi N1 (t₀ + 1) k₀.toNat) ∧ mh_hs N2 P t₀ (g₀ + 259) 0 0 0 0, mg_MtN (cX5_split0_115 hl I₀.1 h₀ rfl h3) (fun v₀ P h₀ => ⟨_, h₀.1, rfl, h₀.2⟩), ?_⟩
  rintro z9 P ⟨hz, N1, N2, r9, np, hs⟩
  have ea : mh_dn 115 (gi M (mh_co M t₀ r₀ c₀) 2) * mh_ax 115 (gi M (mh_co M t₀ r₀ c₀) 3) = gi M (mh_co M t₀ r₀ c₀) 2 * gi M (mh_co M t₀ r₀ c₀) 3 := rfl
  obtain ⟨far₀, R⟩ := @mh_SPL D l hl M g₀ m₀ t₀ u₀ N1 N2 P r₀ c₀ 115 I₀ h₀ (by omega) r9 np hs (by rw [ea]; exact h3)
  refine ⟨far₀, fun o => mg_MtN (R o z9) ?_⟩
  rintro w₀ Q₀ ⟨e₀, rest₀⟩
  exact ⟨by rw [e₀, ea, hz], rest₀⟩
theorem ti_split0_114 {D : mg_D} {l : Launch} (hl : l.stackTraces = false) {M : mg_M} {g₀ m₀ t₀ u₀ : Nat} {r₀ c₀ : Int} (I₀ : mh_INV M g₀ m₀ t₀ u₀) (h₀ : mh_rg (gi M t₀ 0) (gi M t₀ 1) r₀ c₀) (h3 : gi M (mh_co M t₀ r₀ c₀) 2 * 1 ≠ 1) : mh_opN D l 94 175 [.inl r₀, .inl c₀, .inl 114] M g₀ m₀ := by
  refine ⟨fun z₀ P => z₀ = gi M (mh_co M t₀ r₀ c₀) 2 * 1 ∧ ∃ N1 N2, mh_rmb M N1 g₀ t₀ u₀ ∧ mh_np N1 N2 t₀ (gi N1 t₀ 0) (gi N1 t₀ 1) (gi N1 t₀ 2) (mh_q0 N1 t₀ 114 (gi M (mh_co M t₀ r₀ c₀) 0) (gi M (mh_co M t₀ r₀ c₀) 1) (gi M (mh_co M t₀ r₀ c₀) 2) (gi M (mh_co M t₀ r₀ c₀) 3)) (mh_q1 N1 t₀ 114 (gi M (mh_co M t₀ r₀ c₀) 0) (gi M (mh_co M t₀ r₀ c₀) 1) (gi M (mh_co M t₀ r₀ c₀) 2) (gi M (mh_co M t₀ r₀ c₀) 3)) (mh_q2 N1 t₀ 114 (gi M (mh_co M t₀ r₀ c₀) 0) (gi M (mh_co M t₀ r₀ c₀) 1) (gi M (mh_co M t₀ r₀ c₀) 2) (gi M (mh_co M t₀ r₀ c₀) 3)) (mh_q3 N1 t₀ 114 (gi M (mh_co M t₀ r₀ c₀) 0) (gi M (mh_co M t₀ r₀ c₀) 1) (gi M (mh_co M t₀ r₀ c₀) 2) (gi M (mh_co M t₀ r₀ c₀) 3)) (mh_q4 N1 t₀ 114 (gi M (mh_co M t₀ r₀ c₀) 4) (gi M (mh_co M t₀ r₀ c₀) 0) (gi M (mh_co M t₀ r₀ c₀) 1) (gi M (mh_co M t₀ r₀ c₀) 2) (gi M (mh_co M t₀ r₀ c₀) 3)) (mh_q5 N1 t₀ (gi M (mh_co M t₀ r₀ c₀) 5) (gi M (mh_co M t₀ r₀ c₀) 0) (gi M (mh_co M t₀ r₀ c₀) 1) (gi M (mh_co M t₀ r₀ c₀) 2) (gi M (mh_co M t₀ r₀ c₀) 3)) (fun k₀ => gi N1 (t₀ + 2) k₀.toNat) (fun k₀ => gi N1 (t₀ + 1) k₀.toNat) ∧ mh_hs N2 P t₀ (g₀ + 259) 0 0 0 0, mg_MtN (cX5_split0_114 hl I₀.1 h₀ rfl h3) (fun v₀ P h₀ => ⟨_, h₀.1, rfl, h₀.2⟩), ?_⟩
  rintro z9 P ⟨hz, N1, N2, r9, np, hs⟩
  have ea : mh_dn 114 (gi M (mh_co M t₀ r₀ c₀) 2) * mh_ax 114 (gi M (mh_co M t₀ r₀ c₀) 3) = gi M (mh_co M t₀ r₀ c₀) 2 * 1 := rfl
  obtain ⟨far₀, R⟩ := @mh_SPL D l hl M g₀ m₀ t₀ u₀ N1 N2 P r₀ c₀ 114 I₀ h₀ (by omega) r9 np hs (by rw [ea]; exact h3)
  refine ⟨far₀, fun o => mg_MtN (R o z9) ?_⟩
  rintro w₀ Q₀ ⟨e₀, rest₀⟩
  exact ⟨by rw [e₀, ea, hz], rest₀⟩
theorem ti_split0_99 {D : mg_D} {l : Launch} (hl : l.stackTraces = false) {M : mg_M} {g₀ m₀ t₀ u₀ : Nat} {r₀ c₀ : Int} (I₀ : mh_INV M g₀ m₀ t₀ u₀) (h₀ : mh_rg (gi M t₀ 0) (gi M t₀ 1) r₀ c₀) (h3 : 1 * gi M (mh_co M t₀ r₀ c₀) 3 ≠ 1) : mh_opN D l 94 175 [.inl r₀, .inl c₀, .inl 99] M g₀ m₀ := by
  refine ⟨fun z₀ P => z₀ = 1 * gi M (mh_co M t₀ r₀ c₀) 3 ∧ ∃ N1 N2, mh_rmb M N1 g₀ t₀ u₀ ∧ mh_np N1 N2 t₀ (gi N1 t₀ 0) (gi N1 t₀ 1) (gi N1 t₀ 2) (mh_q0 N1 t₀ 99 (gi M (mh_co M t₀ r₀ c₀) 0) (gi M (mh_co M t₀ r₀ c₀) 1) (gi M (mh_co M t₀ r₀ c₀) 2) (gi M (mh_co M t₀ r₀ c₀) 3)) (mh_q1 N1 t₀ 99 (gi M (mh_co M t₀ r₀ c₀) 0) (gi M (mh_co M t₀ r₀ c₀) 1) (gi M (mh_co M t₀ r₀ c₀) 2) (gi M (mh_co M t₀ r₀ c₀) 3)) (mh_q2 N1 t₀ 99 (gi M (mh_co M t₀ r₀ c₀) 0) (gi M (mh_co M t₀ r₀ c₀) 1) (gi M (mh_co M t₀ r₀ c₀) 2) (gi M (mh_co M t₀ r₀ c₀) 3)) (mh_q3 N1 t₀ 99 (gi M (mh_co M t₀ r₀ c₀) 0) (gi M (mh_co M t₀ r₀ c₀) 1) (gi M (mh_co M t₀ r₀ c₀) 2) (gi M (mh_co M t₀ r₀ c₀) 3)) (mh_q4 N1 t₀ 99 (gi M (mh_co M t₀ r₀ c₀) 4) (gi M (mh_co M t₀ r₀ c₀) 0) (gi M (mh_co M t₀ r₀ c₀) 1) (gi M (mh_co M t₀ r₀ c₀) 2) (gi M (mh_co M t₀ r₀ c₀) 3)) (mh_q5 N1 t₀ (gi M (mh_co M t₀ r₀ c₀) 5) (gi M (mh_co M t₀ r₀ c₀) 0) (gi M (mh_co M t₀ r₀ c₀) 1) (gi M (mh_co M t₀ r₀ c₀) 2) (gi M (mh_co M t₀ r₀ c₀) 3)) (fun k₀ => gi N1 (t₀ + 2) k₀.toNat) (fun k₀ => gi N1 (t₀ + 1) k₀.toNat) ∧ mh_hs N2 P t₀ (g₀ + 259) 0 0 0 0, mg_MtN (cX5_split0_99 hl I₀.1 h₀ rfl h3) (fun v₀ P h₀ => ⟨_, h₀.1, rfl, h₀.2⟩), ?_⟩
  rintro z9 P ⟨hz, N1, N2, r9, np, hs⟩
  have ea : mh_dn 99 (gi M (mh_co M t₀ r₀ c₀) 2) * mh_ax 99 (gi M (mh_co M t₀ r₀ c₀) 3) = 1 * gi M (mh_co M t₀ r₀ c₀) 3 := rfl
  obtain ⟨far₀, R⟩ := @mh_SPL D l hl M g₀ m₀ t₀ u₀ N1 N2 P r₀ c₀ 99 I₀ h₀ (by omega) r9 np hs (by rw [ea]; exact h3)
  refine ⟨far₀, fun o => mg_MtN (R o z9) ?_⟩
  rintro w₀ Q₀ ⟨e₀, rest₀⟩
  exact ⟨by rw [e₀, ea, hz], rest₀⟩
theorem ti_split3 {D : mg_D} {l : Launch} (hl : l.stackTraces = false) {M : mg_M} {g₀ m₀ t₀ u₀ : Nat} {r₀ c₀ k₀ : Int} (I₀ : mh_INV M g₀ m₀ t₀ u₀) (h₀ : mh_rg (gi M t₀ 0) (gi M t₀ 1) r₀ c₀) (hk : k₀ = 115 ∨ k₀ = 114 ∨ k₀ = 99) (h3 : mh_dn k₀ (gi M (mh_co M t₀ r₀ c₀) 2) * mh_ax k₀ (gi M (mh_co M t₀ r₀ c₀) 3) = 1) : mh_opT D l 94 175 [.inl r₀, .inl c₀, .inl k₀] M g₀ m₀ 2 3 := by
  have rt0 := (mh_INV_m I₀).2.2.2.2.1
  refine mh_opT_of (cX5_split3 hl I₀.1 h₀ hk rfl h3) (fun P s₀ => ?_) I₀
  have IP := mh_INV_same I₀ s₀
  obtain ⟨v1₀, v2, v3⟩ := mh_same_v I₀ s₀
  have z₀ := I₀.2.2.2.1
  have e1₀ := v2 1 (by omega) (by omega)
  have e2₀ := v2 2 (by omega) (by omega)
  have e3₀ := v2 3 (by omega) (by omega)
  obtain ⟨st₀, rc, h4, si9, rts, hid₀, cnt₀, hco, hw, hh, hb₀, hd₀⟩ := mh_INV_m IP
  have eI : mi P (m₀ + 1) = mi M (m₀ + 1) := by funext p₀ q₀; exact v3 (m₀ + 1) (by omega) (by omega) _
  have rt3 : mm_rect P m₀ (mi P (m₀ + 1) r₀ c₀) (gi M (mh_co M t₀ r₀ c₀) 0) (gi M (mh_co M t₀ r₀ c₀) 1) (gi M (mh_co M t₀ r₀ c₀) 2) (gi M (mh_co M t₀ r₀ c₀) 3) := by
    rw [eI]
    exact mm_rect_f e1₀ e2₀ (fun j₀ => v3 (m₀ + 1) (by omega) (by omega) j₀) (rt0 r₀ c₀ (by omega))
  exact mg_MtN (cX6_split3 (T0₀ := gi M (mh_co M t₀ r₀ c₀) 0) (L0₀ := gi M (mh_co M t₀ r₀ c₀) 1) (H0 := gi M (mh_co M t₀ r₀ c₀) 2) (W0₀ := gi M (mh_co M t₀ r₀ c₀) 3) hl st₀ rc (by omega) hk rt3 h3) (fun w₀ Q₀ h₀ => ⟨h₀.1, Or.inr (Or.inl h₀.2)⟩)
