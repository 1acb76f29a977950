/-! insertColumn, deleteRow, deleteColumn, moveRow tied₀; throws₀ -/
theorem ti_insertColumn0 {D : mg_D} {l : Launch} (hl : l.stackTraces = false) {M : mg_M} {g₀ m₀ t₀ u₀ : Nat} {x₀ : Int} (I₀ : mh_INV M g₀ m₀ t₀ u₀) (h₀ : 0 ≤ x₀ ∧ x₀ ≤ gi M t₀ 1) (h2 : gi M t₀ 1 < 10) : mh_opN D l 77 147 [.inl x₀] M g₀ m₀ := by
  obtain ⟨st₀, rc, h4, si9, rts, hid₀, cnt₀, hco, hw, hh, hb₀, hd₀⟩ := mh_INV_m I₀
  have K9 := I₀.1
  have V9 := I₀.2.1
  have zf := I₀.2.2.2.1
  have sq := I₀.2.2.2.2.1
  have pm := I₀.2.2.1.2
  have pl := I₀.1.2.2.1
  have bb := K9.2.2.2.1.1.1.2.2
  refine ⟨fun z₀ P => z₀ = gi P (t₀ + 3) 0 ∧ ∃ N1 N2, mh_rmb M N1 g₀ t₀ u₀ ∧ mh_nv N1 N2 t₀ (gi N1 t₀ 0) (gi N1 t₀ 1 + 1) (gi N1 t₀ 2) (mh_icG (mh_at N1 t₀) (gi N1 t₀ 1) x₀) (mh_cn N1 t₀ 4) (mh_cn N1 t₀ 5) (mh_ih N1 (t₀ + 2) x₀ 50) (fun k₀ => gi N1 (t₀ + 1) k₀.toNat) ∧ mh_hs N2 P t₀ (g₀ + 259) 0 0 0 0, mg_MtN (cX5_insertColumn0 hl K9 h₀ h2) (fun v₀ P h₀ => ⟨_, h₀.1, rfl, h₀.2⟩), ?_⟩
  rintro z9 P ⟨hz, N1, N2, r₀, nv, hs⟩
  obtain ⟨K1, E1₀, FR, h21⟩ := mh_rmb_K K9 r₀
  have v0₀ := (E1₀ t₀ (by omega) (by omega)).2.2.2
  have v1₀ := (E1₀ (t₀ + 1) (by omega) (by omega)).2.2.2
  have v2 := (E1₀ (t₀ + 2) (by omega) (by omega)).2.2.2
  obtain ⟨fw, tn₀, sz₀, hat, hct, hwd, hht⟩ := nv
  rw [v0₀, v0₀, v0₀] at sz₀
  rw [v0₀, v0₀] at hat hct
  rw [v0₀] at hwd hht
  obtain ⟨q1₀, q2₀, q3₀, q4₀, q5₀⟩ := sq
  have lf₀ : ∀ p₀ q₀, mh_rg (gi M t₀ 0) (gi M t₀ 1 + 1) p₀ q₀ → (∃ a₀ b₀, mh_rg (gi M t₀ 0) (gi M t₀ 1) a₀ b₀ ∧ mi_ic M m₀ x₀ p₀ q₀ = mi M (m₀ + 1) a₀ b₀ ∧ mh_icG (mh_at N1 t₀) (gi M t₀ 1) x₀ p₀ q₀ = mh_at N1 t₀ a₀ b₀) ∨ (∃ k₀, 120 ≤ k₀ ∧ mi_ic M m₀ x₀ p₀ q₀ = k₀ ∧ mh_icG (mh_at N1 t₀) (gi M t₀ 1) x₀ p₀ q₀ = k₀) := by
    intro p₀ q₀ hr
    unfold mi_ic mh_icG
    by_cases c1₀ : q₀ < x₀
    · exact Or.inl ⟨p₀, q₀, by omega, by rw [if_pos c1₀], by rw [if_pos c1₀]⟩
    by_cases c2₀ : x₀ < q₀
    · exact Or.inl ⟨p₀, q₀ - 1, by omega, by rw [if_neg c1₀, if_pos c2₀], by rw [if_neg c1₀, if_pos c2₀]⟩
    rw [if_neg c1₀, if_neg c1₀, if_neg c2₀, if_neg c2₀, zf.2.1]
    by_cases c3₀ : 0 < x₀ ∧ x₀ < gi M t₀ 1
    · have e₀ := q2₀ p₀ (x₀ - 1) p₀ x₀ (by omega) (by omega)
      rw [mh_eq_at E1₀]
      by_cases c4₀ : mh_at M t₀ p₀ (x₀ - 1) = mh_at M t₀ p₀ x₀
      · exact Or.inl ⟨p₀, x₀, by omega, by rw [if_pos ⟨c3₀, e₀.2 c4₀⟩], by rw [if_pos ⟨c3₀, c4₀⟩]⟩
      · exact Or.inr ⟨120 + p₀, by omega, by rw [if_neg (fun w₀ => c4₀ (e₀.1 w₀.2))], by rw [if_neg (fun w₀ => c4₀ w₀.2)]⟩
    · exact Or.inr ⟨120 + p₀, by omega, by rw [if_neg (fun w₀ => c3₀ w₀.1)], by rw [if_neg (fun w₀ => c3₀ w₀.1)]⟩
  have part₀ := mh_lift (J1 := mi M (m₀ + 1)) (J2 := mh_at N1 t₀) (K1 := mi_ic M m₀ x₀) (K2 := mh_icG (mh_at N1 t₀) (gi M t₀ 1) x₀) (fun p₀ q₀ p' q' a₀ b₀ => by rw [mh_eq_at E1₀]; exact q2₀ p₀ q₀ p' q' a₀ b₀) (fun p₀ q₀ a₀ => (q1₀ p₀ q₀ a₀).2) (fun p₀ q₀ a₀ => by have := (@mh_cn_at M N1 g₀ t₀ u₀ 4 p₀ q₀ K9 r₀ a₀).2; omega) lf₀
  have hC : ∀ p₀ q₀, mh_rg (gi M t₀ 0) (gi M t₀ 1 + 1) p₀ q₀ → (gi N2 (mh_co N2 t₀ p₀ q₀) 4 = mm_c0 M (m₀ + 2) (mi_ic M m₀ x₀ p₀ q₀) ∧ gi N2 (mh_co N2 t₀ p₀ q₀) 5 = mm_c0 M (m₀ + 3) (mi_ic M m₀ x₀ p₀ q₀)) ∧ 0 ≤ mm_c0 M (m₀ + 2) (mi_ic M m₀ x₀ p₀ q₀) ∧ mm_c0 M (m₀ + 2) (mi_ic M m₀ x₀ p₀ q₀) ≤ 999 := by
    intro p₀ q₀ a₀
    have w₀ := hct p₀ q₀ a₀
    rcases lf₀ p₀ q₀ a₀ with ⟨a', b', hr, j1, j2₀⟩ | ⟨k₀, hk, j1, j2₀⟩
    · obtain ⟨c4₀, _, _, _⟩ := @mh_cn_at M N1 g₀ t₀ u₀ 4 a' b' K9 r₀ hr
      obtain ⟨c5₀, _, _, _⟩ := @mh_cn_at M N1 g₀ t₀ u₀ 5 a' b' K9 r₀ hr
      rw [j2₀, c4₀, c5₀] at w₀
      have y₀ := q3₀ a' b' hr
      have y1 := q1₀ a' b' hr
      obtain ⟨i₀, hi, _, _, _, ec⟩ := mh_sqc K9.2.2.2.1.1 K9.2.2.2.1.2 hr
      have v₀ := V9.1 i₀ hi
      rw [← ec] at v₀
      have y' : gi M (m₀ + 2) (mi M (m₀ + 1) a' b').toNat = gi M (mh_co M t₀ a' b') 4 ∧ gi M (m₀ + 3) (mi M (m₀ + 1) a' b').toNat = gi M (mh_co M t₀ a' b') 5 := y₀
      rw [j1]
      unfold mm_c0
      rw [if_pos y1.2, if_pos y1.2, y'.1, y'.2]
      exact ⟨w₀, v₀⟩
    · rw [j2₀] at w₀
      rw [j1]
      unfold mh_cn at w₀
      unfold mm_c0
      rw [if_neg (by omega), if_neg (by omega)] at w₀
      rw [if_neg (by omega), if_neg (by omega)]
      exact ⟨w₀, by omega⟩
  have hW : ∀ k₀, 0 ≤ k₀ → k₀ < gi M t₀ 1 + 1 → gi N2 (t₀ + 2) k₀.toNat = mi_iw M m₀ x₀ k₀ ∧ 10 ≤ mi_iw M m₀ x₀ k₀ ∧ mi_iw M m₀ x₀ k₀ ≤ 200 := by
    intro k₀ k0₀ k1₀
    have w₀ := hwd k₀ k0₀ k1₀
    rw [w₀]
    have v₀ := fun j₀ (a₀ : 0 ≤ j₀) (b₀ : j₀ < gi M t₀ 1) => V9.2.1 j₀.toNat (by omega)
    have y₀ : ∀ j₀, 0 ≤ j₀ → j₀ < gi M t₀ 1 → gi M (m₀ + 4) j₀.toNat = gi M (t₀ + 2) j₀.toNat := q4₀
    unfold mh_ih mi_iw
    rw [v2, v2]
    by_cases c1₀ : k₀ < x₀
    · rw [if_pos c1₀, if_pos c1₀, y₀ k₀ k0₀ (by omega)]
      exact ⟨rfl, v₀ k₀ k0₀ (by omega)⟩
    · rw [if_neg c1₀, if_neg c1₀]
      by_cases c2₀ : x₀ < k₀
      · rw [if_pos c2₀, if_pos c2₀, y₀ (k₀ - 1) (by omega) (by omega)]
        exact ⟨rfl, v₀ (k₀ - 1) (by omega) (by omega)⟩
      · rw [if_neg c2₀, if_neg c2₀]
        omega
  have hH : ∀ k₀, 0 ≤ k₀ → k₀ < gi M t₀ 0 → gi N2 (t₀ + 1) k₀.toNat = gi M (m₀ + 5) k₀.toNat ∧ 5 ≤ gi M (m₀ + 5) k₀.toNat ∧ gi M (m₀ + 5) k₀.toNat ≤ 100 := by
    intro k₀ k0₀ k1₀
    have w₀ : gi N2 (t₀ + 1) k₀.toNat = gi M (t₀ + 1) k₀.toNat := (hht k₀ k0₀ k1₀).trans (v1₀ _)
    have y' : gi M (m₀ + 5) k₀.toNat = gi M (t₀ + 1) k₀.toNat := q5₀ k₀ k0₀ k1₀
    have v₀ := V9.2.2 k₀.toNat (by omega)
    rw [y']
    exact ⟨w₀, v₀⟩
  obtain ⟨til, cm, stP, far₀, cu, US₀⟩ := mh_UPS (J₀ := mi_ic M m₀ x₀) (cn := mm_c0 M (m₀ + 2)) (sy := mm_c0 M (m₀ + 3)) (wd := mi_iw M m₀ x₀) (ht := fun k₀ => gi M (m₀ + 5) k₀.toNat) I₀ r₀ (mh_chg_fw fw) (fun a₀ k₀ a1₀ a2 => (fw.2.2.2.2.2.2 a₀ k₀).resolve_left (by omega)) (mh_far_fw fw (by omega)) tn₀ hs sz₀ (by omega) (fun p₀ q₀ p' q' a₀ b₀ => (hat p₀ q₀ p' q' a₀ b₀).trans (part₀ p₀ q₀ p' q' a₀ b₀).symm) hC hW hH
  refine ⟨far₀, fun o => ?_⟩
  have e0₀ : ∀ k₀, gi (sl P o 0 z9) m₀ k₀ = gi M m₀ k₀ := fun k₀ => cm m₀ k₀ (by omega) (by omega)
  have e1₀ : ∀ k₀, gi (sl P o 0 z9) (m₀ + 1) k₀ = gi M (m₀ + 1) k₀ := fun k₀ => cm (m₀ + 1) k₀ (by omega) (by omega)
  have e2₀ : ∀ k₀, gi (sl P o 0 z9) (m₀ + 2) k₀ = gi M (m₀ + 2) k₀ := fun k₀ => cm (m₀ + 2) k₀ (by omega) (by omega)
  have e3₀ : ∀ k₀, gi (sl P o 0 z9) (m₀ + 3) k₀ = gi M (m₀ + 3) k₀ := fun k₀ => cm (m₀ + 3) k₀ (by omega) (by omega)
  have e4₀ : ∀ k₀, gi (sl P o 0 z9) (m₀ + 4) k₀ = gi M (m₀ + 4) k₀ := fun k₀ => cm (m₀ + 4) k₀ (by omega) (by omega)
  have e5₀ : ∀ k₀, gi (sl P o 0 z9) (m₀ + 5) k₀ = gi M (m₀ + 5) k₀ := fun k₀ => cm (m₀ + 5) k₀ (by omega) (by omega)
  have eF : mi (sl P o 0 z9) (m₀ + 1) = mi M (m₀ + 1) := by funext p₀ q₀; exact e1₀ _
  have eJ : mi_ic (sl P o 0 z9) m₀ x₀ = mi_ic M m₀ x₀ := by funext p₀ q₀; unfold mi_ic; rw [eF, e0₀]
  have eC₀ : mm_c0 (sl P o 0 z9) (m₀ + 2) = mm_c0 M (m₀ + 2) := by funext k₀; simp only [mm_c0, e2₀]
  have eS : mm_c0 (sl P o 0 z9) (m₀ + 3) = mm_c0 M (m₀ + 3) := by funext k₀; simp only [mm_c0, e3₀]
  have eH : mi_iw (sl P o 0 z9) m₀ x₀ = mi_iw M m₀ x₀ := by funext k₀; simp only [mi_iw, e4₀]
  have R := @cX6_insertColumn0 D l hl (sl P o 0 z9) m₀ x₀ (mh_fT P t₀ 0) (mh_fT P t₀ 1) (mh_fT P t₀ 2) (mh_fT P t₀ 3) stP (by unfold mm_rc; rw [e0₀, e0₀]; omega) (by rw [e0₀]; omega) (by rw [e0₀]; omega) (by rw [e0₀, e0₀]; omega) (by rw [e0₀, e0₀]; omega) (fun r₀ c₀ a₀ => by rw [e0₀, e0₀] at a₀; simp only [mi, e1₀]; exact hid₀ r₀ c₀ a₀) (by rw [eJ, e0₀, e0₀, zf.1, zf.2.1]; exact til)
  rw [eJ, eC₀, eS, eH] at R
  simp only [e0₀, e5₀] at R
  rw [zf.1, zf.2.1, zf.2.2] at R
  refine mg_MtN R ?_
  rintro w₀ Q₀ ⟨e₀, nw, se⟩
  obtain ⟨c4₀, rest₀⟩ := US₀ o z9 Q₀ nw se
  exact ⟨by rw [e₀, hz, c4₀], rest₀⟩
theorem ti_deleteRow0 {D : mg_D} {l : Launch} (hl : l.stackTraces = false) {M : mg_M} {g₀ m₀ t₀ u₀ : Nat} {x₀ : Int} (I₀ : mh_INV M g₀ m₀ t₀ u₀) (h₀ : 0 ≤ x₀ ∧ x₀ < gi M t₀ 0) (h2 : gi M t₀ 0 ≠ 1) : mh_opN D l 78 148 [.inl x₀] M g₀ m₀ := by
  obtain ⟨st₀, rc, h4, si9, rts, hid₀, cnt₀, hco, hw, hh, hb₀, hd₀⟩ := mh_INV_m I₀
  have K9 := I₀.1
  have V9 := I₀.2.1
  have zf := I₀.2.2.2.1
  have sq := I₀.2.2.2.2.1
  have pm := I₀.2.2.1.2
  have pl := I₀.1.2.2.1
  have bb := K9.2.2.2.1.1.1.2.2
  refine ⟨fun z₀ P => z₀ = gi P (u₀ + 3) 0 - gi P (t₀ + 3) 0 ∧ ∃ N1 N2, mh_rmb M N1 g₀ t₀ u₀ ∧ mh_nv N1 N2 t₀ (gi N1 t₀ 0 - 1) (gi N1 t₀ 1) (gi N1 t₀ 2 - (if x₀ < gi N1 t₀ 2 then 1 else 0)) (mh_drG (mh_at N1 t₀) x₀) (mh_cn N1 t₀ 4) (mh_cn N1 t₀ 5) (fun k₀ => gi N1 (t₀ + 2) k₀.toNat) (mh_dh N1 (t₀ + 1) x₀) ∧ mh_hs N2 P t₀ (g₀ + 259) 0 0 0 0, mg_MtN (cX5_deleteRow0 hl K9 h₀ h2) (fun v₀ P h₀ => ⟨_, h₀.1, rfl, h₀.2⟩), ?_⟩
  rintro z9 P ⟨hz, N1, N2, r₀, nv, hs⟩
  obtain ⟨K1, E1₀, FR, h21⟩ := mh_rmb_K K9 r₀
  have v0₀ := (E1₀ t₀ (by omega) (by omega)).2.2.2
  have v1₀ := (E1₀ (t₀ + 1) (by omega) (by omega)).2.2.2
  have v2 := (E1₀ (t₀ + 2) (by omega) (by omega)).2.2.2
  obtain ⟨fw, tn₀, sz₀, hat, hct, hwd, hht⟩ := nv
  simp only [v0₀] at sz₀ hat hct hwd hht
  obtain ⟨q1₀, q2₀, q3₀, q4₀, q5₀⟩ := sq
  have lf₀ : ∀ p₀ q₀, mh_rg (gi M t₀ 0 - 1) (gi M t₀ 1) p₀ q₀ → (∃ a₀ b₀, mh_rg (gi M t₀ 0) (gi M t₀ 1) a₀ b₀ ∧ mi_dr M m₀ x₀ p₀ q₀ = mi M (m₀ + 1) a₀ b₀ ∧ mh_drG (mh_at N1 t₀) x₀ p₀ q₀ = mh_at N1 t₀ a₀ b₀) ∨ (∃ k₀, 120 ≤ k₀ ∧ mi_dr M m₀ x₀ p₀ q₀ = k₀ ∧ mh_drG (mh_at N1 t₀) x₀ p₀ q₀ = k₀) := by
    intro p₀ q₀ hr
    unfold mi_dr mh_drG
    by_cases c1₀ : p₀ < x₀
    · exact Or.inl ⟨p₀, q₀, by omega, by rw [if_pos c1₀], by rw [if_pos c1₀]⟩
    · exact Or.inl ⟨p₀ + 1, q₀, by omega, by rw [if_neg c1₀], by rw [if_neg c1₀]⟩
  have part₀ := mh_lift (J1 := mi M (m₀ + 1)) (J2 := mh_at N1 t₀) (K1 := mi_dr M m₀ x₀) (K2 := mh_drG (mh_at N1 t₀) x₀) (fun p₀ q₀ p' q' a₀ b₀ => by rw [mh_eq_at E1₀]; exact q2₀ p₀ q₀ p' q' a₀ b₀) (fun p₀ q₀ a₀ => (q1₀ p₀ q₀ a₀).2) (fun p₀ q₀ a₀ => by have := (@mh_cn_at M N1 g₀ t₀ u₀ 4 p₀ q₀ K9 r₀ a₀).2; omega) lf₀
  have hC : ∀ p₀ q₀, mh_rg (gi M t₀ 0 - 1) (gi M t₀ 1) p₀ q₀ → (gi N2 (mh_co N2 t₀ p₀ q₀) 4 = gi M (m₀ + 2) (mi_dr M m₀ x₀ p₀ q₀).toNat ∧ gi N2 (mh_co N2 t₀ p₀ q₀) 5 = gi M (m₀ + 3) (mi_dr M m₀ x₀ p₀ q₀).toNat) ∧ 0 ≤ gi M (m₀ + 2) (mi_dr M m₀ x₀ p₀ q₀).toNat ∧ gi M (m₀ + 2) (mi_dr M m₀ x₀ p₀ q₀).toNat ≤ 999 := by
    intro p₀ q₀ a₀
    have w₀ := hct p₀ q₀ a₀
    rcases lf₀ p₀ q₀ a₀ with ⟨a', b', hr, j1, j2₀⟩ | ⟨k₀, hk, j1, j2₀⟩
    · obtain ⟨c4₀, _, _, _⟩ := @mh_cn_at M N1 g₀ t₀ u₀ 4 a' b' K9 r₀ hr
      obtain ⟨c5₀, _, _, _⟩ := @mh_cn_at M N1 g₀ t₀ u₀ 5 a' b' K9 r₀ hr
      rw [j2₀, c4₀, c5₀] at w₀
      have y₀ := q3₀ a' b' hr
      have y1 := q1₀ a' b' hr
      obtain ⟨i₀, hi, _, _, _, ec⟩ := mh_sqc K9.2.2.2.1.1 K9.2.2.2.1.2 hr
      have v₀ := V9.1 i₀ hi
      rw [← ec] at v₀
      have y' : gi M (m₀ + 2) (mi M (m₀ + 1) a' b').toNat = gi M (mh_co M t₀ a' b') 4 ∧ gi M (m₀ + 3) (mi M (m₀ + 1) a' b').toNat = gi M (mh_co M t₀ a' b') 5 := y₀
      rw [j1, y'.1, y'.2]
      exact ⟨w₀, v₀⟩
    · exfalso
      unfold mi_dr at j1
      have y1 : ∀ a₀ b₀, mh_rg (gi M t₀ 0) (gi M t₀ 1) a₀ b₀ → mi M (m₀ + 1) a₀ b₀ < 120 := fun a₀ b₀ hr => (q1₀ a₀ b₀ hr).2
      split at j1
      · have := y1 p₀ q₀ (by omega)
        omega
      · have := y1 (p₀ + 1) q₀ (by omega)
        omega
  have hW : ∀ k₀, 0 ≤ k₀ → k₀ < gi M t₀ 1 → gi N2 (t₀ + 2) k₀.toNat = gi M (m₀ + 4) k₀.toNat ∧ 10 ≤ gi M (m₀ + 4) k₀.toNat ∧ gi M (m₀ + 4) k₀.toNat ≤ 200 := by
    intro k₀ k0₀ k1₀
    have w₀ : gi N2 (t₀ + 2) k₀.toNat = gi M (t₀ + 2) k₀.toNat := (hwd k₀ k0₀ k1₀).trans (v2 _)
    have y' : gi M (m₀ + 4) k₀.toNat = gi M (t₀ + 2) k₀.toNat := q4₀ k₀ k0₀ k1₀
    have v₀ := V9.2.1 k₀.toNat (by omega)
    rw [y']
    exact ⟨w₀, v₀⟩
  have hH : ∀ k₀, 0 ≤ k₀ → k₀ < gi M t₀ 0 - 1 → gi N2 (t₀ + 1) k₀.toNat = mi_dh M m₀ x₀ k₀ ∧ 5 ≤ mi_dh M m₀ x₀ k₀ ∧ mi_dh M m₀ x₀ k₀ ≤ 100 := by
    intro k₀ k0₀ k1₀
    have w₀ := hht k₀ k0₀ k1₀
    rw [w₀]
    have v₀ := fun j₀ (a₀ : 0 ≤ j₀) (b₀ : j₀ < gi M t₀ 0) => V9.2.2 j₀.toNat (by omega)
    have y₀ : ∀ j₀, 0 ≤ j₀ → j₀ < gi M t₀ 0 → gi M (m₀ + 5) j₀.toNat = gi M (t₀ + 1) j₀.toNat := q5₀
    unfold mh_dh mi_dh
    rw [v1₀, v1₀]
    by_cases c1₀ : k₀ < x₀
    · rw [if_pos c1₀, if_pos c1₀, y₀ k₀ k0₀ (by omega)]
      exact ⟨rfl, v₀ k₀ k0₀ (by omega)⟩
    · rw [if_neg c1₀, if_neg c1₀]
      rw [y₀ (k₀ + 1) (by omega) (by omega)]
      exact ⟨rfl, v₀ (k₀ + 1) (by omega) (by omega)⟩
  obtain ⟨til, cm, stP, far₀, cu, US₀⟩ := mh_UPS (J₀ := mi_dr M m₀ x₀) (cn := fun k₀ => gi M (m₀ + 2) k₀.toNat) (sy := fun k₀ => gi M (m₀ + 3) k₀.toNat) (wd := fun k₀ => gi M (m₀ + 4) k₀.toNat) (ht := mi_dh M m₀ x₀) I₀ r₀ (mh_chg_fw fw) (fun a₀ k₀ a1₀ a2 => (fw.2.2.2.2.2.2 a₀ k₀).resolve_left (by omega)) (mh_far_fw fw (by omega)) tn₀ hs sz₀ (by split <;> omega) (fun p₀ q₀ p' q' a₀ b₀ => (hat p₀ q₀ p' q' a₀ b₀).trans (part₀ p₀ q₀ p' q' a₀ b₀).symm) hC hW hH
  refine ⟨far₀, fun o => ?_⟩
  have e0₀ : ∀ k₀, gi (sl P o 0 z9) m₀ k₀ = gi M m₀ k₀ := fun k₀ => cm m₀ k₀ (by omega) (by omega)
  have e1₀ : ∀ k₀, gi (sl P o 0 z9) (m₀ + 1) k₀ = gi M (m₀ + 1) k₀ := fun k₀ => cm (m₀ + 1) k₀ (by omega) (by omega)
  have e2₀ : ∀ k₀, gi (sl P o 0 z9) (m₀ + 2) k₀ = gi M (m₀ + 2) k₀ := fun k₀ => cm (m₀ + 2) k₀ (by omega) (by omega)
  have e3₀ : ∀ k₀, gi (sl P o 0 z9) (m₀ + 3) k₀ = gi M (m₀ + 3) k₀ := fun k₀ => cm (m₀ + 3) k₀ (by omega) (by omega)
  have e4₀ : ∀ k₀, gi (sl P o 0 z9) (m₀ + 4) k₀ = gi M (m₀ + 4) k₀ := fun k₀ => cm (m₀ + 4) k₀ (by omega) (by omega)
  have e5₀ : ∀ k₀, gi (sl P o 0 z9) (m₀ + 5) k₀ = gi M (m₀ + 5) k₀ := fun k₀ => cm (m₀ + 5) k₀ (by omega) (by omega)
  have eF : mi (sl P o 0 z9) (m₀ + 1) = mi M (m₀ + 1) := by funext p₀ q₀; exact e1₀ _
  have eJ : mi_dr (sl P o 0 z9) m₀ x₀ = mi_dr M m₀ x₀ := by funext p₀ q₀; unfold mi_dr; rw [eF]
  have eH : mi_dh (sl P o 0 z9) m₀ x₀ = mi_dh M m₀ x₀ := by funext k₀; simp only [mi_dh, e5₀]
  have R := @cX6_deleteRow0 D l hl (sl P o 0 z9) m₀ x₀ (mh_fT P t₀ 0) (mh_fT P t₀ 1) (mh_fT P t₀ 2) (mh_fT P t₀ 3) stP (by unfold mm_rc; rw [e0₀, e0₀]; omega) (by rw [e0₀]; omega) (by rw [e0₀]; omega) (by rw [e0₀, e0₀]; omega) (by rw [e0₀, e0₀]; omega) (by rw [e0₀]; omega) (fun r₀ c₀ a₀ => by rw [e0₀, e0₀] at a₀; simp only [mi, e1₀]; exact hid₀ r₀ c₀ a₀) (by rw [eJ, e0₀, e0₀, zf.1, zf.2.1]; exact til)
  rw [eJ, eH] at R
  simp only [e0₀, e2₀, e3₀, e4₀, e5₀] at R
  rw [zf.1, zf.2.1, zf.2.2] at R
  refine mg_MtN R ?_
  rintro w₀ Q₀ ⟨e₀, nw, se⟩
  obtain ⟨c4₀, rest₀⟩ := US₀ o z9 Q₀ nw se
  exact ⟨by rw [e₀, hz, c4₀, cu, cnt₀], rest₀⟩
theorem ti_deleteColumn0 {D : mg_D} {l : Launch} (hl : l.stackTraces = false) {M : mg_M} {g₀ m₀ t₀ u₀ : Nat} {x₀ : Int} (I₀ : mh_INV M g₀ m₀ t₀ u₀) (h₀ : 0 ≤ x₀ ∧ x₀ < gi M t₀ 1) (h2 : gi M t₀ 1 ≠ 1) : mh_opN D l 79 149 [.inl x₀] M g₀ m₀ := by
  obtain ⟨st₀, rc, h4, si9, rts, hid₀, cnt₀, hco, hw, hh, hb₀, hd₀⟩ := mh_INV_m I₀
  have K9 := I₀.1
  have V9 := I₀.2.1
  have zf := I₀.2.2.2.1
  have sq := I₀.2.2.2.2.1
  have pm := I₀.2.2.1.2
  have pl := I₀.1.2.2.1
  have bb := K9.2.2.2.1.1.1.2.2
  refine ⟨fun z₀ P => z₀ = gi P (u₀ + 3) 0 - gi P (t₀ + 3) 0 ∧ ∃ N1 N2, mh_rmb M N1 g₀ t₀ u₀ ∧ mh_nv N1 N2 t₀ (gi N1 t₀ 0) (gi N1 t₀ 1 - 1) (gi N1 t₀ 2) (mh_dcG (mh_at N1 t₀) x₀) (mh_cn N1 t₀ 4) (mh_cn N1 t₀ 5) (mh_dh N1 (t₀ + 2) x₀) (fun k₀ => gi N1 (t₀ + 1) k₀.toNat) ∧ mh_hs N2 P t₀ (g₀ + 259) 0 0 0 0, mg_MtN (cX5_deleteColumn0 hl K9 h₀ h2) (fun v₀ P h₀ => ⟨_, h₀.1, rfl, h₀.2⟩), ?_⟩
  rintro z9 P ⟨hz, N1, N2, r₀, nv, hs⟩
  obtain ⟨K1, E1₀, FR, h21⟩ := mh_rmb_K K9 r₀
  have v0₀ := (E1₀ t₀ (by omega) (by omega)).2.2.2
  have v1₀ := (E1₀ (t₀ + 1) (by omega) (by omega)).2.2.2
  have v2 := (E1₀ (t₀ + 2) (by omega) (by omega)).2.2.2
  obtain ⟨fw, tn₀, sz₀, hat, hct, hwd, hht⟩ := nv
  simp only [v0₀] at sz₀ hat hct hwd hht
  obtain ⟨q1₀, q2₀, q3₀, q4₀, q5₀⟩ := sq
  have lf₀ : ∀ p₀ q₀, mh_rg (gi M t₀ 0) (gi M t₀ 1 - 1) p₀ q₀ → (∃ a₀ b₀, mh_rg (gi M t₀ 0) (gi M t₀ 1) a₀ b₀ ∧ mi_dc M m₀ x₀ p₀ q₀ = mi M (m₀ + 1) a₀ b₀ ∧ mh_dcG (mh_at N1 t₀) x₀ p₀ q₀ = mh_at N1 t₀ a₀ b₀) ∨ (∃ k₀, 120 ≤ k₀ ∧ mi_dc M m₀ x₀ p₀ q₀ = k₀ ∧ mh_dcG (mh_at N1 t₀) x₀ p₀ q₀ = k₀) := by
    intro p₀ q₀ hr
    unfold mi_dc mh_dcG
    by_cases c1₀ : q₀ < x₀
    · exact Or.inl ⟨p₀, q₀, by omega, by rw [if_pos c1₀], by rw [if_pos c1₀]⟩
    · exact Or.inl ⟨p₀, q₀ + 1, by omega, by rw [if_neg c1₀], by rw [if_neg c1₀]⟩
  have part₀ := mh_lift (J1 := mi M (m₀ + 1)) (J2 := mh_at N1 t₀) (K1 := mi_dc M m₀ x₀) (K2 := mh_dcG (mh_at N1 t₀) x₀) (fun p₀ q₀ p' q' a₀ b₀ => by rw [mh_eq_at E1₀]; exact q2₀ p₀ q₀ p' q' a₀ b₀) (fun p₀ q₀ a₀ => (q1₀ p₀ q₀ a₀).2) (fun p₀ q₀ a₀ => by have := (@mh_cn_at M N1 g₀ t₀ u₀ 4 p₀ q₀ K9 r₀ a₀).2; omega) lf₀
  have hC : ∀ p₀ q₀, mh_rg (gi M t₀ 0) (gi M t₀ 1 - 1) p₀ q₀ → (gi N2 (mh_co N2 t₀ p₀ q₀) 4 = gi M (m₀ + 2) (mi_dc M m₀ x₀ p₀ q₀).toNat ∧ gi N2 (mh_co N2 t₀ p₀ q₀) 5 = gi M (m₀ + 3) (mi_dc M m₀ x₀ p₀ q₀).toNat) ∧ 0 ≤ gi M (m₀ + 2) (mi_dc M m₀ x₀ p₀ q₀).toNat ∧ gi M (m₀ + 2) (mi_dc M m₀ x₀ p₀ q₀).toNat ≤ 999 := by
    intro p₀ q₀ a₀
    have w₀ := hct p₀ q₀ a₀
    rcases lf₀ p₀ q₀ a₀ with ⟨a', b', hr, j1, j2₀⟩ | ⟨k₀, hk, j1, j2₀⟩
    · obtain ⟨c4₀, _, _, _⟩ := @mh_cn_at M N1 g₀ t₀ u₀ 4 a' b' K9 r₀ hr
      obtain ⟨c5₀, _, _, _⟩ := @mh_cn_at M N1 g₀ t₀ u₀ 5 a' b' K9 r₀ hr
      rw [j2₀, c4₀, c5₀] at w₀
      have y₀ := q3₀ a' b' hr
      have y1 := q1₀ a' b' hr
      obtain ⟨i₀, hi, _, _, _, ec⟩ := mh_sqc K9.2.2.2.1.1 K9.2.2.2.1.2 hr
      have v₀ := V9.1 i₀ hi
      rw [← ec] at v₀
      have y' : gi M (m₀ + 2) (mi M (m₀ + 1) a' b').toNat = gi M (mh_co M t₀ a' b') 4 ∧ gi M (m₀ + 3) (mi M (m₀ + 1) a' b').toNat = gi M (mh_co M t₀ a' b') 5 := y₀
      rw [j1, y'.1, y'.2]
      exact ⟨w₀, v₀⟩
    · exfalso
      unfold mi_dc at j1
      have y1 : ∀ a₀ b₀, mh_rg (gi M t₀ 0) (gi M t₀ 1) a₀ b₀ → mi M (m₀ + 1) a₀ b₀ < 120 := fun a₀ b₀ hr => (q1₀ a₀ b₀ hr).2
      split at j1
      · have := y1 p₀ q₀ (by omega)
        omega
      · have := y1 p₀ (q₀ + 1) (by omega)
        omega
  have hW : ∀ k₀, 0 ≤ k₀ → k₀ < gi M t₀ 1 - 1 → gi N2 (t₀ + 2) k₀.toNat = mi_dw M m₀ x₀ k₀ ∧ 10 ≤ mi_dw M m₀ x₀ k₀ ∧ mi_dw M m₀ x₀ k₀ ≤ 200 := by
    intro k₀ k0₀ k1₀
    have w₀ := hwd k₀ k0₀ k1₀
    rw [w₀]
    have v₀ := fun j₀ (a₀ : 0 ≤ j₀) (b₀ : j₀ < gi M t₀ 1) => V9.2.1 j₀.toNat (by omega)
    have y₀ : ∀ j₀, 0 ≤ j₀ → j₀ < gi M t₀ 1 → gi M (m₀ + 4) j₀.toNat = gi M (t₀ + 2) j₀.toNat := q4₀
    unfold mh_dh mi_dw
    rw [v2, v2]
    by_cases c1₀ : k₀ < x₀
    · rw [if_pos c1₀, if_pos c1₀, y₀ k₀ k0₀ (by omega)]
      exact ⟨rfl, v₀ k₀ k0₀ (by omega)⟩
    · rw [if_neg c1₀, if_neg c1₀]
      rw [y₀ (k₀ + 1) (by omega) (by omega)]
      exact ⟨rfl, v₀ (k₀ + 1) (by omega) (by omega)⟩
  have hH : ∀ k₀, 0 ≤ k₀ → k₀ < gi M t₀ 0 → gi N2 (t₀ + 1) k₀.toNat = gi M (m₀ + 5) k₀.toNat ∧ 5 ≤ gi M (m₀ + 5) k₀.toNat ∧ gi M (m₀ + 5) k₀.toNat ≤ 100 := by
    intro k₀ k0₀ k1₀
    have w₀ : gi N2 (t₀ + 1) k₀.toNat = gi M (t₀ + 1) k₀.toNat := (hht k₀ k0₀ k1₀).trans (v1₀ _)
    have y' : gi M (m₀ + 5) k₀.toNat = gi M (t₀ + 1) k₀.toNat := q5₀ k₀ k0₀ k1₀
    have v₀ := V9.2.2 k₀.toNat (by omega)
    rw [y']
    exact ⟨w₀, v₀⟩
  obtain ⟨til, cm, stP, far₀, cu, US₀⟩ := mh_UPS (J₀ := mi_dc M m₀ x₀) (cn := fun k₀ => gi M (m₀ + 2) k₀.toNat) (sy := fun k₀ => gi M (m₀ + 3) k₀.toNat) (wd := mi_dw M m₀ x₀) (ht := fun k₀ => gi M (m₀ + 5) k₀.toNat) I₀ r₀ (mh_chg_fw fw) (fun a₀ k₀ a1₀ a2 => (fw.2.2.2.2.2.2 a₀ k₀).resolve_left (by omega)) (mh_far_fw fw (by omega)) tn₀ hs sz₀ (by omega) (fun p₀ q₀ p' q' a₀ b₀ => (hat p₀ q₀ p' q' a₀ b₀).trans (part₀ p₀ q₀ p' q' a₀ b₀).symm) hC hW hH
  refine ⟨far₀, fun o => ?_⟩
  have e0₀ : ∀ k₀, gi (sl P o 0 z9) m₀ k₀ = gi M m₀ k₀ := fun k₀ => cm m₀ k₀ (by omega) (by omega)
  have e1₀ : ∀ k₀, gi (sl P o 0 z9) (m₀ + 1) k₀ = gi M (m₀ + 1) k₀ := fun k₀ => cm (m₀ + 1) k₀ (by omega) (by omega)
  have e2₀ : ∀ k₀, gi (sl P o 0 z9) (m₀ + 2) k₀ = gi M (m₀ + 2) k₀ := fun k₀ => cm (m₀ + 2) k₀ (by omega) (by omega)
  have e3₀ : ∀ k₀, gi (sl P o 0 z9) (m₀ + 3) k₀ = gi M (m₀ + 3) k₀ := fun k₀ => cm (m₀ + 3) k₀ (by omega) (by omega)
  have e4₀ : ∀ k₀, gi (sl P o 0 z9) (m₀ + 4) k₀ = gi M (m₀ + 4) k₀ := fun k₀ => cm (m₀ + 4) k₀ (by omega) (by omega)
  have e5₀ : ∀ k₀, gi (sl P o 0 z9) (m₀ + 5) k₀ = gi M (m₀ + 5) k₀ := fun k₀ => cm (m₀ + 5) k₀ (by omega) (by omega)
  have eF : mi (sl P o 0 z9) (m₀ + 1) = mi M (m₀ + 1) := by funext p₀ q₀; exact e1₀ _
  have eJ : mi_dc (sl P o 0 z9) m₀ x₀ = mi_dc M m₀ x₀ := by funext p₀ q₀; unfold mi_dc; rw [eF]
  have eH : mi_dw (sl P o 0 z9) m₀ x₀ = mi_dw M m₀ x₀ := by funext k₀; simp only [mi_dw, e4₀]
  have R := @cX6_deleteColumn0 D l hl (sl P o 0 z9) m₀ x₀ (mh_fT P t₀ 0) (mh_fT P t₀ 1) (mh_fT P t₀ 2) (mh_fT P t₀ 3) stP (by unfold mm_rc; rw [e0₀, e0₀]; omega) (by rw [e0₀]; omega) (by rw [e0₀]; omega) (by rw [e0₀, e0₀]; omega) (by rw [e0₀, e0₀]; omega) (by rw [e0₀]; omega) (fun r₀ c₀ a₀ => by rw [e0₀, e0₀] at a₀; simp only [mi, e1₀]; exact hid₀ r₀ c₀ a₀) (by rw [eJ, e0₀, e0₀, zf.1, zf.2.1]; exact til)
  rw [eJ, eH] at R
  simp only [e0₀, e2₀, e3₀, e4₀, e5₀] at R
  rw [zf.1, zf.2.1, zf.2.2] at R
  refine mg_MtN R ?_
  rintro w₀ Q₀ ⟨e₀, nw, se⟩
  obtain ⟨c4₀, rest₀⟩ := US₀ o z9 Q₀ nw se
  exact ⟨by rw [e₀, hz, c4₀, cu, cnt₀], rest₀⟩
theorem ti_insertRow1 {D : mg_D} {l : Launch} (hl : l.stackTraces = false) {M : mg_M} {g₀ m₀ t₀ u₀ : Nat} {x₀ : Int} (I₀ : mh_INV M g₀ m₀ t₀ u₀) (h₀ : ¬ (0 ≤ x₀ ∧ x₀ ≤ gi M t₀ 0)) : mh_opT D l 76 146 [.inl x₀] M g₀ m₀ 1 1 := by
  refine mh_opT_of (cX5_insertRow1 hl I₀.1 h₀) (fun P s₀ => ?_) I₀
  have IP := mh_INV_same I₀ s₀
  obtain ⟨v1₀, v2, v3⟩ := mh_same_v I₀ s₀
  have z₀ := I₀.2.2.2.1
  have e1₀ := v2 1 (by omega) (by omega)
  have e2₀ := v2 2 (by omega) (by omega)
  have e3₀ := v2 3 (by omega) (by omega)
  obtain ⟨st₀, rc, h4, si9, rts, hid₀, cnt₀, hco, hw, hh, hb₀, hd₀⟩ := mh_INV_m IP
  exact mg_MtN (cX6_insertRow1 hl st₀ (by omega)) (fun w₀ Q₀ h₀ => ⟨h₀.1, Or.inl h₀.2⟩)
theorem ti_insertRow2 {D : mg_D} {l : Launch} (hl : l.stackTraces = false) {M : mg_M} {g₀ m₀ t₀ u₀ : Nat} {x₀ : Int} (I₀ : mh_INV M g₀ m₀ t₀ u₀) (h₀ : 0 ≤ x₀ ∧ x₀ ≤ gi M t₀ 0) (h2 : 12 ≤ gi M t₀ 0) : mh_opT D l 76 146 [.inl x₀] M g₀ m₀ 2 2 := by
  refine mh_opT_of (cX5_insertRow2 hl I₀.1 h₀ h2) (fun P s₀ => ?_) I₀
  have IP := mh_INV_same I₀ s₀
  obtain ⟨v1₀, v2, v3⟩ := mh_same_v I₀ s₀
  have z₀ := I₀.2.2.2.1
  have e1₀ := v2 1 (by omega) (by omega)
  have e2₀ := v2 2 (by omega) (by omega)
  have e3₀ := v2 3 (by omega) (by omega)
  obtain ⟨st₀, rc, h4, si9, rts, hid₀, cnt₀, hco, hw, hh, hb₀, hd₀⟩ := mh_INV_m IP
  exact mg_MtN (cX6_insertRow2 hl st₀ (by omega) (by omega)) (fun w₀ Q₀ h₀ => ⟨h₀.1, Or.inl h₀.2⟩)
theorem ti_insertColumn1 {D : mg_D} {l : Launch} (hl : l.stackTraces = false) {M : mg_M} {g₀ m₀ t₀ u₀ : Nat} {x₀ : Int} (I₀ : mh_INV M g₀ m₀ t₀ u₀) (h₀ : ¬ (0 ≤ x₀ ∧ x₀ ≤ gi M t₀ 1)) : mh_opT D l 77 147 [.inl x₀] M g₀ m₀ 1 1 := by
  refine mh_opT_of (cX5_insertColumn1 hl I₀.1 h₀) (fun P s₀ => ?_) I₀
  have IP := mh_INV_same I₀ s₀
  obtain ⟨v1₀, v2, v3⟩ := mh_same_v I₀ s₀
  have z₀ := I₀.2.2.2.1
  have e1₀ := v2 1 (by omega) (by omega)
  have e2₀ := v2 2 (by omega) (by omega)
  have e3₀ := v2 3 (by omega) (by omega)
  obtain ⟨st₀, rc, h4, si9, rts, hid₀, cnt₀, hco, hw, hh, hb₀, hd₀⟩ := mh_INV_m IP
  exact mg_MtN (cX6_insertColumn1 hl st₀ (by omega)) (fun w₀ Q₀ h₀ => ⟨h₀.1, Or.inl h₀.2⟩)
theorem ti_insertColumn2 {D : mg_D} {l : Launch} (hl : l.stackTraces = false) {M : mg_M} {g₀ m₀ t₀ u₀ : Nat} {x₀ : Int} (I₀ : mh_INV M g₀ m₀ t₀ u₀) (h₀ : 0 ≤ x₀ ∧ x₀ ≤ gi M t₀ 1) (h2 : 10 ≤ gi M t₀ 1) : mh_opT D l 77 147 [.inl x₀] M g₀ m₀ 2 2 := by
  refine mh_opT_of (cX5_insertColumn2 hl I₀.1 h₀ h2) (fun P s₀ => ?_) I₀
  have IP := mh_INV_same I₀ s₀
  obtain ⟨v1₀, v2, v3⟩ := mh_same_v I₀ s₀
  have z₀ := I₀.2.2.2.1
  have e1₀ := v2 1 (by omega) (by omega)
  have e2₀ := v2 2 (by omega) (by omega)
  have e3₀ := v2 3 (by omega) (by omega)
  obtain ⟨st₀, rc, h4, si9, rts, hid₀, cnt₀, hco, hw, hh, hb₀, hd₀⟩ := mh_INV_m IP
  exact mg_MtN (cX6_insertColumn2 hl st₀ (by omega) (by omega)) (fun w₀ Q₀ h₀ => ⟨h₀.1, Or.inl h₀.2⟩)
theorem ti_deleteRow1 {D : mg_D} {l : Launch} (hl : l.stackTraces = false) {M : mg_M} {g₀ m₀ t₀ u₀ : Nat} {x₀ : Int} (I₀ : mh_INV M g₀ m₀ t₀ u₀) (h₀ : ¬ (0 ≤ x₀ ∧ x₀ < gi M t₀ 0)) : mh_opT D l 78 148 [.inl x₀] M g₀ m₀ 1 1 := by
  refine mh_opT_of (cX5_deleteRow1 hl I₀.1 h₀) (fun P s₀ => ?_) I₀
  have IP := mh_INV_same I₀ s₀
  obtain ⟨v1₀, v2, v3⟩ := mh_same_v I₀ s₀
  have z₀ := I₀.2.2.2.1
  have e1₀ := v2 1 (by omega) (by omega)
  have e2₀ := v2 2 (by omega) (by omega)
  have e3₀ := v2 3 (by omega) (by omega)
  obtain ⟨st₀, rc, h4, si9, rts, hid₀, cnt₀, hco, hw, hh, hb₀, hd₀⟩ := mh_INV_m IP
  exact mg_MtN (cX6_deleteRow1 hl st₀ rc (by omega)) (fun w₀ Q₀ h₀ => ⟨h₀.1, Or.inl h₀.2⟩)
theorem ti_deleteRow2 {D : mg_D} {l : Launch} (hl : l.stackTraces = false) {M : mg_M} {g₀ m₀ t₀ u₀ : Nat} {x₀ : Int} (I₀ : mh_INV M g₀ m₀ t₀ u₀) (h₀ : 0 ≤ x₀ ∧ x₀ < gi M t₀ 0) (h2 : gi M t₀ 0 = 1) : mh_opT D l 78 148 [.inl x₀] M g₀ m₀ 2 2 := by
  refine mh_opT_of (cX5_deleteRow2 hl I₀.1 h₀ h2) (fun P s₀ => ?_) I₀
  have IP := mh_INV_same I₀ s₀
  obtain ⟨v1₀, v2, v3⟩ := mh_same_v I₀ s₀
  have z₀ := I₀.2.2.2.1
  have e1₀ := v2 1 (by omega) (by omega)
  have e2₀ := v2 2 (by omega) (by omega)
  have e3₀ := v2 3 (by omega) (by omega)
  obtain ⟨st₀, rc, h4, si9, rts, hid₀, cnt₀, hco, hw, hh, hb₀, hd₀⟩ := mh_INV_m IP
  exact mg_MtN (cX6_deleteRow2 hl st₀ rc (by omega) (by omega)) (fun w₀ Q₀ h₀ => ⟨h₀.1, Or.inl h₀.2⟩)
theorem ti_deleteColumn1 {D : mg_D} {l : Launch} (hl : l.stackTraces = false) {M : mg_M} {g₀ m₀ t₀ u₀ : Nat} {x₀ : Int} (I₀ : mh_INV M g₀ m₀ t₀ u₀) (h₀ : ¬ (0 ≤ x₀ ∧ x₀ < gi M t₀ 1)) : mh_opT D l 79 149 [.inl x₀] M g₀ m₀ 1 1 := by
  refine mh_opT_of (cX5_deleteColumn1 hl I₀.1 h₀) (fun P s₀ => ?_) I₀
  have IP := mh_INV_same I₀ s₀
  obtain ⟨v1₀, v2, v3⟩ := mh_same_v I₀ s₀
  have z₀ := I₀.2.2.2.1
  have e1₀ := v2 1 (by omega) (by omega)
  have e2₀ := v2 2 (by omega) (by omega)
  have e3₀ := v2 3 (by omega) (by omega)
  obtain ⟨st₀, rc, h4, si9, rts, hid₀, cnt₀, hco, hw, hh, hb₀, hd₀⟩ := mh_INV_m IP
  exact mg_MtN (cX6_deleteColumn1 hl st₀ rc (by omega)) (fun w₀ Q₀ h₀ => ⟨h₀.1, Or.inl h₀.2⟩)
theorem ti_deleteColumn2 {D : mg_D} {l : Launch} (hl : l.stackTraces = false) {M : mg_M} {g₀ m₀ t₀ u₀ : Nat} {x₀ : Int} (I₀ : mh_INV M g₀ m₀ t₀ u₀) (h₀ : 0 ≤ x₀ ∧ x₀ < gi M t₀ 1) (h2 : gi M t₀ 1 = 1) : mh_opT D l 79 149 [.inl x₀] M g₀ m₀ 2 2 := by
  refine mh_opT_of (cX5_deleteColumn2 hl I₀.1 h₀ h2) (fun P s₀ => ?_) I₀
  have IP := mh_INV_same I₀ s₀
  obtain ⟨v1₀, v2, v3⟩ := mh_same_v I₀ s₀
  have z₀ := I₀.2.2.2.1
  have e1₀ := v2 1 (by omega) (by omega)
  have e2₀ := v2 2 (by omega) (by omega)
  have e3₀ := v2 3 (by omega) (by omega)
  obtain ⟨st₀, rc, h4, si9, rts, hid₀, cnt₀, hco, hw, hh, hb₀, hd₀⟩ := mh_INV_m IP
  exact mg_MtN (cX6_deleteColumn2 hl st₀ rc (by omega) (by omega)) (fun w₀ Q₀ h₀ => ⟨h₀.1, Or.inl h₀.2⟩)
theorem ti_setContent1 {D : mg_D} {l : Launch} (hl : l.stackTraces = false) {M : mg_M} {g₀ m₀ t₀ u₀ : Nat} {r₀ c₀ x₀ : Int} (I₀ : mh_INV M g₀ m₀ t₀ u₀) (h₀ : ¬ mh_rg (gi M t₀ 0) (gi M t₀ 1) r₀ c₀) : mh_opT D l 87 164 [.inl r₀, .inl c₀, .inl x₀] M g₀ m₀ 1 1 := by
  refine mh_opT_of (cX5_setContent1 hl I₀.1 h₀) (fun P s₀ => ?_) I₀
  have IP := mh_INV_same I₀ s₀
  obtain ⟨v1₀, v2, v3⟩ := mh_same_v I₀ s₀
  have z₀ := I₀.2.2.2.1
  have e1₀ := v2 1 (by omega) (by omega)
  have e2₀ := v2 2 (by omega) (by omega)
  have e3₀ := v2 3 (by omega) (by omega)
  obtain ⟨st₀, rc, h4, si9, rts, hid₀, cnt₀, hco, hw, hh, hb₀, hd₀⟩ := mh_INV_m IP
  exact mg_MtN (cX6_setContent1 hl st₀ rc (by omega)) (fun w₀ Q₀ h₀ => ⟨h₀.1, Or.inl h₀.2⟩)
theorem ti_setContent2 {D : mg_D} {l : Launch} (hl : l.stackTraces = false) {M : mg_M} {g₀ m₀ t₀ u₀ : Nat} {r₀ c₀ x₀ : Int} (I₀ : mh_INV M g₀ m₀ t₀ u₀) (h₀ : mh_rg (gi M t₀ 0) (gi M t₀ 1) r₀ c₀) (hx : ¬ (0 ≤ x₀ ∧ x₀ ≤ 999)) : mh_opT D l 87 164 [.inl r₀, .inl c₀, .inl x₀] M g₀ m₀ 3 2 := by
  refine mh_opT_of (cX5_setContent2 hl I₀.1 h₀ hx) (fun P s₀ => ?_) I₀
  have IP := mh_INV_same I₀ s₀
  obtain ⟨v1₀, v2, v3⟩ := mh_same_v I₀ s₀
  have z₀ := I₀.2.2.2.1
  have e1₀ := v2 1 (by omega) (by omega)
  have e2₀ := v2 2 (by omega) (by omega)
  have e3₀ := v2 3 (by omega) (by omega)
  obtain ⟨st₀, rc, h4, si9, rts, hid₀, cnt₀, hco, hw, hh, hb₀, hd₀⟩ := mh_INV_m IP
  exact mg_MtN (cX6_setContent2 hl st₀ rc (by omega) hx) (fun w₀ Q₀ h₀ => ⟨h₀.1, Or.inl h₀.2⟩)
theorem ti_setStyle1 {D : mg_D} {l : Launch} (hl : l.stackTraces = false) {M : mg_M} {g₀ m₀ t₀ u₀ : Nat} {x₀ : Int} (I₀ : mh_INV M g₀ m₀ t₀ u₀) (hx : ¬ (0 ≤ x₀ ∧ x₀ ≤ 9)) : mh_opT D l 88 165 [.inl x₀] M g₀ m₀ 3 1 := by
  refine mh_opT_of (cX5_setStyle1 hl I₀.1 hx) (fun P s₀ => ?_) I₀
  have IP := mh_INV_same I₀ s₀
  obtain ⟨v1₀, v2, v3⟩ := mh_same_v I₀ s₀
  have z₀ := I₀.2.2.2.1
  have e1₀ := v2 1 (by omega) (by omega)
  have e2₀ := v2 2 (by omega) (by omega)
  have e3₀ := v2 3 (by omega) (by omega)
  obtain ⟨st₀, rc, h4, si9, rts, hid₀, cnt₀, hco, hw, hh, hb₀, hd₀⟩ := mh_INV_m IP
  exact mg_MtN (cX6_setStyle1 hl st₀ hx) (fun w₀ Q₀ h₀ => ⟨h₀.1, Or.inl h₀.2⟩)
theorem ti_setWidth1 {D : mg_D} {l : Launch} (hl : l.stackTraces = false) {M : mg_M} {g₀ m₀ t₀ u₀ : Nat} {c₀ x₀ : Int} (I₀ : mh_INV M g₀ m₀ t₀ u₀) (h₀ : ¬ (0 ≤ c₀ ∧ c₀ < gi M t₀ 1)) : mh_opT D l 103 195 [.inl c₀, .inl x₀] M g₀ m₀ 1 1 := by
  refine mh_opT_of (cX5_setWidth1 hl I₀.1 h₀) (fun P s₀ => ?_) I₀
  have IP := mh_INV_same I₀ s₀
  obtain ⟨v1₀, v2, v3⟩ := mh_same_v I₀ s₀
  have z₀ := I₀.2.2.2.1
  have e1₀ := v2 1 (by omega) (by omega)
  have e2₀ := v2 2 (by omega) (by omega)
  have e3₀ := v2 3 (by omega) (by omega)
  obtain ⟨st₀, rc, h4, si9, rts, hid₀, cnt₀, hco, hw, hh, hb₀, hd₀⟩ := mh_INV_m IP
  exact mg_MtN (cX6_setWidth1 hl st₀ rc (by omega)) (fun w₀ Q₀ h₀ => ⟨h₀.1, Or.inl h₀.2⟩)
theorem ti_setWidth2 {D : mg_D} {l : Launch} (hl : l.stackTraces = false) {M : mg_M} {g₀ m₀ t₀ u₀ : Nat} {c₀ x₀ : Int} (I₀ : mh_INV M g₀ m₀ t₀ u₀) (h₀ : 0 ≤ c₀ ∧ c₀ < gi M t₀ 1) (hx : ¬ (10 ≤ x₀ ∧ x₀ ≤ 200)) : mh_opT D l 103 195 [.inl c₀, .inl x₀] M g₀ m₀ 3 2 := by
  refine mh_opT_of (cX5_setWidth2 hl I₀.1 h₀ hx) (fun P s₀ => ?_) I₀
  have IP := mh_INV_same I₀ s₀
  obtain ⟨v1₀, v2, v3⟩ := mh_same_v I₀ s₀
  have z₀ := I₀.2.2.2.1
  have e1₀ := v2 1 (by omega) (by omega)
  have e2₀ := v2 2 (by omega) (by omega)
  have e3₀ := v2 3 (by omega) (by omega)
  obtain ⟨st₀, rc, h4, si9, rts, hid₀, cnt₀, hco, hw, hh, hb₀, hd₀⟩ := mh_INV_m IP
  exact mg_MtN (cX6_setWidth2 hl st₀ rc (by omega) hx) (fun w₀ Q₀ h₀ => ⟨h₀.1, Or.inl h₀.2⟩)
theorem ti_setHeight1 {D : mg_D} {l : Launch} (hl : l.stackTraces = false) {M : mg_M} {g₀ m₀ t₀ u₀ : Nat} {c₀ x₀ : Int} (I₀ : mh_INV M g₀ m₀ t₀ u₀) (h₀ : ¬ (0 ≤ c₀ ∧ c₀ < gi M t₀ 0)) : mh_opT D l 104 196 [.inl c₀, .inl x₀] M g₀ m₀ 1 1 := by
  refine mh_opT_of (cX5_setHeight1 hl I₀.1 h₀) (fun P s₀ => ?_) I₀
  have IP := mh_INV_same I₀ s₀
  obtain ⟨v1₀, v2, v3⟩ := mh_same_v I₀ s₀
  have z₀ := I₀.2.2.2.1
  have e1₀ := v2 1 (by omega) (by omega)
  have e2₀ := v2 2 (by omega) (by omega)
  have e3₀ := v2 3 (by omega) (by omega)
  obtain ⟨st₀, rc, h4, si9, rts, hid₀, cnt₀, hco, hw, hh, hb₀, hd₀⟩ := mh_INV_m IP
  exact mg_MtN (cX6_setHeight1 hl st₀ rc (by omega)) (fun w₀ Q₀ h₀ => ⟨h₀.1, Or.inl h₀.2⟩)
theorem ti_setHeight2 {D : mg_D} {l : Launch} (hl : l.stackTraces = false) {M : mg_M} {g₀ m₀ t₀ u₀ : Nat} {c₀ x₀ : Int} (I₀ : mh_INV M g₀ m₀ t₀ u₀) (h₀ : 0 ≤ c₀ ∧ c₀ < gi M t₀ 0) (hx : ¬ (5 ≤ x₀ ∧ x₀ ≤ 100)) : mh_opT D l 104 196 [.inl c₀, .inl x₀] M g₀ m₀ 3 2 := by
  refine mh_opT_of (cX5_setHeight2 hl I₀.1 h₀ hx) (fun P s₀ => ?_) I₀
  have IP := mh_INV_same I₀ s₀
  obtain ⟨v1₀, v2, v3⟩ := mh_same_v I₀ s₀
  have z₀ := I₀.2.2.2.1
  have e1₀ := v2 1 (by omega) (by omega)
  have e2₀ := v2 2 (by omega) (by omega)
  have e3₀ := v2 3 (by omega) (by omega)
  obtain ⟨st₀, rc, h4, si9, rts, hid₀, cnt₀, hco, hw, hh, hb₀, hd₀⟩ := mh_INV_m IP
  exact mg_MtN (cX6_setHeight2 hl st₀ rc (by omega) hx) (fun w₀ Q₀ h₀ => ⟨h₀.1, Or.inl h₀.2⟩)
theorem ti_drag1 {D : mg_D} {l : Launch} (hl : l.stackTraces = false) {M : mg_M} {g₀ m₀ t₀ u₀ : Nat} {c₀ x₀ : Int} (I₀ : mh_INV M g₀ m₀ t₀ u₀) (h₀ : ¬ (0 ≤ c₀ ∧ c₀ + 1 < gi M t₀ 1)) : mh_opT D l 105 197 [.inl c₀, .inl x₀] M g₀ m₀ 1 1 := by
  refine mh_opT_of (cX5_drag1 hl I₀.1 h₀) (fun P s₀ => ?_) I₀
  have IP := mh_INV_same I₀ s₀
  obtain ⟨v1₀, v2, v3⟩ := mh_same_v I₀ s₀
  have z₀ := I₀.2.2.2.1
  have e1₀ := v2 1 (by omega) (by omega)
  have e2₀ := v2 2 (by omega) (by omega)
  have e3₀ := v2 3 (by omega) (by omega)
  obtain ⟨st₀, rc, h4, si9, rts, hid₀, cnt₀, hco, hw, hh, hb₀, hd₀⟩ := mh_INV_m IP
  exact mg_MtN (cX6_drag1 hl st₀ rc (by omega)) (fun w₀ Q₀ h₀ => ⟨h₀.1, Or.inl h₀.2⟩)
theorem ti_even1 {D : mg_D} {l : Launch} (hl : l.stackTraces = false) {M : mg_M} {g₀ m₀ t₀ u₀ : Nat} {c₀ x₀ : Int} (I₀ : mh_INV M g₀ m₀ t₀ u₀) (h₀ : ¬ ((0 ≤ c₀ ∧ c₀ < gi M t₀ 1) ∧ (0 ≤ x₀ ∧ x₀ < gi M t₀ 1))) : mh_opT D l 106 198 [.inl c₀, .inl x₀] M g₀ m₀ 1 1 := by
  refine mh_opT_of (cX5_even1 hl I₀.1 h₀) (fun P s₀ => ?_) I₀
  have IP := mh_INV_same I₀ s₀
  obtain ⟨v1₀, v2, v3⟩ := mh_same_v I₀ s₀
  have z₀ := I₀.2.2.2.1
  have e1₀ := v2 1 (by omega) (by omega)
  have e2₀ := v2 2 (by omega) (by omega)
  have e3₀ := v2 3 (by omega) (by omega)
  obtain ⟨st₀, rc, h4, si9, rts, hid₀, cnt₀, hco, hw, hh, hb₀, hd₀⟩ := mh_INV_m IP
  exact mg_MtN (cX6_even1 hl st₀ rc (by omega)) (fun w₀ Q₀ h₀ => ⟨h₀.1, Or.inl h₀.2⟩)
theorem ti_even2 {D : mg_D} {l : Launch} (hl : l.stackTraces = false) {M : mg_M} {g₀ m₀ t₀ u₀ : Nat} {c₀ x₀ : Int} (I₀ : mh_INV M g₀ m₀ t₀ u₀) (h₀ : (0 ≤ c₀ ∧ c₀ < gi M t₀ 1) ∧ (0 ≤ x₀ ∧ x₀ < gi M t₀ 1)) (h2 : x₀ ≤ c₀) : mh_opT D l 106 198 [.inl c₀, .inl x₀] M g₀ m₀ 3 2 := by
  refine mh_opT_of (cX5_even2 hl I₀.1 h₀ h2) (fun P s₀ => ?_) I₀
  have IP := mh_INV_same I₀ s₀
  obtain ⟨v1₀, v2, v3⟩ := mh_same_v I₀ s₀
  have z₀ := I₀.2.2.2.1
  have e1₀ := v2 1 (by omega) (by omega)
  have e2₀ := v2 2 (by omega) (by omega)
  have e3₀ := v2 3 (by omega) (by omega)
  obtain ⟨st₀, rc, h4, si9, rts, hid₀, cnt₀, hco, hw, hh, hb₀, hd₀⟩ := mh_INV_m IP
  exact mg_MtN (cX6_even2 hl st₀ rc (by omega) h2) (fun w₀ Q₀ h₀ => ⟨h₀.1, Or.inl h₀.2⟩)
theorem ti_split1 {D : mg_D} {l : Launch} (hl : l.stackTraces = false) {M : mg_M} {g₀ m₀ t₀ u₀ : Nat} {r₀ c₀ k₀ : Int} (I₀ : mh_INV M g₀ m₀ t₀ u₀) (h₀ : ¬ mh_rg (gi M t₀ 0) (gi M t₀ 1) r₀ c₀) : mh_opT D l 94 175 [.inl r₀, .inl c₀, .inl k₀] M g₀ m₀ 1 1 := by
  refine mh_opT_of (cX5_split1 hl I₀.1 h₀) (fun P s₀ => ?_) I₀
  have IP := mh_INV_same I₀ s₀
  obtain ⟨v1₀, v2, v3⟩ := mh_same_v I₀ s₀
  have z₀ := I₀.2.2.2.1
  have e1₀ := v2 1 (by omega) (by omega)
  have e2₀ := v2 2 (by omega) (by omega)
  have e3₀ := v2 3 (by omega) (by omega)
  obtain ⟨st₀, rc, h4, si9, rts, hid₀, cnt₀, hco, hw, hh, hb₀, hd₀⟩ := mh_INV_m IP
  exact mg_MtN (cX6_split1 hl st₀ rc (by omega)) (fun w₀ Q₀ h₀ => ⟨h₀.1, Or.inl h₀.2⟩)
theorem ti_split2 {D : mg_D} {l : Launch} (hl : l.stackTraces = false) {M : mg_M} {g₀ m₀ t₀ u₀ : Nat} {r₀ c₀ k₀ : Int} (I₀ : mh_INV M g₀ m₀ t₀ u₀) (h₀ : mh_rg (gi M t₀ 0) (gi M t₀ 1) r₀ c₀) (hk : k₀ ≠ 115 ∧ k₀ ≠ 114 ∧ k₀ ≠ 99) : mh_opT D l 94 175 [.inl r₀, .inl c₀, .inl k₀] M g₀ m₀ 3 2 := by
  refine mh_opT_of (cX5_split2 hl I₀.1 h₀ hk) (fun P s₀ => ?_) I₀
  have IP := mh_INV_same I₀ s₀
  obtain ⟨v1₀, v2, v3⟩ := mh_same_v I₀ s₀
  have z₀ := I₀.2.2.2.1
  have e1₀ := v2 1 (by omega) (by omega)
  have e2₀ := v2 2 (by omega) (by omega)
  have e3₀ := v2 3 (by omega) (by omega)
  obtain ⟨st₀, rc, h4, si9, rts, hid₀, cnt₀, hco, hw, hh, hb₀, hd₀⟩ := mh_INV_m IP
  exact mg_MtN (cX6_split2 hl st₀ rc (by omega) hk) (fun w₀ Q₀ h₀ => ⟨h₀.1, Or.inl h₀.2⟩)
theorem ti_paste1 {D : mg_D} {l : Launch} (hl : l.stackTraces = false) {M : mg_M} {g₀ m₀ t₀ u₀ : Nat} {r₀ c₀ x₀ y₀ : Int} (I₀ : mh_INV M g₀ m₀ t₀ u₀) (h₀ : ¬ mh_rg (gi M t₀ 0) (gi M t₀ 1) r₀ c₀) : mh_opT D l 97 184 [.inl r₀, .inl c₀, .inl x₀, .inl y₀] M g₀ m₀ 1 1 := by
  refine mh_opT_of (cX5_paste1 hl I₀.1 h₀) (fun P s₀ => ?_) I₀
  have IP := mh_INV_same I₀ s₀
  obtain ⟨v1₀, v2, v3⟩ := mh_same_v I₀ s₀
  have z₀ := I₀.2.2.2.1
  have e1₀ := v2 1 (by omega) (by omega)
  have e2₀ := v2 2 (by omega) (by omega)
  have e3₀ := v2 3 (by omega) (by omega)
  obtain ⟨st₀, rc, h4, si9, rts, hid₀, cnt₀, hco, hw, hh, hb₀, hd₀⟩ := mh_INV_m IP
  exact mg_MtN (cX6_paste1 hl st₀ rc (by omega)) (fun w₀ Q₀ h₀ => ⟨h₀.1, Or.inl h₀.2⟩)
theorem ti_paste2 {D : mg_D} {l : Launch} (hl : l.stackTraces = false) {M : mg_M} {g₀ m₀ t₀ u₀ : Nat} {r₀ c₀ x₀ y₀ : Int} (I₀ : mh_INV M g₀ m₀ t₀ u₀) (h₀ : mh_rg (gi M t₀ 0) (gi M t₀ 1) r₀ c₀) (hx : ¬ ((1 ≤ x₀ ∧ x₀ ≤ 4) ∧ (1 ≤ y₀ ∧ y₀ ≤ 4))) : mh_opT D l 97 184 [.inl r₀, .inl c₀, .inl x₀, .inl y₀] M g₀ m₀ 3 2 := by
  refine mh_opT_of (cX5_paste2 hl I₀.1 h₀ hx) (fun P s₀ => ?_) I₀
  have IP := mh_INV_same I₀ s₀
  obtain ⟨v1₀, v2, v3⟩ := mh_same_v I₀ s₀
  have z₀ := I₀.2.2.2.1
  have e1₀ := v2 1 (by omega) (by omega)
  have e2₀ := v2 2 (by omega) (by omega)
  have e3₀ := v2 3 (by omega) (by omega)
  obtain ⟨st₀, rc, h4, si9, rts, hid₀, cnt₀, hco, hw, hh, hb₀, hd₀⟩ := mh_INV_m IP
  exact mg_MtN (cX6_paste2 hl st₀ rc (by omega) hx) (fun w₀ Q₀ h₀ => ⟨h₀.1, Or.inl h₀.2⟩)
theorem ti_sort1 {D : mg_D} {l : Launch} (hl : l.stackTraces = false) {M : mg_M} {g₀ m₀ t₀ u₀ : Nat} {x₀ y₀ : Int} (I₀ : mh_INV M g₀ m₀ t₀ u₀) (h₀ : ¬ (0 ≤ x₀ ∧ x₀ < gi M t₀ 1)) : mh_opT D l 100 191 [.inl x₀, .inl y₀] M g₀ m₀ 1 1 := by
  refine mh_opT_of (cX5_sort1 hl I₀.1 h₀) (fun P s₀ => ?_) I₀
  have IP := mh_INV_same I₀ s₀
  obtain ⟨v1₀, v2, v3⟩ := mh_same_v I₀ s₀
  have z₀ := I₀.2.2.2.1
  have e1₀ := v2 1 (by omega) (by omega)
  have e2₀ := v2 2 (by omega) (by omega)
  have e3₀ := v2 3 (by omega) (by omega)
  obtain ⟨st₀, rc, h4, si9, rts, hid₀, cnt₀, hco, hw, hh, hb₀, hd₀⟩ := mh_INV_m IP
  exact mg_MtN (cX6_sort1 hl st₀ rc (by omega)) (fun w₀ Q₀ h₀ => ⟨h₀.1, Or.inl h₀.2⟩)
theorem ti_sizeOf1 {D : mg_D} {l : Launch} (hl : l.stackTraces = false) {M : mg_M} {g₀ m₀ t₀ u₀ : Nat} {r₀ c₀ : Int} (I₀ : mh_INV M g₀ m₀ t₀ u₀) (h₀ : ¬ mh_rg (gi M t₀ 0) (gi M t₀ 1) r₀ c₀) : mh_opT D l 107 199 [.inl r₀, .inl c₀] M g₀ m₀ 1 1 := by
  refine mh_opT_of (cX5_sizeOf1 hl I₀.1 h₀) (fun P s₀ => ?_) I₀
  have IP := mh_INV_same I₀ s₀
  obtain ⟨v1₀, v2, v3⟩ := mh_same_v I₀ s₀
  have z₀ := I₀.2.2.2.1
  have e1₀ := v2 1 (by omega) (by omega)
  have e2₀ := v2 2 (by omega) (by omega)
  have e3₀ := v2 3 (by omega) (by omega)
  obtain ⟨st₀, rc, h4, si9, rts, hid₀, cnt₀, hco, hw, hh, hb₀, hd₀⟩ := mh_INV_m IP
  exact mg_MtN (cX6_sizeOf1 hl st₀ rc (by omega)) (fun w₀ Q₀ h₀ => ⟨h₀.1, Or.inl h₀.2⟩)
theorem ti_moveRow1 {D : mg_D} {l : Launch} (hl : l.stackTraces = false) {M : mg_M} {g₀ m₀ t₀ u₀ : Nat} {x₀ y₀ : Int} (I₀ : mh_INV M g₀ m₀ t₀ u₀) (h₀ : ¬ ((0 ≤ x₀ ∧ x₀ < gi M t₀ 0) ∧ (0 ≤ y₀ ∧ y₀ < gi M t₀ 0))) : mh_opT D l 80 152 [.inl x₀, .inl y₀] M g₀ m₀ 1 1 := by
  refine mh_opT_of (cX5_moveRow1 hl I₀.1 h₀) (fun P s₀ => ?_) I₀
  have IP := mh_INV_same I₀ s₀
  obtain ⟨v1₀, v2, v3⟩ := mh_same_v I₀ s₀
  have z₀ := I₀.2.2.2.1
  have e1₀ := v2 1 (by omega) (by omega)
  have e2₀ := v2 2 (by omega) (by omega)
  have e3₀ := v2 3 (by omega) (by omega)
  obtain ⟨st₀, rc, h4, si9, rts, hid₀, cnt₀, hco, hw, hh, hb₀, hd₀⟩ := mh_INV_m IP
  exact mg_MtN (cX6_moveRow1 hl st₀ rc (by omega)) (fun w₀ Q₀ h₀ => ⟨h₀.1, Or.inl h₀.2⟩)
theorem ti_moveRow2 {D : mg_D} {l : Launch} (hl : l.stackTraces = false) {M : mg_M} {g₀ m₀ t₀ u₀ : Nat} {x₀ y₀ : Int} (I₀ : mh_INV M g₀ m₀ t₀ u₀) (hx : 0 ≤ x₀ ∧ x₀ < gi M t₀ 0) (hy : 0 ≤ y₀ ∧ y₀ < gi M t₀ 0) (hn : x₀ = y₀) : mh_opT D l 80 152 [.inl x₀, .inl y₀] M g₀ m₀ 3 2 := by
  refine mh_opT_of (cX5_moveRow2 hl I₀.1 hx hy hn) (fun P s₀ => ?_) I₀
  have IP := mh_INV_same I₀ s₀
  obtain ⟨v1₀, v2, v3⟩ := mh_same_v I₀ s₀
  have z₀ := I₀.2.2.2.1
  have e1₀ := v2 1 (by omega) (by omega)
  have e2₀ := v2 2 (by omega) (by omega)
  have e3₀ := v2 3 (by omega) (by omega)
  obtain ⟨st₀, rc, h4, si9, rts, hid₀, cnt₀, hco, hw, hh, hb₀, hd₀⟩ := mh_INV_m IP
  exact mg_MtN (cX6_moveRow2 hl st₀ rc (by omega) hn) (fun w₀ Q₀ h₀ => ⟨h₀.1, Or.inl h₀.2⟩)
