/-! setContent, setWidth, setHeight, drag, even, setHeader, setStyle, clear tied₀ -/
theorem mh_kk_q {M P Q₀ : mg_M} {m₀ : Nat} (kk : mm_kk M P m₀) (f₀ : mm_f (fun a₀ k₀ => (m₀ + 2 ≤ a₀ ∧ a₀ ≤ m₀ + 5) ∨ (a₀ = m₀ ∧ k₀ = 3)) P Q₀) : mm_kt M Q₀ m₀ ∧ gi Q₀ m₀ 0 = 0 ∧ mm_f (fun a₀ k₀ => (a₀ = m₀ ∧ (k₀ = 0 ∨ k₀ = 3 ∨ (10 ≤ k₀ ∧ k₀ ≤ 13))) ∨ (m₀ + 2 ≤ a₀ ∧ a₀ ≤ m₀ + 10)) M Q₀ ∧ (∀ a₀, m₀ + 1 ≤ a₀ → a₀ ≤ m₀ + 5 → ∀ k₀, gi P a₀ k₀ = gi M a₀ k₀) ∧ gi P m₀ 3 = gi M m₀ 3 := by
  obtain ⟨h1, h2, h3, h4, h5, h6, h7⟩ := kk
  have e₀ : ∀ a₀ k₀, (a₀ = m₀ ∧ k₀ ≠ 3) ∨ (m₀ + 6 ≤ a₀ ∧ a₀ ≤ m₀ + 10) → gi Q₀ a₀ k₀ = gi P a₀ k₀ := fun a₀ k₀ h₀ => mm_f_gi f₀ a₀ k₀ (by omega)
  refine ⟨⟨⟨(e₀ m₀ 10 (by omega)).trans h3.1, (e₀ m₀ 11 (by omega)).trans h3.2.1, (e₀ m₀ 12 (by omega)).trans h3.2.2.1, (e₀ m₀ 13 (by omega)).trans h3.2.2.2⟩, fun k₀ hk => (e₀ _ k₀ (by omega)).trans (h4 k₀ hk), fun k₀ hk => ⟨(e₀ _ k₀ (by omega)).trans (h5 k₀ hk).1, (e₀ _ k₀ (by omega)).trans (h5 k₀ hk).2⟩, fun k₀ hk => (e₀ _ k₀ (by omega)).trans (h6 k₀ hk), fun k₀ hk => (e₀ _ k₀ (by omega)).trans (h7 k₀ hk)⟩, (e₀ m₀ 0 (by omega)).trans h2, mm_f_tr (mm_f_mono h1 (fun a₀ k₀ w₀ => by omega)) (mm_f_mono f₀ (fun a₀ k₀ w₀ => by omega)), fun a₀ a1₀ a2 k₀ => mm_f_gi h1 a₀ k₀ (by omega), mm_f_gi h1 m₀ 3 (by omega)⟩
theorem mh_id_co {M : mg_M} {g₀ m₀ t₀ u₀ : Nat} {p₀ q₀ r₀ c₀ : Int} (I₀ : mh_INV M g₀ m₀ t₀ u₀) (h₀ : mh_rg (gi M t₀ 0) (gi M t₀ 1) p₀ q₀) (h' : mh_rg (gi M t₀ 0) (gi M t₀ 1) r₀ c₀) : mi M (m₀ + 1) p₀ q₀ = mi M (m₀ + 1) r₀ c₀ ↔ mh_co M t₀ p₀ q₀ = mh_co M t₀ r₀ c₀ := by
  obtain ⟨tl, nb⟩ := I₀.1.2.2.2.1
  rw [I₀.2.2.2.2.1.2.1 p₀ q₀ r₀ c₀ h₀ h']
  obtain ⟨i₀, hi, i1₀, w₀, e₀, ec⟩ := mh_sqc tl nb h₀
  obtain ⟨j₀, hj, j1, w', e', ec'⟩ := mh_sqc tl nb h'
  rw [e₀, e', ec, ec']
  constructor
  · intro x₀
    rw [show i₀ = j₀ by omega]
  · intro x₀
    rw [tl.2.1.2.2.2.2.2.2.2.2 i₀ j₀ i1₀ j1 x₀]
/-- the cells₀ behind₀ remember -/
theorem mh_rm_ct {M N : mg_M} {g₀ t₀ u₀ : Nat} {p₀ q₀ : Int} (K9 : mh_K M g₀ t₀ u₀) (r₀ : mh_rmb M N g₀ t₀ u₀) (h₀ : mh_rg (gi M t₀ 0) (gi M t₀ 1) p₀ q₀) (k₀ : Nat) : gi N (mh_co M t₀ p₀ q₀) k₀ = gi M (mh_co M t₀ p₀ q₀) k₀ := by
  obtain ⟨K1, E1₀, FR, h21⟩ := mh_rmb_K K9 r₀
  have := mh_eq_ct E1₀ K9.2.2.2.1.1 K9.2.2.2.1.2 h₀ k₀
  rw [mh_eq_co E1₀] at this
  exact this
/-- contents by squares -/
theorem mh_V_sq {M : mg_M} {t₀ : Nat} {p₀ q₀ : Int} (V9 : mh_V M t₀) (tl : mh_tl M t₀) (nb : mh_nb M t₀) (h₀ : mh_rg (gi M t₀ 0) (gi M t₀ 1) p₀ q₀) : 0 ≤ gi M (mh_co M t₀ p₀ q₀) 4 ∧ gi M (mh_co M t₀ p₀ q₀) 4 ≤ 999 := by
  obtain ⟨i₀, hi, i1₀, w₀, e₀, ec⟩ := mh_sqc tl nb h₀
  rw [ec]
  exact V9.1 i₀ hi
theorem mh_cellr {M : mg_M} {t₀ : Nat} {p₀ q₀ : Int} (tl : mh_tl M t₀) (nb : mh_nb M t₀) (h₀ : mh_rg (gi M t₀ 0) (gi M t₀ 1) p₀ q₀) : t₀ + 6 ≤ mh_co M t₀ p₀ q₀ ∧ mh_co M t₀ p₀ q₀ < t₀ + 126 := by
  obtain ⟨i₀, hi, i1₀, w₀, e₀, ec⟩ := mh_sqc tl nb h₀
  have := tl.2.1.2.2.2.2.2.2.2.1 i₀ i1₀
  rw [ec]
  omega
theorem mh_wsumL {M : mg_M} {a₀ : Nat} {c₀ n₀ : Int} (hc₀ : 0 ≤ c₀) (hn : 0 ≤ n₀) (h₀ : ∀ k₀ : Nat, (k₀ : Int) < c₀ + n₀ → 10 ≤ gi M a₀ k₀ ∧ gi M a₀ k₀ ≤ 200) : 10 * n₀ ≤ mh_wsum M a₀ c₀ n₀ ∧ mh_wsum M a₀ c₀ n₀ ≤ 200 * n₀ := by
  obtain ⟨k₀, rfl⟩ : ∃ k₀ : Nat, n₀ = k₀ := ⟨n₀.toNat, by omega⟩
  induction k₀ with
  | zero => exact ⟨by show (10 : Int) * 0 ≤ 0; omega, by show (0 : Int) ≤ 200 * 0; omega⟩
  | succ k₀ ih₀ =>
    have g₀ := ih₀ (by omega) (fun j₀ hj => h₀ j₀ (by omega))
    have e₀ := @mh_wsum1 M a₀ c₀ k₀ (by omega) hc₀
    have v₀ := h₀ (c₀ + k₀).toNat (by omega)
    rw [show ((k₀ + 1 : Nat) : Int) = (k₀ : Int) + 1 by omega, e₀]
    omega
theorem mh_evr {w₀ n₀ k₀ : Int} (hn : 0 < n₀) (h1 : 10 * n₀ ≤ w₀) (h2 : w₀ ≤ 200 * n₀) (hk : 0 ≤ k₀) : 10 ≤ w₀ / n₀ + (if k₀ < w₀ % n₀ then 1 else 0) ∧ w₀ / n₀ + (if k₀ < w₀ % n₀ then 1 else 0) ≤ 200 := by
  have a1₀ : 10 ≤ w₀ / n₀ := Int.le_ediv_of_mul_le hn h1
  have e₀ := Int.emod_add_mul_ediv w₀ n₀
  have r0 := Int.emod_nonneg w₀ (show n₀ ≠ 0 by omega)
  by_cases c₀ : w₀ / n₀ ≤ 199
  · split <;> omega
  · have a2 : n₀ * 200 ≤ n₀ * (w₀ / n₀) := Int.mul_le_mul_of_nonneg_left (by omega) (by omega)
    have a3 : w₀ % n₀ = 0 := by
      have : n₀ * 200 = 200 * n₀ := Int.mul_comm _ _
      omega
    have a4 : w₀ / n₀ ≤ 200 := by
      have := Int.ediv_le_ediv hn h2
      rw [Int.mul_ediv_cancel _ (show n₀ ≠ 0 by omega)] at this
      exact this
    rw [a3, if_neg (by omega)]
    omega
theorem ti_setWidth0 {D : mg_D} {l : Launch} (hl : l.stackTraces = false) {M : mg_M} {g₀ m₀ t₀ u₀ : Nat} {c₀ x₀ : Int} (I₀ : mh_INV M g₀ m₀ t₀ u₀) (h₀ : 0 ≤ c₀ ∧ c₀ < gi M t₀ 1) (hx : 10 ≤ x₀ ∧ x₀ ≤ 200) : mh_opN D l 103 195 [.inl c₀, .inl x₀] M g₀ m₀ := by
  obtain ⟨st₀, rc, h4, si9, rts, hid₀, cnt₀, hco, hw, hh, hb₀, hd₀⟩ := mh_INV_m I₀
  have K9 := I₀.1
  have V9 := I₀.2.1
  have zf := I₀.2.2.2.1
  have sq := I₀.2.2.2.2.1
  have pm := I₀.2.2.1.2
  have pl := I₀.1.2.2.1
  have bb := K9.2.2.2.1.1.1.2.2
  obtain ⟨tlM, nbM⟩ := K9.2.2.2.1
  refine ⟨fun z₀ P => z₀ = gi M (t₀ + 2) c₀.toNat ∧ ∃ N1, mh_rmb M N1 g₀ t₀ u₀ ∧ P = si N1 (t₀ + 2) c₀.toNat x₀, mg_MtN (cX5_setWidth0 hl K9 h₀ hx) (fun v₀ P h₀ => ⟨_, h₀.1, rfl, h₀.2⟩), ?_⟩
  rintro z9 P ⟨hz, N1, r9, hP⟩
  obtain ⟨K1, E1₀, FR, h21⟩ := mh_rmb_K K9 r9
  have v0₀ := (E1₀ t₀ (by omega) (by omega)).2.2.2
  have v1₀ := (E1₀ (t₀ + 1) (by omega) (by omega)).2.2.2
  have v2 := (E1₀ (t₀ + 2) (by omega) (by omega)).2.2.2
  obtain ⟨q1₀, q2₀, q3₀, q4₀, q5₀⟩ := sq
  have sf : mm_f (mh_sft t₀) N1 P := by rw [hP]; exact mm_f_si mm_f_rfl (by unfold mh_sft; omega)
  have SAME : ∀ a₀ k₀, a₀ ≠ t₀ + 2 → gi P a₀ k₀ = gi N1 a₀ k₀ := fun a₀ k₀ w₀ => by rw [hP, gi_si, if_neg (fun x₀ => w₀ x₀.1)]
  have h2P : gi P t₀ 2 = gi M t₀ 2 := (SAME t₀ 2 (by omega)).trans (v0₀ 2)
  have h29 : 0 ≤ gi P t₀ 2 ∧ gi P t₀ 2 ≤ 12 := by omega
  obtain ⟨⟨tlP, nbP⟩, ea, ec, ecc, s0₀, s1₀, s3₀⟩ := mh_soft sf K1.2.2.2.1.1 K1.2.2.2.1.2 h29
  rw [mh_eq_co E1₀] at ec
  rw [v0₀] at s0₀ s1₀
  have cm : ∀ a₀ k₀, m₀ ≤ a₀ → a₀ < m₀ + 18 → gi P a₀ k₀ = gi M a₀ k₀ := fun a₀ k₀ h1 h2 => (mm_f_gi sf a₀ k₀ (by unfold mh_sft; omega)).trans (mm_f_gi FR a₀ k₀ (by omega))
  have stP : mm_st P m₀ := mh_st_g st₀ (fun a₀ => (sf.1 a₀).trans (FR.1 a₀)) (fun a₀ => (sf.2.1 a₀).trans (FR.2.1 a₀)) (fun k₀ => (sf.2.2.1 m₀ k₀).trans (FR.2.2.1 m₀ k₀))
  have far₀ : mh_far M P g₀ := mh_far_tr (mh_far_f FR (fun a₀ k₀ w₀ => by omega)) (mh_far_f sf (fun a₀ k₀ w₀ => by unfold mh_sft at w₀; omega))
  have hC : ∀ p₀ q₀, mh_rg (gi M t₀ 0) (gi M t₀ 1) p₀ q₀ → gi P (mh_co M t₀ p₀ q₀) 4 = gi M (mh_co M t₀ p₀ q₀) 4 ∧ gi P (mh_co M t₀ p₀ q₀) 5 = gi M (mh_co M t₀ p₀ q₀) 5 := fun p₀ q₀ a₀ => by
    have cr := mh_cellr tlM nbM a₀
    exact ⟨(SAME _ 4 (by omega)).trans (mh_rm_ct K9 r9 a₀ 4), (SAME _ 5 (by omega)).trans (mh_rm_ct K9 r9 a₀ 5)⟩
  have hO : ∀ k₀, gi P (t₀ + 1) k₀ = gi M (t₀ + 1) k₀ := fun k₀ => (SAME _ k₀ (by omega)).trans (v1₀ k₀)
  have hX : ∀ k₀ : Int, 0 ≤ k₀ → gi P (t₀ + 2) k₀.toNat = if k₀ = c₀ then x₀ else gi M (t₀ + 2) k₀.toNat := fun k₀ k0₀ => by
    rw [hP, gi_si]
    by_cases y₀ : k₀ = c₀
    · rw [if_pos y₀, if_pos ⟨rfl, by rw [y₀]⟩]
    · rw [if_neg y₀, if_neg (by omega)]; exact v2 _
  have VP : mh_V P t₀ := mh_V_of tlP (fun p₀ q₀ a₀ => by rw [s0₀, s1₀] at a₀; rw [ec, (hC p₀ q₀ a₀).1]; exact mh_V_sq V9 tlM nbM a₀) (fun k₀ k0₀ k1₀ => by
    rw [s1₀] at k1₀
    rw [hX k₀ k0₀]; split; omega; exact V9.2.1 _ (by omega)) (fun k₀ k0₀ k1₀ => by
    rw [s0₀] at k1₀
    rw [hO]; exact V9.2.2 _ (by omega))
  refine ⟨far₀, fun o => ?_⟩
  have e0₀ : ∀ k₀, gi (sl P o 0 z9) m₀ k₀ = gi M m₀ k₀ := fun k₀ => cm m₀ k₀ (by omega) (by omega)
  have e1₀ : ∀ k₀, gi (sl P o 0 z9) (m₀ + 1) k₀ = gi M (m₀ + 1) k₀ := fun k₀ => cm (m₀ + 1) k₀ (by omega) (by omega)
  have e2₀ : ∀ k₀, gi (sl P o 0 z9) (m₀ + 2) k₀ = gi M (m₀ + 2) k₀ := fun k₀ => cm (m₀ + 2) k₀ (by omega) (by omega)
  have e3₀ : ∀ k₀, gi (sl P o 0 z9) (m₀ + 3) k₀ = gi M (m₀ + 3) k₀ := fun k₀ => cm (m₀ + 3) k₀ (by omega) (by omega)
  have e4₀ : ∀ k₀, gi (sl P o 0 z9) (m₀ + 4) k₀ = gi M (m₀ + 4) k₀ := fun k₀ => cm (m₀ + 4) k₀ (by omega) (by omega)
  have e5₀ : ∀ k₀, gi (sl P o 0 z9) (m₀ + 5) k₀ = gi M (m₀ + 5) k₀ := fun k₀ => cm (m₀ + 5) k₀ (by omega) (by omega)
  have eF : mi (sl P o 0 z9) (m₀ + 1) = mi M (m₀ + 1) := by funext p₀ q₀; exact e1₀ _
  have R := @cX6_setWidth0 D l hl (sl P o 0 z9) m₀ c₀ x₀ stP (by unfold mm_rc; rw [e0₀, e0₀]; omega) (by rw [e0₀]; omega) hx
  simp only [e4₀] at R
  refine mg_MtN R ?_
  rintro w₀ Q₀ ⟨e₀, P2₀, kk, hQ⟩
  have f2₀ : mm_f (fun a₀ k₀ => (m₀ + 2 ≤ a₀ ∧ a₀ ≤ m₀ + 5) ∨ (a₀ = m₀ ∧ k₀ = 3)) P2₀ Q₀ := by rw [hQ]; exact mm_f_si mm_f_rfl (by omega)
  obtain ⟨kt, k0', fQ, eP, e3m⟩ := mh_kk_q kk f2₀
  have QS₀ : ∀ a₀ k₀, a₀ ≠ m₀ + 4 → gi Q₀ a₀ k₀ = gi P2₀ a₀ k₀ := fun a₀ k₀ w₀ => by rw [hQ, gi_si, if_neg (fun x₀ => w₀ x₀.1)]
  refine ⟨by rw [e₀, hz]; congr 2; exact q4₀ c₀ h₀.1 h₀.2, mh_UPK I₀ r9 sf (by omega) VP fQ (fun a₀ k₀ w₀ => w₀) k0' ?_ kt (fun p₀ q₀ a₀ => ?_) (fun k₀ k0₀ k1₀ => ?_) (fun k₀ k0₀ k1₀ => ?_)⟩
  · rw [QS₀ m₀ 3 (by omega), e3m, h2P, ← zf.2.2]; exact e0₀ 3
  · have y' : gi M (m₀ + 2) (mi M (m₀ + 1) p₀ q₀).toNat = gi M (mh_co M t₀ p₀ q₀) 4 ∧ gi M (m₀ + 3) (mi M (m₀ + 1) p₀ q₀).toNat = gi M (mh_co M t₀ p₀ q₀) 5 := q3₀ p₀ q₀ a₀
    rw [QS₀ _ _ (by omega), QS₀ _ _ (by omega), eP _ (by omega) (by omega), eP _ (by omega) (by omega), (hC p₀ q₀ a₀).1, (hC p₀ q₀ a₀).2, e2₀, e3₀]
    exact y'
  · rw [hX k₀ k0₀, hQ, gi_si]
    by_cases y₀ : k₀ = c₀
    · rw [if_pos y₀, if_pos ⟨rfl, by rw [y₀]⟩]
    · rw [if_neg y₀, if_neg (by omega), eP _ (by omega) (by omega), e4₀]; exact q4₀ k₀ k0₀ k1₀
  · rw [QS₀ _ _ (by omega), eP _ (by omega) (by omega), e5₀, hO]; exact q5₀ k₀ k0₀ k1₀
theorem ti_setHeight0 {D : mg_D} {l : Launch} (hl : l.stackTraces = false) {M : mg_M} {g₀ m₀ t₀ u₀ : Nat} {c₀ x₀ : Int} (I₀ : mh_INV M g₀ m₀ t₀ u₀) (h₀ : 0 ≤ c₀ ∧ c₀ < gi M t₀ 0) (hx : 5 ≤ x₀ ∧ x₀ ≤ 100) : mh_opN D l 104 196 [.inl c₀, .inl x₀] M g₀ m₀ := by
  obtain ⟨st₀, rc, h4, si9, rts, hid₀, cnt₀, hco, hw, hh, hb₀, hd₀⟩ := mh_INV_m I₀
  have K9 := I₀.1
  have V9 := I₀.2.1
  have zf := I₀.2.2.2.1
  have sq := I₀.2.2.2.2.1
  have pm := I₀.2.2.1.2
  have pl := I₀.1.2.2.1
  have bb := K9.2.2.2.1.1.1.2.2
  obtain ⟨tlM, nbM⟩ := K9.2.2.2.1
  refine ⟨fun z₀ P => z₀ = gi M (t₀ + 1) c₀.toNat ∧ ∃ N1, mh_rmb M N1 g₀ t₀ u₀ ∧ P = si N1 (t₀ + 1) c₀.toNat x₀, mg_MtN (cX5_setHeight0 hl K9 h₀ hx) (fun v₀ P h₀ => ⟨_, h₀.1, rfl, h₀.2⟩), ?_⟩
  rintro z9 P ⟨hz, N1, r9, hP⟩
  obtain ⟨K1, E1₀, FR, h21⟩ := mh_rmb_K K9 r9
  have v0₀ := (E1₀ t₀ (by omega) (by omega)).2.2.2
  have v1₀ := (E1₀ (t₀ + 1) (by omega) (by omega)).2.2.2
  have v2 := (E1₀ (t₀ + 2) (by omega) (by omega)).2.2.2
  obtain ⟨q1₀, q2₀, q3₀, q4₀, q5₀⟩ := sq
  have sf : mm_f (mh_sft t₀) N1 P := by rw [hP]; exact mm_f_si mm_f_rfl (by unfold mh_sft; omega)
  have SAME : ∀ a₀ k₀, a₀ ≠ t₀ + 1 → gi P a₀ k₀ = gi N1 a₀ k₀ := fun a₀ k₀ w₀ => by rw [hP, gi_si, if_neg (fun x₀ => w₀ x₀.1)]
  have h2P : gi P t₀ 2 = gi M t₀ 2 := (SAME t₀ 2 (by omega)).trans (v0₀ 2)
  have h29 : 0 ≤ gi P t₀ 2 ∧ gi P t₀ 2 ≤ 12 := by omega
  obtain ⟨⟨tlP, nbP⟩, ea, ec, ecc, s0₀, s1₀, s3₀⟩ := mh_soft sf K1.2.2.2.1.1 K1.2.2.2.1.2 h29
  rw [mh_eq_co E1₀] at ec
  rw [v0₀] at s0₀ s1₀
  have cm : ∀ a₀ k₀, m₀ ≤ a₀ → a₀ < m₀ + 18 → gi P a₀ k₀ = gi M a₀ k₀ := fun a₀ k₀ h1 h2 => (mm_f_gi sf a₀ k₀ (by unfold mh_sft; omega)).trans (mm_f_gi FR a₀ k₀ (by omega))
  have stP : mm_st P m₀ := mh_st_g st₀ (fun a₀ => (sf.1 a₀).trans (FR.1 a₀)) (fun a₀ => (sf.2.1 a₀).trans (FR.2.1 a₀)) (fun k₀ => (sf.2.2.1 m₀ k₀).trans (FR.2.2.1 m₀ k₀))
  have far₀ : mh_far M P g₀ := mh_far_tr (mh_far_f FR (fun a₀ k₀ w₀ => by omega)) (mh_far_f sf (fun a₀ k₀ w₀ => by unfold mh_sft at w₀; omega))
  have hC : ∀ p₀ q₀, mh_rg (gi M t₀ 0) (gi M t₀ 1) p₀ q₀ → gi P (mh_co M t₀ p₀ q₀) 4 = gi M (mh_co M t₀ p₀ q₀) 4 ∧ gi P (mh_co M t₀ p₀ q₀) 5 = gi M (mh_co M t₀ p₀ q₀) 5 := fun p₀ q₀ a₀ => by
    have cr := mh_cellr tlM nbM a₀
    exact ⟨(SAME _ 4 (by omega)).trans (mh_rm_ct K9 r9 a₀ 4), (SAME _ 5 (by omega)).trans (mh_rm_ct K9 r9 a₀ 5)⟩
  have hO : ∀ k₀, gi P (t₀ + 2) k₀ = gi M (t₀ + 2) k₀ := fun k₀ => (SAME _ k₀ (by omega)).trans (v2 k₀)
  have hX : ∀ k₀ : Int, 0 ≤ k₀ → gi P (t₀ + 1) k₀.toNat = if k₀ = c₀ then x₀ else gi M (t₀ + 1) k₀.toNat := fun k₀ k0₀ => by
    rw [hP, gi_si]
    by_cases y₀ : k₀ = c₀
    · rw [if_pos y₀, if_pos ⟨rfl, by rw [y₀]⟩]
    · rw [if_neg y₀, if_neg (by omega)]; exact v1₀ _
  have VP : mh_V P t₀ := mh_V_of tlP (fun p₀ q₀ a₀ => by rw [s0₀, s1₀] at a₀; rw [ec, (hC p₀ q₀ a₀).1]; exact mh_V_sq V9 tlM nbM a₀) (fun k₀ k0₀ k1₀ => by
    rw [s1₀] at k1₀
    rw [hO]; exact V9.2.1 _ (by omega)) (fun k₀ k0₀ k1₀ => by
    rw [s0₀] at k1₀
    rw [hX k₀ k0₀]; split; omega; exact V9.2.2 _ (by omega))
  refine ⟨far₀, fun o => ?_⟩
  have e0₀ : ∀ k₀, gi (sl P o 0 z9) m₀ k₀ = gi M m₀ k₀ := fun k₀ => cm m₀ k₀ (by omega) (by omega)
  have e1₀ : ∀ k₀, gi (sl P o 0 z9) (m₀ + 1) k₀ = gi M (m₀ + 1) k₀ := fun k₀ => cm (m₀ + 1) k₀ (by omega) (by omega)
  have e2₀ : ∀ k₀, gi (sl P o 0 z9) (m₀ + 2) k₀ = gi M (m₀ + 2) k₀ := fun k₀ => cm (m₀ + 2) k₀ (by omega) (by omega)
  have e3₀ : ∀ k₀, gi (sl P o 0 z9) (m₀ + 3) k₀ = gi M (m₀ + 3) k₀ := fun k₀ => cm (m₀ + 3) k₀ (by omega) (by omega)
  have e4₀ : ∀ k₀, gi (sl P o 0 z9) (m₀ + 4) k₀ = gi M (m₀ + 4) k₀ := fun k₀ => cm (m₀ + 4) k₀ (by omega) (by omega)
  have e5₀ : ∀ k₀, gi (sl P o 0 z9) (m₀ + 5) k₀ = gi M (m₀ + 5) k₀ := fun k₀ => cm (m₀ + 5) k₀ (by omega) (by omega)
  have eF : mi (sl P o 0 z9) (m₀ + 1) = mi M (m₀ + 1) := by funext p₀ q₀; exact e1₀ _
  have R := @cX6_setHeight0 D l hl (sl P o 0 z9) m₀ c₀ x₀ stP (by unfold mm_rc; rw [e0₀, e0₀]; omega) (by rw [e0₀]; omega) hx
  simp only [e5₀] at R
  refine mg_MtN R ?_
  rintro w₀ Q₀ ⟨e₀, P2₀, kk, hQ⟩
  have f2₀ : mm_f (fun a₀ k₀ => (m₀ + 2 ≤ a₀ ∧ a₀ ≤ m₀ + 5) ∨ (a₀ = m₀ ∧ k₀ = 3)) P2₀ Q₀ := by rw [hQ]; exact mm_f_si mm_f_rfl (by omega)
  obtain ⟨kt, k0', fQ, eP, e3m⟩ := mh_kk_q kk f2₀
  have QS₀ : ∀ a₀ k₀, a₀ ≠ m₀ + 5 → gi Q₀ a₀ k₀ = gi P2₀ a₀ k₀ := fun a₀ k₀ w₀ => by rw [hQ, gi_si, if_neg (fun x₀ => w₀ x₀.1)]
  refine ⟨by rw [e₀, hz]; congr 2; exact q5₀ c₀ h₀.1 h₀.2, mh_UPK I₀ r9 sf (by omega) VP fQ (fun a₀ k₀ w₀ => w₀) k0' ?_ kt (fun p₀ q₀ a₀ => ?_) (fun k₀ k0₀ k1₀ => ?_) (fun k₀ k0₀ k1₀ => ?_)⟩
  · rw [QS₀ m₀ 3 (by omega), e3m, h2P, ← zf.2.2]; exact e0₀ 3
  · have y' : gi M (m₀ + 2) (mi M (m₀ + 1) p₀ q₀).toNat = gi M (mh_co M t₀ p₀ q₀) 4 ∧ gi M (m₀ + 3) (mi M (m₀ + 1) p₀ q₀).toNat = gi M (mh_co M t₀ p₀ q₀) 5 := q3₀ p₀ q₀ a₀
    rw [QS₀ _ _ (by omega), QS₀ _ _ (by omega), eP _ (by omega) (by omega), eP _ (by omega) (by omega), (hC p₀ q₀ a₀).1, (hC p₀ q₀ a₀).2, e2₀, e3₀]
    exact y'
  · rw [QS₀ _ _ (by omega), eP _ (by omega) (by omega), e4₀, hO]; exact q4₀ k₀ k0₀ k1₀
  · rw [hX k₀ k0₀, hQ, gi_si]
    by_cases y₀ : k₀ = c₀
    · rw [if_pos y₀, if_pos ⟨rfl, by rw [y₀]⟩]
    · rw [if_neg y₀, if_neg (by omega), eP _ (by omega) (by omega), e5₀]; exact q5₀ k₀ k0₀ k1₀
theorem ti_drag0 {D : mg_D} {l : Launch} (hl : l.stackTraces = false) {M : mg_M} {g₀ m₀ t₀ u₀ : Nat} {c₀ x₀ : Int} (I₀ : mh_INV M g₀ m₀ t₀ u₀) (h₀ : 0 ≤ c₀ ∧ c₀ + 1 < gi M t₀ 1) (h2 : (10 ≤ gi M (t₀ + 2) c₀.toNat + x₀ ∧ gi M (t₀ + 2) c₀.toNat + x₀ ≤ 200) ∧ (10 ≤ gi M (t₀ + 2) (c₀ + 1).toNat - x₀ ∧ gi M (t₀ + 2) (c₀ + 1).toNat - x₀ ≤ 200)) : mh_opN D l 105 197 [.inl c₀, .inl x₀] M g₀ m₀ := by
  obtain ⟨st₀, rc, h4, si9, rts, hid₀, cnt₀, hco, hw, hh, hb₀, hd₀⟩ := mh_INV_m I₀
  have K9 := I₀.1
  have V9 := I₀.2.1
  have zf := I₀.2.2.2.1
  have sq := I₀.2.2.2.2.1
  have pm := I₀.2.2.1.2
  have pl := I₀.1.2.2.1
  have bb := K9.2.2.2.1.1.1.2.2
  obtain ⟨tlM, nbM⟩ := K9.2.2.2.1
  refine ⟨fun z₀ P => z₀ = gi M (t₀ + 2) c₀.toNat + x₀ ∧ ∃ N1, mh_rmb M N1 g₀ t₀ u₀ ∧ P = si (si N1 (t₀ + 2) c₀.toNat (gi M (t₀ + 2) c₀.toNat + x₀)) (t₀ + 2) (c₀ + 1).toNat (gi M (t₀ + 2) (c₀ + 1).toNat - x₀), mg_MtN (cX5_drag0 hl K9 V9 h₀ h2) (fun v₀ P h₀ => ⟨_, h₀.1, rfl, h₀.2⟩), ?_⟩
  rintro z9 P ⟨hz, N1, r9, hP⟩
  obtain ⟨K1, E1₀, FR, h21⟩ := mh_rmb_K K9 r9
  have v0₀ := (E1₀ t₀ (by omega) (by omega)).2.2.2
  have v1₀ := (E1₀ (t₀ + 1) (by omega) (by omega)).2.2.2
  have v2 := (E1₀ (t₀ + 2) (by omega) (by omega)).2.2.2
  obtain ⟨q1₀, q2₀, q3₀, q4₀, q5₀⟩ := sq
  have sf : mm_f (mh_sft t₀) N1 P := by rw [hP]; exact mm_f_si (mm_f_si mm_f_rfl (by unfold mh_sft; omega)) (by unfold mh_sft; omega)
  have SAME : ∀ a₀ k₀, a₀ ≠ t₀ + 2 → gi P a₀ k₀ = gi N1 a₀ k₀ := fun a₀ k₀ w₀ => by rw [hP, gi_si, if_neg (fun x₀ => w₀ x₀.1), gi_si, if_neg (fun x₀ => w₀ x₀.1)]
  have h2P : gi P t₀ 2 = gi M t₀ 2 := (SAME t₀ 2 (by omega)).trans (v0₀ 2)
  have h29 : 0 ≤ gi P t₀ 2 ∧ gi P t₀ 2 ≤ 12 := by omega
  obtain ⟨⟨tlP, nbP⟩, ea, ec, ecc, s0₀, s1₀, s3₀⟩ := mh_soft sf K1.2.2.2.1.1 K1.2.2.2.1.2 h29
  rw [mh_eq_co E1₀] at ec
  rw [v0₀] at s0₀ s1₀
  have cm : ∀ a₀ k₀, m₀ ≤ a₀ → a₀ < m₀ + 18 → gi P a₀ k₀ = gi M a₀ k₀ := fun a₀ k₀ h1 h2 => (mm_f_gi sf a₀ k₀ (by unfold mh_sft; omega)).trans (mm_f_gi FR a₀ k₀ (by omega))
  have stP : mm_st P m₀ := mh_st_g st₀ (fun a₀ => (sf.1 a₀).trans (FR.1 a₀)) (fun a₀ => (sf.2.1 a₀).trans (FR.2.1 a₀)) (fun k₀ => (sf.2.2.1 m₀ k₀).trans (FR.2.2.1 m₀ k₀))
  have far₀ : mh_far M P g₀ := mh_far_tr (mh_far_f FR (fun a₀ k₀ w₀ => by omega)) (mh_far_f sf (fun a₀ k₀ w₀ => by unfold mh_sft at w₀; omega))
  have hC : ∀ p₀ q₀, mh_rg (gi M t₀ 0) (gi M t₀ 1) p₀ q₀ → gi P (mh_co M t₀ p₀ q₀) 4 = gi M (mh_co M t₀ p₀ q₀) 4 ∧ gi P (mh_co M t₀ p₀ q₀) 5 = gi M (mh_co M t₀ p₀ q₀) 5 := fun p₀ q₀ a₀ => by
    have cr := mh_cellr tlM nbM a₀
    exact ⟨(SAME _ 4 (by omega)).trans (mh_rm_ct K9 r9 a₀ 4), (SAME _ 5 (by omega)).trans (mh_rm_ct K9 r9 a₀ 5)⟩
  have hO : ∀ k₀, gi P (t₀ + 1) k₀ = gi M (t₀ + 1) k₀ := fun k₀ => (SAME _ k₀ (by omega)).trans (v1₀ k₀)
  have hX : ∀ k₀ : Int, 0 ≤ k₀ → gi P (t₀ + 2) k₀.toNat = if k₀ = c₀ + 1 then gi M (t₀ + 2) (c₀ + 1).toNat - x₀ else if k₀ = c₀ then gi M (t₀ + 2) c₀.toNat + x₀ else gi M (t₀ + 2) k₀.toNat := fun k₀ k0₀ => by
    rw [hP, gi_si]
    by_cases y₀ : k₀ = c₀ + 1
    · rw [if_pos y₀, if_pos ⟨rfl, by rw [y₀]⟩]
    · rw [if_neg y₀, if_neg (by omega), gi_si]
      by_cases y2 : k₀ = c₀
      · rw [if_pos y2, if_pos ⟨rfl, by rw [y2]⟩]
      · rw [if_neg y2, if_neg (by omega)]; exact v2 _
  have VP : mh_V P t₀ := mh_V_of tlP (fun p₀ q₀ a₀ => by rw [s0₀, s1₀] at a₀; rw [ec, (hC p₀ q₀ a₀).1]; exact mh_V_sq V9 tlM nbM a₀) (fun k₀ k0₀ k1₀ => by
    rw [s1₀] at k1₀
    rw [hX k₀ k0₀]
    split
    · omega
    · split
      · omega
      · exact V9.2.1 _ (by omega)) (fun k₀ k0₀ k1₀ => by
    rw [s0₀] at k1₀
    rw [hO]; exact V9.2.2 _ (by omega))
  have w4₀ : ∀ k₀, 0 ≤ k₀ → k₀ < gi M t₀ 1 → gi M (m₀ + 4) k₀.toNat = gi M (t₀ + 2) k₀.toNat := q4₀
  refine ⟨far₀, fun o => ?_⟩
  have e0₀ : ∀ k₀, gi (sl P o 0 z9) m₀ k₀ = gi M m₀ k₀ := fun k₀ => cm m₀ k₀ (by omega) (by omega)
  have e1₀ : ∀ k₀, gi (sl P o 0 z9) (m₀ + 1) k₀ = gi M (m₀ + 1) k₀ := fun k₀ => cm (m₀ + 1) k₀ (by omega) (by omega)
  have e2₀ : ∀ k₀, gi (sl P o 0 z9) (m₀ + 2) k₀ = gi M (m₀ + 2) k₀ := fun k₀ => cm (m₀ + 2) k₀ (by omega) (by omega)
  have e3₀ : ∀ k₀, gi (sl P o 0 z9) (m₀ + 3) k₀ = gi M (m₀ + 3) k₀ := fun k₀ => cm (m₀ + 3) k₀ (by omega) (by omega)
  have e4₀ : ∀ k₀, gi (sl P o 0 z9) (m₀ + 4) k₀ = gi M (m₀ + 4) k₀ := fun k₀ => cm (m₀ + 4) k₀ (by omega) (by omega)
  have e5₀ : ∀ k₀, gi (sl P o 0 z9) (m₀ + 5) k₀ = gi M (m₀ + 5) k₀ := fun k₀ => cm (m₀ + 5) k₀ (by omega) (by omega)
  have eF : mi (sl P o 0 z9) (m₀ + 1) = mi M (m₀ + 1) := by funext p₀ q₀; exact e1₀ _
  have R := @cX6_drag0 D l hl (sl P o 0 z9) m₀ c₀ x₀ stP (by unfold mm_rc; rw [e0₀, e0₀]; omega) (by rw [e0₀]; omega) (fun k₀ hk => by rw [e0₀] at hk; rw [e4₀]; exact hw k₀ hk) (by rw [e4₀, e4₀, w4₀ c₀ h₀.1 (by omega), w4₀ (c₀ + 1) (by omega) (by omega)]; omega)
  simp only [e4₀] at R
  refine mg_MtN R ?_
  rintro w₀ Q₀ ⟨e₀, P2₀, kk, hQ⟩
  have f2₀ : mm_f (fun a₀ k₀ => (m₀ + 2 ≤ a₀ ∧ a₀ ≤ m₀ + 5) ∨ (a₀ = m₀ ∧ k₀ = 3)) P2₀ Q₀ := by rw [hQ]; exact mm_f_si (mm_f_si mm_f_rfl (by omega)) (by omega)
  obtain ⟨kt, k0', fQ, eP, e3m⟩ := mh_kk_q kk f2₀
  have QS₀ : ∀ a₀ k₀, a₀ ≠ m₀ + 4 → gi Q₀ a₀ k₀ = gi P2₀ a₀ k₀ := fun a₀ k₀ w₀ => by rw [hQ, gi_si, if_neg (fun x₀ => w₀ x₀.1), gi_si, if_neg (fun x₀ => w₀ x₀.1)]
  refine ⟨by rw [e₀, hz, w4₀ c₀ h₀.1 (by omega)], mh_UPK I₀ r9 sf (by omega) VP fQ (fun a₀ k₀ w₀ => w₀) k0' ?_ kt (fun p₀ q₀ a₀ => ?_) (fun k₀ k0₀ k1₀ => ?_) (fun k₀ k0₀ k1₀ => ?_)⟩
  · rw [QS₀ m₀ 3 (by omega), e3m, h2P, ← zf.2.2]; exact e0₀ 3
  · have y' : gi M (m₀ + 2) (mi M (m₀ + 1) p₀ q₀).toNat = gi M (mh_co M t₀ p₀ q₀) 4 ∧ gi M (m₀ + 3) (mi M (m₀ + 1) p₀ q₀).toNat = gi M (mh_co M t₀ p₀ q₀) 5 := q3₀ p₀ q₀ a₀
    rw [QS₀ _ _ (by omega), QS₀ _ _ (by omega), eP _ (by omega) (by omega), eP _ (by omega) (by omega), (hC p₀ q₀ a₀).1, (hC p₀ q₀ a₀).2, e2₀, e3₀]
    exact y'
  · rw [hX k₀ k0₀, hQ, gi_si]
    by_cases y₀ : k₀ = c₀ + 1
    · rw [if_pos y₀, if_pos ⟨rfl, by rw [y₀]⟩, w4₀ (c₀ + 1) (by omega) (by omega)]
    · rw [if_neg y₀, if_neg (by omega), gi_si]
      by_cases y2 : k₀ = c₀
      · rw [if_pos y2, if_pos ⟨rfl, by rw [y2]⟩, w4₀ c₀ h₀.1 (by omega)]
      · rw [if_neg y2, if_neg (by omega), eP _ (by omega) (by omega), e4₀]; exact q4₀ k₀ k0₀ k1₀
  · rw [QS₀ _ _ (by omega), eP _ (by omega) (by omega), e5₀, hO]; exact q5₀ k₀ k0₀ k1₀
theorem ti_even0 {D : mg_D} {l : Launch} (hl : l.stackTraces = false) {M : mg_M} {g₀ m₀ t₀ u₀ : Nat} {c₀ x₀ : Int} (I₀ : mh_INV M g₀ m₀ t₀ u₀) (h₀ : 0 ≤ c₀ ∧ c₀ < x₀ ∧ x₀ < gi M t₀ 1) : mh_opN D l 106 198 [.inl c₀, .inl x₀] M g₀ m₀ := by
  obtain ⟨st₀, rc, h4, si9, rts, hid₀, cnt₀, hco, hw, hh, hb₀, hd₀⟩ := mh_INV_m I₀
  have K9 := I₀.1
  have V9 := I₀.2.1
  have zf := I₀.2.2.2.1
  have sq := I₀.2.2.2.2.1
  have pm := I₀.2.2.1.2
  have pl := I₀.1.2.2.1
  have bb := K9.2.2.2.1.1.1.2.2
  obtain ⟨tlM, nbM⟩ := K9.2.2.2.1
  refine ⟨fun z₀ P => z₀ = gi P (t₀ + 2) c₀.toNat ∧ ∃ N1, mh_rmb M N1 g₀ t₀ u₀ ∧ mm_f (fun a₀ _ => a₀ = t₀ + 2) N1 P ∧ ∀ k₀ : Nat, gi P (t₀ + 2) k₀ = if c₀ ≤ k₀ ∧ (k₀ : Int) ≤ x₀ then mh_wsum M (t₀ + 2) c₀ (x₀ - c₀ + 1) / (x₀ - c₀ + 1) + (if k₀ - c₀ < mh_wsum M (t₀ + 2) c₀ (x₀ - c₀ + 1) % (x₀ - c₀ + 1) then 1 else 0) else gi M (t₀ + 2) k₀, mg_MtN (cX5_even0 hl K9 V9 h₀) (fun v₀ P h₀ => ⟨_, h₀.1, rfl, h₀.2⟩), ?_⟩
  rintro z9 P ⟨hz, N1, r9, fP, hX⟩
  obtain ⟨K1, E1₀, FR, h21⟩ := mh_rmb_K K9 r9
  have v0₀ := (E1₀ t₀ (by omega) (by omega)).2.2.2
  have v1₀ := (E1₀ (t₀ + 1) (by omega) (by omega)).2.2.2
  have v2 := (E1₀ (t₀ + 2) (by omega) (by omega)).2.2.2
  obtain ⟨q1₀, q2₀, q3₀, q4₀, q5₀⟩ := sq
  have sf : mm_f (mh_sft t₀) N1 P := mm_f_mono fP (fun a₀ k₀ w₀ => by unfold mh_sft; omega)
  have SAME : ∀ a₀ k₀, a₀ ≠ t₀ + 2 → gi P a₀ k₀ = gi N1 a₀ k₀ := fun a₀ k₀ w₀ => mm_f_gi fP a₀ k₀ w₀
  have h2P : gi P t₀ 2 = gi M t₀ 2 := (SAME t₀ 2 (by omega)).trans (v0₀ 2)
  have h29 : 0 ≤ gi P t₀ 2 ∧ gi P t₀ 2 ≤ 12 := by omega
  obtain ⟨⟨tlP, nbP⟩, ea, ec, ecc, s0₀, s1₀, s3₀⟩ := mh_soft sf K1.2.2.2.1.1 K1.2.2.2.1.2 h29
  rw [mh_eq_co E1₀] at ec
  rw [v0₀] at s0₀ s1₀
  have cm : ∀ a₀ k₀, m₀ ≤ a₀ → a₀ < m₀ + 18 → gi P a₀ k₀ = gi M a₀ k₀ := fun a₀ k₀ h1 h2 => (mm_f_gi sf a₀ k₀ (by unfold mh_sft; omega)).trans (mm_f_gi FR a₀ k₀ (by omega))
  have stP : mm_st P m₀ := mh_st_g st₀ (fun a₀ => (sf.1 a₀).trans (FR.1 a₀)) (fun a₀ => (sf.2.1 a₀).trans (FR.2.1 a₀)) (fun k₀ => (sf.2.2.1 m₀ k₀).trans (FR.2.2.1 m₀ k₀))
  have far₀ : mh_far M P g₀ := mh_far_tr (mh_far_f FR (fun a₀ k₀ w₀ => by omega)) (mh_far_f sf (fun a₀ k₀ w₀ => by unfold mh_sft at w₀; omega))
  have hC : ∀ p₀ q₀, mh_rg (gi M t₀ 0) (gi M t₀ 1) p₀ q₀ → gi P (mh_co M t₀ p₀ q₀) 4 = gi M (mh_co M t₀ p₀ q₀) 4 ∧ gi P (mh_co M t₀ p₀ q₀) 5 = gi M (mh_co M t₀ p₀ q₀) 5 := fun p₀ q₀ a₀ => by
    have cr := mh_cellr tlM nbM a₀
    exact ⟨(SAME _ 4 (by omega)).trans (mh_rm_ct K9 r9 a₀ 4), (SAME _ 5 (by omega)).trans (mh_rm_ct K9 r9 a₀ 5)⟩
  have hO : ∀ k₀, gi P (t₀ + 1) k₀ = gi M (t₀ + 1) k₀ := fun k₀ => (SAME _ k₀ (by omega)).trans (v1₀ k₀)
  have w4₀ : ∀ k₀, 0 ≤ k₀ → k₀ < gi M t₀ 1 → gi M (m₀ + 4) k₀.toNat = gi M (t₀ + 2) k₀.toNat := q4₀
  have ews : mh_wsum M (m₀ + 4) c₀ (x₀ - c₀ + 1) = mh_wsum M (t₀ + 2) c₀ (x₀ - c₀ + 1) := by
    unfold mh_wsum
    refine mh_sum_cg _ (fun k₀ hk => ?_)
    have := w4₀ (c₀.toNat + k₀ : Nat) (by omega) (by omega)
    rw [Int.toNat_natCast] at this
    exact this
  have lb : 10 * (x₀ - c₀ + 1) ≤ mh_wsum M (t₀ + 2) c₀ (x₀ - c₀ + 1) ∧ mh_wsum M (t₀ + 2) c₀ (x₀ - c₀ + 1) ≤ 200 * (x₀ - c₀ + 1) := mh_wsumL h₀.1 (by omega) (fun k₀ hk => V9.2.1 k₀ (by omega))
  have rng : ∀ k₀ : Nat, c₀ ≤ (k₀ : Int) → (k₀ : Int) ≤ x₀ → 10 ≤ mh_wsum M (t₀ + 2) c₀ (x₀ - c₀ + 1) / (x₀ - c₀ + 1) + (if k₀ - c₀ < mh_wsum M (t₀ + 2) c₀ (x₀ - c₀ + 1) % (x₀ - c₀ + 1) then 1 else 0) ∧ mh_wsum M (t₀ + 2) c₀ (x₀ - c₀ + 1) / (x₀ - c₀ + 1) + (if k₀ - c₀ < mh_wsum M (t₀ + 2) c₀ (x₀ - c₀ + 1) % (x₀ - c₀ + 1) then 1 else 0) ≤ 200 := fun k₀ k0₀ k1₀ => mh_evr (by omega) lb.1 lb.2 (by omega)
  have VP : mh_V P t₀ := mh_V_of tlP (fun p₀ q₀ a₀ => by rw [s0₀, s1₀] at a₀; rw [ec, (hC p₀ q₀ a₀).1]; exact mh_V_sq V9 tlM nbM a₀) (fun k₀ k0₀ k1₀ => by
    rw [s1₀] at k1₀
    rw [hX]
    split
    · rename_i y₀
      exact rng _ y₀.1 y₀.2
    · exact V9.2.1 _ (by omega)) (fun k₀ k0₀ k1₀ => by
    rw [s0₀] at k1₀
    rw [hO]; exact V9.2.2 _ (by omega))
  refine ⟨far₀, fun o => ?_⟩
  have e0₀ : ∀ k₀, gi (sl P o 0 z9) m₀ k₀ = gi M m₀ k₀ := fun k₀ => cm m₀ k₀ (by omega) (by omega)
  have e1₀ : ∀ k₀, gi (sl P o 0 z9) (m₀ + 1) k₀ = gi M (m₀ + 1) k₀ := fun k₀ => cm (m₀ + 1) k₀ (by omega) (by omega)
  have e2₀ : ∀ k₀, gi (sl P o 0 z9) (m₀ + 2) k₀ = gi M (m₀ + 2) k₀ := fun k₀ => cm (m₀ + 2) k₀ (by omega) (by omega)
  have e3₀ : ∀ k₀, gi (sl P o 0 z9) (m₀ + 3) k₀ = gi M (m₀ + 3) k₀ := fun k₀ => cm (m₀ + 3) k₀ (by omega) (by omega)
  have e4₀ : ∀ k₀, gi (sl P o 0 z9) (m₀ + 4) k₀ = gi M (m₀ + 4) k₀ := fun k₀ => cm (m₀ + 4) k₀ (by omega) (by omega)
  have e5₀ : ∀ k₀, gi (sl P o 0 z9) (m₀ + 5) k₀ = gi M (m₀ + 5) k₀ := fun k₀ => cm (m₀ + 5) k₀ (by omega) (by omega)
  have eF : mi (sl P o 0 z9) (m₀ + 1) = mi M (m₀ + 1) := by funext p₀ q₀; exact e1₀ _
  have R := @cX6_even0 D l hl (sl P o 0 z9) m₀ c₀ x₀ stP (by unfold mm_rc; rw [e0₀, e0₀]; omega) (by rw [e0₀]; omega) (fun k₀ hk => by rw [e0₀] at hk; rw [e4₀]; exact hw k₀ hk)
  have ew2 : mh_wsum (sl P o 0 z9) (m₀ + 4) c₀ (x₀ - c₀ + 1) = mh_wsum M (t₀ + 2) c₀ (x₀ - c₀ + 1) := by
    rw [← ews]
    unfold mh_wsum
    exact mh_sum_cg _ (fun k₀ _ => e4₀ _)
  rw [ew2] at R
  simp only [e4₀] at R
  refine mg_MtN R ?_
  rintro w₀ Q₀ ⟨e₀, P2₀, kk, fQ2, hQ⟩
  have f2₀ : mm_f (fun a₀ k₀ => (m₀ + 2 ≤ a₀ ∧ a₀ ≤ m₀ + 5) ∨ (a₀ = m₀ ∧ k₀ = 3)) P2₀ Q₀ := mm_f_mono fQ2 (fun a₀ k₀ w₀ => by omega)
  obtain ⟨kt, k0', fQ, eP, e3m⟩ := mh_kk_q kk f2₀
  have QS₀ : ∀ a₀ k₀, a₀ ≠ m₀ + 4 → gi Q₀ a₀ k₀ = gi P2₀ a₀ k₀ := fun a₀ k₀ w₀ => mm_f_gi fQ2 a₀ k₀ w₀
  have eqv : ∀ k₀, 0 ≤ k₀ → k₀ < gi M t₀ 1 → gi Q₀ (m₀ + 4) k₀.toNat = gi P (t₀ + 2) k₀.toNat := fun k₀ k0₀ k1₀ => by
    rw [hQ, hX]
    split
    · rfl
    · exact w4₀ k₀ k0₀ k1₀
  refine ⟨by rw [e₀, hz, eqv c₀ h₀.1 (by omega)], mh_UPK I₀ r9 sf (by omega) VP fQ (fun a₀ k₀ w₀ => w₀) k0' ?_ kt (fun p₀ q₀ a₀ => ?_) eqv (fun k₀ k0₀ k1₀ => ?_)⟩
  · rw [QS₀ m₀ 3 (by omega), e3m, h2P, ← zf.2.2]; exact e0₀ 3
  · have y' : gi M (m₀ + 2) (mi M (m₀ + 1) p₀ q₀).toNat = gi M (mh_co M t₀ p₀ q₀) 4 ∧ gi M (m₀ + 3) (mi M (m₀ + 1) p₀ q₀).toNat = gi M (mh_co M t₀ p₀ q₀) 5 := q3₀ p₀ q₀ a₀
    rw [QS₀ _ _ (by omega), QS₀ _ _ (by omega), eP _ (by omega) (by omega), eP _ (by omega) (by omega), (hC p₀ q₀ a₀).1, (hC p₀ q₀ a₀).2, e2₀, e3₀]
    exact y'
  · rw [QS₀ _ _ (by omega), eP _ (by omega) (by omega), e5₀, hO]; exact q5₀ k₀ k0₀ k1₀
