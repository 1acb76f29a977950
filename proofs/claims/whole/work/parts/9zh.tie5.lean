/-! moveRow, sort tied₀ -/
theorem mh_td_m {M : mg_M} {g₀ m₀ t₀ u₀ : Nat} {lo hi : Int} (I₀ : mh_INV M g₀ m₀ t₀ u₀) (h₀ : 0 ≤ lo ∧ lo ≤ hi ∧ hi < gi M t₀ 0) : (∃ i₀ : Nat, (i₀ : Int) < gi M (t₀ + 3) 0 ∧ 1 < gi M (gr M (t₀ + 3 + 1) i₀) 2 ∧ gi M (gr M (t₀ + 3 + 1) i₀) 0 ≤ hi ∧ lo ≤ gi M (gr M (t₀ + 3 + 1) i₀) 0 + gi M (gr M (t₀ + 3 + 1) i₀) 2 - 1) ↔ mm_td M m₀ lo hi := by
  obtain ⟨tl, nb⟩ := I₀.1.2.2.2.1
  have sq := I₀.2.2.2.2.1.2.1
  have zf := I₀.2.2.2.1
  unfold mm_td
  rw [zf.1, zf.2.1]
  constructor
  · rintro ⟨i₀, hi9, h1, h2, h3⟩
    have o := tl.2.2.1 i₀ hi9
    unfold mh_ok at o
    have A₀ := tl.2.2.2.1 i₀ hi9
    by_cases c₀ : gi M (gr M (t₀ + 3 + 1) i₀) 0 < lo
    · refine ⟨lo, gi M (gr M (t₀ + 3 + 1) i₀) 1, by omega, by omega, Or.inl ⟨by omega, ?_⟩⟩
      rw [sq lo _ (lo - 1) _ (by omega) (by omega)]
      have a1₀ := A₀ lo (gi M (gr M (t₀ + 3 + 1) i₀) 1) (by unfold mh_cv; omega)
      have a2 := A₀ (lo - 1) (gi M (gr M (t₀ + 3 + 1) i₀) 1) (by unfold mh_cv; omega)
      omega
    · refine ⟨gi M (gr M (t₀ + 3 + 1) i₀) 0, gi M (gr M (t₀ + 3 + 1) i₀) 1, by omega, by omega, Or.inr ⟨by omega, ?_⟩⟩
      rw [sq _ _ (gi M (gr M (t₀ + 3 + 1) i₀) 0 + 1) _ (by omega) (by omega)]
      have a1₀ := A₀ (gi M (gr M (t₀ + 3 + 1) i₀) 0) (gi M (gr M (t₀ + 3 + 1) i₀) 1) (by unfold mh_cv; omega)
      have a2 := A₀ (gi M (gr M (t₀ + 3 + 1) i₀) 0 + 1) (gi M (gr M (t₀ + 3 + 1) i₀) 1) (by unfold mh_cv; omega)
      omega
  · rintro ⟨p₀, q₀, hp, hq, w₀⟩
    obtain ⟨i₀, hi9, i1₀, w1₀, e1₀, _⟩ := mh_sqc tl nb (p₀ := p₀) (q₀ := q₀) (by omega)
    rcases w₀ with ⟨w2₀, e₀⟩ | ⟨w2₀, e₀⟩
    · rw [sq p₀ q₀ (p₀ - 1) q₀ (by omega) (by omega)] at e₀
      obtain ⟨i', hi', i1', w', e1', _⟩ := mh_sqc tl nb (p₀ := p₀ - 1) (q₀ := q₀) (by omega)
      have ii : i' = i₀ := by omega
      rw [ii] at w'
      unfold mh_cv at w1₀ w'
      exact ⟨i₀, hi9, by omega, by omega, by omega⟩
    · rw [sq p₀ q₀ (p₀ + 1) q₀ (by omega) (by omega)] at e₀
      obtain ⟨i', hi', i1', w', e1', _⟩ := mh_sqc tl nb (p₀ := p₀ + 1) (q₀ := q₀) (by omega)
      have ii : i' = i₀ := by omega
      rw [ii] at w'
      unfold mh_cv at w1₀ w'
      exact ⟨i₀, hi9, by omega, by omega, by omega⟩
/-- the rows₀ in another order₀ -/
theorem mh_PERM {M N1 N5 N2 P : mg_M} {g₀ m₀ t₀ u₀ : Nat} {s₀ : Int → Int} (I₀ : mh_INV M g₀ m₀ t₀ u₀) (r₀ : mh_rmb M N1 g₀ t₀ u₀) (x5₀ : mh_fx (t₀ + 127) N1 N5) (nv : mh_nv N5 N2 t₀ (gi N5 t₀ 0) (gi N5 t₀ 1) (gi N5 t₀ 2) (fun p₀ q₀ => mh_at N5 t₀ (s₀ p₀) q₀) (mh_cn N5 t₀ 4) (mh_cn N5 t₀ 5) (fun k₀ => gi N5 (t₀ + 2) k₀.toNat) (fun k₀ => gi N5 (t₀ + 1) (s₀ k₀).toNat)) (hs : mh_hs N2 P t₀ (g₀ + 259) 0 0 0 0) (hs1 : ∀ p₀, 0 ≤ p₀ → p₀ < gi M t₀ 0 → 0 ≤ s₀ p₀ ∧ s₀ p₀ < gi M t₀ 0) : mh_til (gi M t₀ 0) (gi M t₀ 1) (fun p₀ q₀ => mi M (m₀ + 1) (s₀ p₀) q₀) (mh_fT P t₀ 0) (mh_fT P t₀ 1) (mh_fT P t₀ 2) (mh_fT P t₀ 3) ∧ (∀ a₀ k₀, m₀ ≤ a₀ → a₀ < m₀ + 18 → gi P a₀ k₀ = gi M a₀ k₀) ∧ mm_st P m₀ ∧ mh_far M P g₀ ∧ ∀ o z₀ Q₀, mm_nw (sl P o 0 z₀) Q₀ m₀ (gi M t₀ 0) (gi M t₀ 1) (gi M t₀ 2) (fun p₀ q₀ => mi M (m₀ + 1) (s₀ p₀) q₀) (fun k₀ => gi M (m₀ + 2) k₀.toNat) (fun k₀ => gi M (m₀ + 3) k₀.toNat) (fun k₀ => gi M (m₀ + 4) k₀.toNat) (fun k₀ => gi M (m₀ + 5) (s₀ k₀).toNat) → mm_se Q₀ m₀ (gi M t₀ 0) (gi M t₀ 1) (mh_fT P t₀ 0) (mh_fT P t₀ 1) (mh_fT P t₀ 2) (mh_fT P t₀ 3) → gi Q₀ m₀ 0 = 0 ∧ mh_far (sl P o 0 z₀) Q₀ g₀ ∧ ∃ t₀ u₀, mh_INV Q₀ g₀ m₀ t₀ u₀ := by
  have K9 := I₀.1
  have V9 := I₀.2.1
  have pm := I₀.2.2.1.2
  have pl := I₀.1.2.2.1
  have rb := K9.2.2.2.2.2
  obtain ⟨tl, nb⟩ := K9.2.2.2.1
  obtain ⟨K1, E1₀, FR, h21⟩ := mh_rmb_K K9 r₀
  have v0₀ := (E1₀ t₀ (by omega) (by omega)).2.2.2
  have v1₀ := (E1₀ (t₀ + 1) (by omega) (by omega)).2.2.2
  have v2 := (E1₀ (t₀ + 2) (by omega) (by omega)).2.2.2
  obtain ⟨tl1, nb1⟩ := K1.2.2.2.1
  obtain ⟨tl5, at5₀, co5, z50₀, z51, z53₀⟩ := mh_fx_tl7 x5₀ tl1
  have w0₀ : gi N5 t₀ 0 = gi M t₀ 0 := z50₀.trans (v0₀ 0)
  have w1₀ : gi N5 t₀ 1 = gi M t₀ 1 := z51.trans (v0₀ 1)
  have w2₀ : gi N5 t₀ 2 = gi M t₀ 2 := (x5₀.2.2.2.2.2.2 t₀ 2 (by omega)).trans (v0₀ 2)
  have aN₀ : ∀ p₀ q₀, mh_at N5 t₀ p₀ q₀ = mh_at M t₀ p₀ q₀ := fun p₀ q₀ => (at5₀ p₀ q₀).trans (by rw [mh_eq_at E1₀])
  have cN₀ : ∀ f₀ p₀ q₀, mh_rg (gi M t₀ 0) (gi M t₀ 1) p₀ q₀ → mh_cn N5 t₀ f₀ (mh_at M t₀ p₀ q₀) = gi M (mh_co M t₀ p₀ q₀) f₀ := by
    intro f₀ p₀ q₀ h₀
    obtain ⟨i₀, hi, i1₀, w₀, e₀, ec⟩ := mh_sqc tl nb h₀
    obtain ⟨y1, y2⟩ := mh_eq_cells E1₀ tl.2.1 i1₀
    have y3 := tl.2.1.2.2.2.2.2.2.2.1 i₀ i1₀
    rw [e₀]
    unfold mh_cn
    rw [if_pos (by omega), Int.toNat_natCast, x5₀.2.2.1, y1, x5₀.2.2.2.2.2.2 _ f₀ (by omega), y2, ec]
  obtain ⟨fw, tn₀, sz₀, hat, hct, hwd, hht⟩ := nv
  simp only [w0₀, w1₀, w2₀, aN₀] at sz₀ hat hct hwd hht
  obtain ⟨q1₀, q2₀, q3₀, q4₀, q5₀⟩ := I₀.2.2.2.2.1
  have sr9 : ∀ p₀ q₀, mh_rg (gi M t₀ 0) (gi M t₀ 1) p₀ q₀ → mh_rg (gi M t₀ 0) (gi M t₀ 1) (s₀ p₀) q₀ := fun p₀ q₀ h₀ => ⟨hs1 p₀ h₀.1.1 h₀.1.2, h₀.2⟩
  have hC : ∀ p₀ q₀, mh_rg (gi M t₀ 0) (gi M t₀ 1) p₀ q₀ → (gi N2 (mh_co N2 t₀ p₀ q₀) 4 = gi M (m₀ + 2) (mi M (m₀ + 1) (s₀ p₀) q₀).toNat ∧ gi N2 (mh_co N2 t₀ p₀ q₀) 5 = gi M (m₀ + 3) (mi M (m₀ + 1) (s₀ p₀) q₀).toNat) ∧ 0 ≤ gi M (m₀ + 2) (mi M (m₀ + 1) (s₀ p₀) q₀).toNat ∧ gi M (m₀ + 2) (mi M (m₀ + 1) (s₀ p₀) q₀).toNat ≤ 999 := by
    intro p₀ q₀ a₀
    have b₀ := sr9 p₀ q₀ a₀
    have w₀ := hct p₀ q₀ a₀
    rw [cN₀ 4 _ _ b₀, cN₀ 5 _ _ b₀] at w₀
    have y' : gi M (m₀ + 2) (mi M (m₀ + 1) (s₀ p₀) q₀).toNat = gi M (mh_co M t₀ (s₀ p₀) q₀) 4 ∧ gi M (m₀ + 3) (mi M (m₀ + 1) (s₀ p₀) q₀).toNat = gi M (mh_co M t₀ (s₀ p₀) q₀) 5 := q3₀ _ _ b₀
    have v₀ := mh_V_sq V9 tl nb b₀
    rw [y'.1, y'.2]
    exact ⟨w₀, v₀⟩
  have hW : ∀ k₀, 0 ≤ k₀ → k₀ < gi M t₀ 1 → gi N2 (t₀ + 2) k₀.toNat = gi M (m₀ + 4) k₀.toNat ∧ 10 ≤ gi M (m₀ + 4) k₀.toNat ∧ gi M (m₀ + 4) k₀.toNat ≤ 200 := by
    intro k₀ k0₀ k1₀
    have w₀ : gi N2 (t₀ + 2) k₀.toNat = gi M (t₀ + 2) k₀.toNat := (hwd k₀ k0₀ k1₀).trans ((x5₀.2.2.2.2.2.2 _ _ (by omega)).trans (v2 _))
    have y' : gi M (m₀ + 4) k₀.toNat = gi M (t₀ + 2) k₀.toNat := q4₀ k₀ k0₀ k1₀
    have v₀ := V9.2.1 k₀.toNat (by omega)
    rw [y']
    exact ⟨w₀, v₀⟩
  have hH : ∀ k₀, 0 ≤ k₀ → k₀ < gi M t₀ 0 → gi N2 (t₀ + 1) k₀.toNat = gi M (m₀ + 5) (s₀ k₀).toNat ∧ 5 ≤ gi M (m₀ + 5) (s₀ k₀).toNat ∧ gi M (m₀ + 5) (s₀ k₀).toNat ≤ 100 := by
    intro k₀ k0₀ k1₀
    have b₀ := hs1 k₀ k0₀ k1₀
    have w₀ : gi N2 (t₀ + 1) k₀.toNat = gi M (t₀ + 1) (s₀ k₀).toNat := (hht k₀ k0₀ k1₀).trans ((x5₀.2.2.2.2.2.2 _ _ (by omega)).trans (v1₀ _))
    have y' : gi M (m₀ + 5) (s₀ k₀).toNat = gi M (t₀ + 1) (s₀ k₀).toNat := q5₀ _ b₀.1 b₀.2
    have v₀ := V9.2.2 (s₀ k₀).toNat (by omega)
    rw [y']
    exact ⟨w₀, v₀⟩
  obtain ⟨til, cm, stP, far₀, cu, US₀⟩ := mh_UPS (J₀ := (fun p₀ q₀ => mi M (m₀ + 1) (s₀ p₀) q₀)) (cn := fun k₀ => gi M (m₀ + 2) k₀.toNat) (sy := fun k₀ => gi M (m₀ + 3) k₀.toNat) (wd := fun k₀ => gi M (m₀ + 4) k₀.toNat) (ht := fun k₀ => gi M (m₀ + 5) (s₀ k₀).toNat) I₀ r₀ (mh_chg_tr (mh_chg_fx x5₀ (Or.inl ⟨by omega, by omega⟩)) (mh_chg_fw fw)) (fun a₀ k₀ a1₀ a2 => ((fw.2.2.2.2.2.2 a₀ k₀).resolve_left (by omega)).trans (x5₀.2.2.2.2.2.2 a₀ k₀ (by omega))) (mh_far_tr (mh_far_fx x5₀ (by omega)) (mh_far_fw fw (by omega))) tn₀ hs sz₀ (by omega) (fun p₀ q₀ p' q' a₀ b₀ => (hat p₀ q₀ p' q' a₀ b₀).trans (q2₀ (s₀ p₀) q₀ (s₀ p') q' (sr9 p₀ q₀ a₀) (sr9 p' q' b₀)).symm) hC hW hH
  exact ⟨til, cm, stP, far₀, fun o z₀ Q₀ nw se => (US₀ o z₀ Q₀ nw se).2⟩
theorem ti_moveRow0 {D : mg_D} {l : Launch} (hl : l.stackTraces = false) {M : mg_M} {g₀ m₀ t₀ u₀ : Nat} {x₀ y₀ : Int} (I₀ : mh_INV M g₀ m₀ t₀ u₀) (hx : 0 ≤ x₀ ∧ x₀ < gi M t₀ 0) (hy : 0 ≤ y₀ ∧ y₀ < gi M t₀ 0) (hn : x₀ ≠ y₀) (hh9 : x₀ < gi M t₀ 2 ↔ y₀ < gi M t₀ 2) (ht9 : ¬ ∃ i₀ : Nat, (i₀ : Int) < gi M (t₀ + 3) 0 ∧ 1 < gi M (gr M (t₀ + 3 + 1) i₀) 2 ∧ gi M (gr M (t₀ + 3 + 1) i₀) 0 ≤ max x₀ y₀ ∧ min x₀ y₀ ≤ gi M (gr M (t₀ + 3 + 1) i₀) 0 + gi M (gr M (t₀ + 3 + 1) i₀) 2 - 1) : mh_opN D l 80 152 [.inl x₀, .inl y₀] M g₀ m₀ := by
  obtain ⟨st₀, rc, h4, si9, rts, hid₀, cnt₀, hco, hw, hh, hb₀, hd₀⟩ := mh_INV_m I₀
  have K9 := I₀.1
  have V9 := I₀.2.1
  have zf := I₀.2.2.2.1
  have sq := I₀.2.2.2.2.1
  have pm := I₀.2.2.1.2
  have pl := I₀.1.2.2.1
  have bb := K9.2.2.2.1.1.1.2.2
  have nm : ¬ (min x₀ y₀ < gi M t₀ 2 ∧ gi M t₀ 2 ≤ max x₀ y₀) := by omega
  have td := @mh_td_m M g₀ m₀ t₀ u₀ (min x₀ y₀) (max x₀ y₀) I₀ (by omega)
  refine ⟨fun z₀ P => z₀ = mh_sum (fun i₀ => if mh_mv x₀ y₀ (i₀ : Int) = i₀ then (0 : Int) else 1) (gi M t₀ 0).toNat ∧ ∃ N1 N5 N2, mh_rmb M N1 g₀ t₀ u₀ ∧ mh_fx (t₀ + 127) N1 N5 ∧ mh_nv N5 N2 t₀ (gi N5 t₀ 0) (gi N5 t₀ 1) (gi N5 t₀ 2) (fun p₀ q₀ => mh_at N5 t₀ (mh_mv x₀ y₀ p₀) q₀) (mh_cn N5 t₀ 4) (mh_cn N5 t₀ 5) (fun k₀ => gi N5 (t₀ + 2) k₀.toNat) (fun k₀ => gi N5 (t₀ + 1) (mh_mv x₀ y₀ k₀).toNat) ∧ mh_hs N2 P t₀ (g₀ + 259) 0 0 0 0, mg_MtN (cX5_moveRow0 hl K9 hx hy hn hh9 ht9) (fun v₀ P h₀ => ⟨_, h₀.1, rfl, h₀.2⟩), ?_⟩
  rintro z9 P ⟨hz, N1, N5, N2, r₀, x5₀, nv, hs⟩
  obtain ⟨til, cm, stP, far₀, US₀⟩ := mh_PERM I₀ r₀ x5₀ nv hs (fun p₀ p0₀ p1₀ => by unfold mh_mv; (repeat' split) <;> omega)
  have zz : z9 = max x₀ y₀ - min x₀ y₀ + 1 := by
    have a₀ := @mh_sum_iv (min x₀ y₀) (max x₀ y₀ + 1) 1 (by omega) (gi M t₀ 0).toNat (by omega)
    rw [hz, show max x₀ y₀ - min x₀ y₀ + 1 = (max x₀ y₀ + 1 - min x₀ y₀) * 1 by omega, ← a₀]
    refine mh_sum_cg _ (fun k₀ hk => ?_)
    unfold mh_mv
    (repeat' split) <;> omega
  refine ⟨far₀, fun o => ?_⟩
  have e0₀ : ∀ k₀, gi (sl P o 0 z9) m₀ k₀ = gi M m₀ k₀ := fun k₀ => cm m₀ k₀ (by omega) (by omega)
  have e1₀ : ∀ k₀, gi (sl P o 0 z9) (m₀ + 1) k₀ = gi M (m₀ + 1) k₀ := fun k₀ => cm (m₀ + 1) k₀ (by omega) (by omega)
  have e2₀ : ∀ k₀, gi (sl P o 0 z9) (m₀ + 2) k₀ = gi M (m₀ + 2) k₀ := fun k₀ => cm (m₀ + 2) k₀ (by omega) (by omega)
  have e3₀ : ∀ k₀, gi (sl P o 0 z9) (m₀ + 3) k₀ = gi M (m₀ + 3) k₀ := fun k₀ => cm (m₀ + 3) k₀ (by omega) (by omega)
  have e4₀ : ∀ k₀, gi (sl P o 0 z9) (m₀ + 4) k₀ = gi M (m₀ + 4) k₀ := fun k₀ => cm (m₀ + 4) k₀ (by omega) (by omega)
  have e5₀ : ∀ k₀, gi (sl P o 0 z9) (m₀ + 5) k₀ = gi M (m₀ + 5) k₀ := fun k₀ => cm (m₀ + 5) k₀ (by omega) (by omega)
  have eF : mi (sl P o 0 z9) (m₀ + 1) = mi M (m₀ + 1) := by funext p₀ q₀; exact e1₀ _
  have R := @cX6_moveRow0 D l hl (sl P o 0 z9) m₀ x₀ y₀ (mh_fT P t₀ 0) (mh_fT P t₀ 1) (mh_fT P t₀ 2) (mh_fT P t₀ 3) stP (by unfold mm_rc; rw [e0₀, e0₀]; omega) (by rw [e0₀]; omega) hn (by
    unfold mm_td at *
    rw [eF, e0₀, e0₀, e0₀]
    rintro (w₀ | w₀)
    · exact ht9 (td.2 w₀)
    · rw [zf.2.2] at w₀
      exact nm w₀) (by rw [e0₀, e0₀]; omega) (fun r₀ c₀ a₀ => by rw [e0₀, e0₀] at a₀; simp only [mi, e1₀]; exact hid₀ r₀ c₀ a₀) (by rw [eF, e0₀, e0₀, zf.1, zf.2.1]; exact til)
  rw [eF] at R
  simp only [e0₀, e2₀, e3₀, e4₀, e5₀] at R
  rw [zf.1, zf.2.1, zf.2.2] at R
  refine mg_MtN R ?_
  rintro w₀ Q₀ ⟨e₀, nw, se⟩
  exact ⟨by rw [e₀, zz], US₀ o z9 Q₀ nw se⟩
theorem ti_moveRow3 {D : mg_D} {l : Launch} (hl : l.stackTraces = false) {M : mg_M} {g₀ m₀ t₀ u₀ : Nat} {x₀ y₀ : Int} (I₀ : mh_INV M g₀ m₀ t₀ u₀) (hx : 0 ≤ x₀ ∧ x₀ < gi M t₀ 0) (hy : 0 ≤ y₀ ∧ y₀ < gi M t₀ 0) (hn : x₀ ≠ y₀) (h₀ : ¬ (x₀ < gi M t₀ 2 ↔ y₀ < gi M t₀ 2) ∨ ∃ i₀ : Nat, (i₀ : Int) < gi M (t₀ + 3) 0 ∧ 1 < gi M (gr M (t₀ + 3 + 1) i₀) 2 ∧ gi M (gr M (t₀ + 3 + 1) i₀) 0 ≤ max x₀ y₀ ∧ min x₀ y₀ ≤ gi M (gr M (t₀ + 3 + 1) i₀) 0 + gi M (gr M (t₀ + 3 + 1) i₀) 2 - 1) : mh_opT D l 80 152 [.inl x₀, .inl y₀] M g₀ m₀ 4 3 := by
  have td := @mh_td_m M g₀ m₀ t₀ u₀ (min x₀ y₀) (max x₀ y₀) I₀ (by omega)
  refine mh_opT_of (cX5_moveRow3 hl I₀.1 hx hy hn h₀) (fun P s₀ => ?_) I₀
  have IP := mh_INV_same I₀ s₀
  obtain ⟨v1₀, v2, v3⟩ := mh_same_v I₀ s₀
  have z₀ := I₀.2.2.2.1
  have e1₀ := v2 1 (by omega) (by omega)
  have e2₀ := v2 2 (by omega) (by omega)
  have e3₀ := v2 3 (by omega) (by omega)
  obtain ⟨st₀, rc, h4, si9, rts, hid₀, cnt₀, hco, hw, hh, hb₀, hd₀⟩ := mh_INV_m IP
  have eI : mi P (m₀ + 1) = mi M (m₀ + 1) := by funext p₀ q₀; exact v3 (m₀ + 1) (by omega) (by omega) _
  exact mg_MtN (cX6_moveRow3 hl st₀ rc (by omega) hn (by
    unfold mm_td at *
    rw [eI, e1₀, e2₀, e3₀]
    rcases h₀ with w₀ | w₀
    · exact Or.inr (by omega)
    · exact Or.inl (td.1 w₀))) (fun w₀ Q₀ h₀ => ⟨h₀.1, Or.inr (Or.inl h₀.2)⟩)
theorem mh_srj {n₀ : Nat} {f₀ : Nat → Nat} (h1 : ∀ i₀, i₀ < n₀ → f₀ i₀ < n₀) (h2 : ∀ i₀ j₀, i₀ < n₀ → j₀ < n₀ → f₀ i₀ = f₀ j₀ → i₀ = j₀) (k₀ : Nat) (hk : k₀ < n₀) : ∃ i₀, i₀ < n₀ ∧ f₀ i₀ = k₀ := by
  refine Classical.byContradiction (fun w₀ => ?_)
  have p₀ := mh_pig n₀ (n₀ + 1) (fun i₀ => if i₀ < n₀ then f₀ i₀ else k₀) (fun i₀ hi => by
    show (if i₀ < n₀ then f₀ i₀ else k₀) < n₀
    split
    · exact h1 _ (by omega)
    · exact hk) (fun i₀ j₀ hi hj e₀ => by
    have e' : (if i₀ < n₀ then f₀ i₀ else k₀) = (if j₀ < n₀ then f₀ j₀ else k₀) := e₀
    by_cases a₀ : i₀ < n₀
    · by_cases b₀ : j₀ < n₀
      · rw [if_pos a₀, if_pos b₀] at e'
        exact h2 i₀ j₀ a₀ b₀ e'
      · rw [if_pos a₀, if_neg b₀] at e'
        exact absurd ⟨i₀, a₀, e'⟩ w₀
    · by_cases b₀ : j₀ < n₀
      · rw [if_neg a₀, if_pos b₀] at e'
        exact absurd ⟨j₀, b₀, e'.symm⟩ w₀
      · omega)
  omega
theorem mh_srt {key₀ : Int → Int} {asc h₀ R : Int} {ps₀ : Int → Int} (hr : 0 ≤ h₀) (p0₀ : ∀ r₀, ¬ (h₀ ≤ r₀ ∧ r₀ < R) → ps₀ r₀ = r₀) (p1₀ : ∀ r₀, h₀ ≤ r₀ → r₀ < R → h₀ ≤ ps₀ r₀ ∧ ps₀ r₀ < R) (p2₀ : ∀ a₀ b₀, h₀ ≤ a₀ → a₀ < R → h₀ ≤ b₀ → b₀ < R → mh_lt key₀ asc a₀ b₀ → ps₀ a₀ < ps₀ b₀) : ∃ s₀ : Int → Int, mh_so2 key₀ h₀ R s₀ ∧ mh_sd key₀ asc h₀ R h₀ s₀ ∧ (∀ r₀, s₀ (ps₀ r₀) = r₀) ∧ ∀ r₀, ps₀ (s₀ r₀) = r₀ := by
  have inj : ∀ a₀ b₀, ps₀ a₀ = ps₀ b₀ → a₀ = b₀ := by
    intro a₀ b₀ e₀
    by_cases ha₀ : h₀ ≤ a₀ ∧ a₀ < R
    · have ra := p1₀ a₀ ha₀.1 ha₀.2
      by_cases hb₀ : h₀ ≤ b₀ ∧ b₀ < R
      · refine Classical.byContradiction (fun n₀ => ?_)
        rcases mh_lt_or (key₀ := key₀) (asc := asc) n₀ with w₀ | w₀
        · have := p2₀ a₀ b₀ ha₀.1 ha₀.2 hb₀.1 hb₀.2 w₀
          omega
        · have := p2₀ b₀ a₀ hb₀.1 hb₀.2 ha₀.1 ha₀.2 w₀
          omega
      · have := p0₀ b₀ hb₀
        omega
    · have := p0₀ a₀ ha₀
      by_cases hb₀ : h₀ ≤ b₀ ∧ b₀ < R
      · have rb := p1₀ b₀ hb₀.1 hb₀.2
        omega
      · have := p0₀ b₀ hb₀
        omega
  have ex₀ : ∀ k₀ : Int, ∃ r₀ : Int, ps₀ r₀ = k₀ ∧ ((h₀ ≤ k₀ ∧ k₀ < R) → h₀ ≤ r₀ ∧ r₀ < R) ∧ (¬ (h₀ ≤ k₀ ∧ k₀ < R) → r₀ = k₀) := by
    intro k₀
    by_cases hk : h₀ ≤ k₀ ∧ k₀ < R
    · obtain ⟨i₀, hi, e₀⟩ := @mh_srj (R - h₀).toNat (fun i₀ => (ps₀ (h₀ + i₀) - h₀).toNat) (fun i₀ hi => by
        have := p1₀ (h₀ + i₀) (by omega) (by omega)
        show (ps₀ (h₀ + i₀) - h₀).toNat < (R - h₀).toNat
        omega) (fun i₀ j₀ hi hj e₀ => by
        have a₀ := p1₀ (h₀ + i₀) (by omega) (by omega)
        have b₀ := p1₀ (h₀ + j₀) (by omega) (by omega)
        have e' : (ps₀ (h₀ + i₀) - h₀).toNat = (ps₀ (h₀ + j₀) - h₀).toNat := e₀
        have := inj (h₀ + i₀) (h₀ + j₀) (by omega)
        omega) (k₀ - h₀).toNat (by omega)
      have a₀ := p1₀ (h₀ + i₀) (by omega) (by omega)
      have e' : (ps₀ (h₀ + i₀) - h₀).toNat = (k₀ - h₀).toNat := e₀
      exact ⟨h₀ + i₀, by omega, fun _ => by omega, fun w₀ => absurd hk w₀⟩
    · exact ⟨k₀, p0₀ k₀ hk, fun w₀ => absurd w₀ hk, fun _ => rfl⟩
  obtain ⟨s₀, hs⟩ := Classical.axiomOfChoice ex₀
  have sd : mh_sd key₀ asc h₀ R h₀ s₀ := by
    intro p₀ q₀ h1 h2 h3 h4
    have a₀ := (hs p₀).2.1 (by omega)
    have b₀ := (hs q₀).2.1 (by omega)
    have ep := (hs p₀).1
    have eq₀ := (hs q₀).1
    rcases mh_lt_or (key₀ := key₀) (asc := asc) (a₀ := s₀ p₀) (b₀ := s₀ q₀) (fun w₀ => by rw [w₀] at ep; omega) with w₀ | w₀
    · exact w₀
    · have := p2₀ _ _ b₀.1 b₀.2 a₀.1 a₀.2 w₀
      omega
  refine ⟨s₀, ⟨fun p₀ w₀ => (hs p₀).2.2 w₀, fun p₀ a₀ b₀ => (hs p₀).2.1 ⟨a₀, b₀⟩, fun p₀ q₀ _ _ _ _ e₀ => ?_, fun p₀ q₀ a₀ b₀ c₀ e₀ => ?_⟩, sd, fun r₀ => inj _ _ (hs _).1, fun r₀ => (hs r₀).1⟩
  · have a₀ := (hs p₀).1
    rw [e₀, (hs q₀).1] at a₀
    exact a₀.symm
  · have w₀ := sd p₀ q₀ a₀ b₀ (by omega) c₀
    unfold mh_lt at w₀
    split at w₀ <;> omega
theorem mh_rb_1 {M : mg_M} {t₀ : Nat} {c₀ a₀ r₀ i₀ : Int} (h₀ : mh_lt (fun p₀ => mh_ct M t₀ p₀ c₀) a₀ i₀ r₀) : mh_rb M t₀ c₀ r₀ a₀ i₀ = 1 := by
  unfold mh_lt at h₀
  dsimp only at h₀
  unfold mh_rb
  by_cases z₀ : a₀ = 0
  · rw [if_neg (by omega)] at h₀
    (repeat' split) <;> omega
  · rw [if_pos z₀] at h₀
    (repeat' split) <;> omega
theorem mh_rb_0 {M : mg_M} {t₀ : Nat} {c₀ a₀ r₀ i₀ : Int} (h₀ : ¬ mh_lt (fun p₀ => mh_ct M t₀ p₀ c₀) a₀ i₀ r₀) : mh_rb M t₀ c₀ r₀ a₀ i₀ = 0 := by
  unfold mh_lt at h₀
  dsimp only at h₀
  unfold mh_rb
  by_cases z₀ : a₀ = 0
  · rw [if_neg (by omega)] at h₀
    (repeat' split) <;> omega
  · rw [if_pos z₀] at h₀
    (repeat' split) <;> omega
theorem mh_rb_b {M : mg_M} {t₀ : Nat} {c₀ a₀ r₀ i₀ : Int} : 0 ≤ mh_rb M t₀ c₀ r₀ a₀ i₀ ∧ mh_rb M t₀ c₀ r₀ a₀ i₀ ≤ 1 := by
  unfold mh_rb
  (repeat' split) <;> omega
theorem mh_srt_ps {M : mg_M} {t₀ : Nat} {c₀ a₀ : Int} (hh : 0 ≤ gi M t₀ 2 ∧ gi M t₀ 2 ≤ gi M t₀ 0) : ∃ s₀ : Int → Int, mh_so2 (fun p₀ => mh_ct M t₀ p₀ c₀) (gi M t₀ 2) (gi M t₀ 0) s₀ ∧ mh_sd (fun p₀ => mh_ct M t₀ p₀ c₀) a₀ (gi M t₀ 2) (gi M t₀ 0) (gi M t₀ 2) s₀ ∧ (∀ r₀, 0 ≤ r₀ → r₀ < gi M t₀ 0 → (0 ≤ mh_ps M t₀ c₀ a₀ r₀.toNat ∧ mh_ps M t₀ c₀ a₀ r₀.toNat < gi M t₀ 0) ∧ s₀ (mh_ps M t₀ c₀ a₀ r₀.toNat) = r₀) ∧ (∀ r₀, 0 ≤ r₀ → r₀ < gi M t₀ 0 → (0 ≤ s₀ r₀ ∧ s₀ r₀ < gi M t₀ 0) ∧ mh_ps M t₀ c₀ a₀ (s₀ r₀).toNat = r₀) := by
  have P1₀ : ∀ r₀, gi M t₀ 2 ≤ r₀ → r₀ < gi M t₀ 0 → 0 ≤ mh_sum (fun k₀ => mh_rb M t₀ c₀ r₀ a₀ (gi M t₀ 2 + k₀)) (gi M t₀ 0 - gi M t₀ 2).toNat ∧ mh_sum (fun k₀ => mh_rb M t₀ c₀ r₀ a₀ (gi M t₀ 2 + k₀)) (gi M t₀ 0 - gi M t₀ 2).toNat + 1 ≤ gi M t₀ 0 - gi M t₀ 2 := by
    intro r₀ r0 r1₀
    refine ⟨(@mh_sum_le _ 1 _ (fun i₀ _ => mh_rb_b)).1, ?_⟩
    have p₀ := @mh_sum_pt 1 (r₀ - gi M t₀ 2).toNat (gi M t₀ 0 - gi M t₀ 2).toNat (by omega)
    have d₀ := mh_sum_add (gi M t₀ 0 - gi M t₀ 2).toNat (fun k₀ : Nat => mh_rb M t₀ c₀ r₀ a₀ (gi M t₀ 2 + k₀)) (fun k₀ => if k₀ = (r₀ - gi M t₀ 2).toNat then (1 : Int) else 0)
    have n₀ := mh_sum_cm (gi M t₀ 0 - gi M t₀ 2).toNat 1
    have q₀ := @mh_sum_mono (fun k₀ : Nat => mh_rb M t₀ c₀ r₀ a₀ (gi M t₀ 2 + k₀) + (if k₀ = (r₀ - gi M t₀ 2).toNat then (1 : Int) else 0)) (fun _ => 1) (gi M t₀ 0 - gi M t₀ 2).toNat (fun k₀ hk => by
      (try dsimp only)
      by_cases z₀ : k₀ = (r₀ - gi M t₀ 2).toNat
      · rw [if_pos z₀, show gi M t₀ 2 + (k₀ : Int) = r₀ by omega, mh_rb_0 (fun w₀ => mh_lt_no w₀ w₀)]
        decide
      · rw [if_neg z₀]
        have := @mh_rb_b M t₀ c₀ a₀ r₀ (gi M t₀ 2 + k₀)
        omega)
    omega
  have P2₀ : ∀ r₀ r', gi M t₀ 2 ≤ r₀ → r₀ < gi M t₀ 0 → gi M t₀ 2 ≤ r' → r' < gi M t₀ 0 → mh_lt (fun p₀ => mh_ct M t₀ p₀ c₀) a₀ r₀ r' → mh_sum (fun k₀ => mh_rb M t₀ c₀ r₀ a₀ (gi M t₀ 2 + k₀)) (gi M t₀ 0 - gi M t₀ 2).toNat + 1 ≤ mh_sum (fun k₀ => mh_rb M t₀ c₀ r' a₀ (gi M t₀ 2 + k₀)) (gi M t₀ 0 - gi M t₀ 2).toNat := by
    intro r₀ r' r0 r1₀ r0' r1' hlt
    have p₀ := @mh_sum_pt 1 (r₀ - gi M t₀ 2).toNat (gi M t₀ 0 - gi M t₀ 2).toNat (by omega)
    have d₀ := mh_sum_add (gi M t₀ 0 - gi M t₀ 2).toNat (fun k₀ : Nat => mh_rb M t₀ c₀ r₀ a₀ (gi M t₀ 2 + k₀)) (fun k₀ => if k₀ = (r₀ - gi M t₀ 2).toNat then (1 : Int) else 0)
    have q₀ := @mh_sum_mono (fun k₀ : Nat => mh_rb M t₀ c₀ r₀ a₀ (gi M t₀ 2 + k₀) + (if k₀ = (r₀ - gi M t₀ 2).toNat then (1 : Int) else 0)) (fun k₀ : Nat => mh_rb M t₀ c₀ r' a₀ (gi M t₀ 2 + k₀)) (gi M t₀ 0 - gi M t₀ 2).toNat (fun k₀ hk => by
      (try dsimp only)
      by_cases z₀ : k₀ = (r₀ - gi M t₀ 2).toNat
      · rw [if_pos z₀, show gi M t₀ 2 + (k₀ : Int) = r₀ by omega, mh_rb_0 (fun w₀ => mh_lt_no w₀ w₀), mh_rb_1 hlt]
        decide
      · rw [if_neg z₀]
        by_cases y₀ : mh_lt (fun p₀ => mh_ct M t₀ p₀ c₀) a₀ (gi M t₀ 2 + k₀) r₀
        · rw [mh_rb_1 y₀, mh_rb_1 (mh_lt_tr y₀ hlt)]
          decide
        · rw [mh_rb_0 y₀]
          have := @mh_rb_b M t₀ c₀ a₀ r' (gi M t₀ 2 + k₀)
          omega)
    omega
  have ep : ∀ r₀, 0 ≤ r₀ → mh_ps M t₀ c₀ a₀ r₀.toNat = if gi M t₀ 2 ≤ r₀ ∧ r₀ < gi M t₀ 0 then gi M t₀ 2 + mh_sum (fun k₀ => mh_rb M t₀ c₀ r₀ a₀ (gi M t₀ 2 + k₀)) (gi M t₀ 0 - gi M t₀ 2).toNat else r₀ := by
    intro r₀ r0
    unfold mh_ps
    rw [Int.toNat_of_nonneg r0]
  obtain ⟨s₀, s1₀, s2₀, s3₀, s4₀⟩ := @mh_srt (fun p₀ => mh_ct M t₀ p₀ c₀) a₀ (gi M t₀ 2) (gi M t₀ 0) (fun r₀ => if gi M t₀ 2 ≤ r₀ ∧ r₀ < gi M t₀ 0 then gi M t₀ 2 + mh_sum (fun k₀ => mh_rb M t₀ c₀ r₀ a₀ (gi M t₀ 2 + k₀)) (gi M t₀ 0 - gi M t₀ 2).toNat else r₀) hh.1 (fun r₀ w₀ => by (try dsimp only); rw [if_neg w₀]) (fun r₀ r0 r1₀ => by
    have := P1₀ r₀ r0 r1₀
    (try dsimp only)
    rw [if_pos ⟨r0, r1₀⟩]
    omega) (fun x₀ y₀ x0₀ x1₀ y0 y1 w₀ => by
    have := P2₀ x₀ y₀ x0₀ x1₀ y0 y1 w₀
    (try dsimp only)
    rw [if_pos ⟨x0₀, x1₀⟩, if_pos ⟨y0, y1⟩]
    omega)
  (try dsimp only at s3₀ s4₀)
  refine ⟨s₀, s1₀, s2₀, fun r₀ r0 r1₀ => ?_, fun r₀ r0 r1₀ => ?_⟩
  · rw [ep r₀ r0]
    refine ⟨?_, s3₀ r₀⟩
    by_cases w₀ : gi M t₀ 2 ≤ r₀ ∧ r₀ < gi M t₀ 0
    · have := P1₀ r₀ w₀.1 w₀.2
      rw [if_pos w₀]
      omega
    · rw [if_neg w₀]
      omega
  · have b₀ : 0 ≤ s₀ r₀ ∧ s₀ r₀ < gi M t₀ 0 := by
      by_cases w₀ : gi M t₀ 2 ≤ r₀ ∧ r₀ < gi M t₀ 0
      · have := s1₀.2.1 r₀ w₀.1 w₀.2
        omega
      · rw [s1₀.1 r₀ w₀]
        omega
    exact ⟨b₀, by rw [ep _ b₀.1]; exact s4₀ r₀⟩
theorem mh_so_key {key₀ key' : Int → Int} {asc h₀ R : Int} {s₀ : Int → Int} (e₀ : ∀ p₀, h₀ ≤ p₀ → p₀ < R → key' p₀ = key₀ p₀) (a₀ : mh_so2 key₀ h₀ R s₀) (b₀ : mh_sd key₀ asc h₀ R h₀ s₀) : mh_so2 key' h₀ R s₀ ∧ mh_sd key' asc h₀ R h₀ s₀ := by
  obtain ⟨a1₀, a2, a3, a4⟩ := a₀
  refine ⟨⟨a1₀, a2, a3, fun p₀ q₀ h1 h2 h3 w₀ => ?_⟩, fun p₀ q₀ h1 h2 h3 h4 => ?_⟩
  · have x₀ := a2 p₀ h1 (by omega)
    have y₀ := a2 q₀ (by omega) h3
    rw [e₀ _ x₀.1 x₀.2, e₀ _ y₀.1 y₀.2] at w₀
    exact a4 p₀ q₀ h1 h2 h3 w₀
  · have x₀ := a2 p₀ h1 (by omega)
    have y₀ := a2 q₀ (by omega) h4
    have w₀ := b₀ p₀ q₀ h1 h2 h3 h4
    unfold mh_lt at *
    rw [e₀ _ x₀.1 x₀.2, e₀ _ y₀.1 y₀.2]
    exact w₀
theorem ti_sort0 {D : mg_D} {l : Launch} (hl : l.stackTraces = false) {M : mg_M} {g₀ m₀ t₀ u₀ : Nat} {x₀ y₀ : Int} (I₀ : mh_INV M g₀ m₀ t₀ u₀) (hx : 0 ≤ x₀ ∧ x₀ < gi M t₀ 1) (hy : y₀ = 0 ∨ y₀ = 1) (ht9 : ¬ ∃ i₀ : Nat, (i₀ : Int) < gi M (t₀ + 3) 0 ∧ 1 < gi M (gr M (t₀ + 3 + 1) i₀) 2 ∧ gi M (gr M (t₀ + 3 + 1) i₀) 0 ≤ gi M t₀ 0 - 1 ∧ gi M t₀ 2 ≤ gi M (gr M (t₀ + 3 + 1) i₀) 0 + gi M (gr M (t₀ + 3 + 1) i₀) 2 - 1) : mh_opN D l 100 191 [.inl x₀, .inl y₀] M g₀ m₀ := by
  obtain ⟨st₀, rc, h4, si9, rts, hid₀, cnt₀, hco, hw, hh, hb₀, hd₀⟩ := mh_INV_m I₀
  have K9 := I₀.1
  have V9 := I₀.2.1
  have zf := I₀.2.2.2.1
  have sq := I₀.2.2.2.2.1
  have pm := I₀.2.2.1.2
  have pl := I₀.1.2.2.1
  have bb := K9.2.2.2.1.1.1.2.2
  obtain ⟨s₀, s1₀, s2₀, HP, HV⟩ := @mh_srt_ps M t₀ x₀ y₀ K9.2.2.2.2.2.2.1
  have ek : ∀ p₀, gi M t₀ 2 ≤ p₀ → p₀ < gi M t₀ 0 → mi_key M m₀ x₀ p₀ = mh_ct M t₀ p₀ x₀ := fun p₀ p0₀ p1₀ => (sq.2.2.1 p₀ x₀ ⟨⟨by omega, p1₀⟩, hx⟩).1
  obtain ⟨s3₀, s4₀⟩ := mh_so_key ek s1₀ s2₀
  refine ⟨fun z₀ P => z₀ = mh_sum (fun i₀ => if s₀ (i₀ : Int) = i₀ then (0 : Int) else 1) (gi M t₀ 0).toNat ∧ ∃ N1 N5 N2, mh_rmb M N1 g₀ t₀ u₀ ∧ mh_fx (t₀ + 127) N1 N5 ∧ mh_nv N5 N2 t₀ (gi N5 t₀ 0) (gi N5 t₀ 1) (gi N5 t₀ 2) (fun p₀ q₀ => mh_at N5 t₀ (s₀ p₀) q₀) (mh_cn N5 t₀ 4) (mh_cn N5 t₀ 5) (fun k₀ => gi N5 (t₀ + 2) k₀.toNat) (fun k₀ => gi N5 (t₀ + 1) (s₀ k₀).toNat) ∧ mh_hs N2 P t₀ (g₀ + 259) 0 0 0 0, mg_MtN (cX5_sort0 hl K9 hx ht9 HP HV) (fun v₀ P h₀ => ⟨_, h₀.1, rfl, h₀.2⟩), ?_⟩
  rintro z9 P ⟨hz, N1, N5, N2, r₀, x5₀, nv, hs⟩
  obtain ⟨til, cm, stP, far₀, US₀⟩ := mh_PERM I₀ r₀ x5₀ nv hs (fun p₀ p0₀ p1₀ => (HV p₀ p0₀ p1₀).1)
  have zz : mh_sum (fun k₀ : Nat => if s₀ (k₀ : Int) ≠ k₀ then (1 : Int) else 0) (gi M t₀ 0).toNat = z9 := by
    rw [hz]
    refine mh_sum_cg _ (fun k₀ hk => ?_)
    (repeat' split) <;> omega
  refine ⟨far₀, fun o => ?_⟩
  have e0₀ : ∀ k₀, gi (sl P o 0 z9) m₀ k₀ = gi M m₀ k₀ := fun k₀ => cm m₀ k₀ (by omega) (by omega)
  have e1₀ : ∀ k₀, gi (sl P o 0 z9) (m₀ + 1) k₀ = gi M (m₀ + 1) k₀ := fun k₀ => cm (m₀ + 1) k₀ (by omega) (by omega)
  have e2₀ : ∀ k₀, gi (sl P o 0 z9) (m₀ + 2) k₀ = gi M (m₀ + 2) k₀ := fun k₀ => cm (m₀ + 2) k₀ (by omega) (by omega)
  have e3₀ : ∀ k₀, gi (sl P o 0 z9) (m₀ + 3) k₀ = gi M (m₀ + 3) k₀ := fun k₀ => cm (m₀ + 3) k₀ (by omega) (by omega)
  have e4₀ : ∀ k₀, gi (sl P o 0 z9) (m₀ + 4) k₀ = gi M (m₀ + 4) k₀ := fun k₀ => cm (m₀ + 4) k₀ (by omega) (by omega)
  have e5₀ : ∀ k₀, gi (sl P o 0 z9) (m₀ + 5) k₀ = gi M (m₀ + 5) k₀ := fun k₀ => cm (m₀ + 5) k₀ (by omega) (by omega)
  have eF : mi (sl P o 0 z9) (m₀ + 1) = mi M (m₀ + 1) := by funext p₀ q₀; exact e1₀ _
  have eK : mi_key (sl P o 0 z9) m₀ x₀ = mi_key M m₀ x₀ := by funext p₀; unfold mi_key; rw [eF, e2₀]
  have R := @cX6_sort0 D l hl (sl P o 0 z9) m₀ x₀ y₀ (mh_fT P t₀ 0) (mh_fT P t₀ 1) (mh_fT P t₀ 2) (mh_fT P t₀ 3) s₀ stP (by unfold mm_rc; rw [e0₀, e0₀]; omega) (by rw [e0₀]; omega) hy (by rw [e0₀, e0₀]; omega) (by rw [e0₀, e0₀]; omega) (by
    unfold mm_td
    rw [eF, e0₀, e0₀, e0₀]
    rintro ⟨w1₀, w2₀⟩
    refine ht9 ((@mh_td_m M g₀ m₀ t₀ u₀ (gi M t₀ 2) (gi M t₀ 0 - 1) I₀ (by omega)).2 ?_)
    unfold mm_td
    rw [zf.1, zf.2.2, zf.2.1] at w2₀
    rw [zf.1, zf.2.1]
    exact w2₀) (fun r₀ c₀ a₀ => by rw [e0₀, e0₀] at a₀; simp only [mi, e1₀]; exact hid₀ r₀ c₀ a₀) (by rw [eK, e0₀, e0₀, zf.1, zf.2.2]; exact s3₀) (by rw [eK, e0₀, e0₀, zf.1, zf.2.2]; exact s4₀) (by rw [eF, e0₀, e0₀, zf.1, zf.2.1]; exact til)
  rw [eF] at R
  simp only [e0₀, e2₀, e3₀, e4₀, e5₀] at R
  rw [zf.1, zf.2.1, zf.2.2] at R
  refine mg_MtN R ?_
  rintro w₀ Q₀ ⟨e₀, nw, se⟩
  exact ⟨by rw [e₀, zz], US₀ o z9 Q₀ nw se⟩
theorem ti_sort2 {D : mg_D} {l : Launch} (hl : l.stackTraces = false) {M : mg_M} {g₀ m₀ t₀ u₀ : Nat} {x₀ y₀ : Int} (I₀ : mh_INV M g₀ m₀ t₀ u₀) (hx : 0 ≤ x₀ ∧ x₀ < gi M t₀ 1) (h₀ : ∃ i₀ : Nat, (i₀ : Int) < gi M (t₀ + 3) 0 ∧ 1 < gi M (gr M (t₀ + 3 + 1) i₀) 2 ∧ gi M (gr M (t₀ + 3 + 1) i₀) 0 ≤ gi M t₀ 0 - 1 ∧ gi M t₀ 2 ≤ gi M (gr M (t₀ + 3 + 1) i₀) 0 + gi M (gr M (t₀ + 3 + 1) i₀) 2 - 1) : mh_opT D l 100 191 [.inl x₀, .inl y₀] M g₀ m₀ 4 2 := by
  have lt₀ : gi M t₀ 2 < gi M t₀ 0 := by
    obtain ⟨i₀, hi, h1, h2, h3⟩ := h₀
    have o := I₀.1.2.2.2.1.1.2.2.1 i₀ hi
    unfold mh_ok at o
    omega
  have h2 := I₀.1.2.2.2.2.2.2.1
  have td := @mh_td_m M g₀ m₀ t₀ u₀ (gi M t₀ 2) (gi M t₀ 0 - 1) I₀ (by omega)
  refine mh_opT_of (cX5_sort2 hl I₀.1 hx h₀) (fun P s₀ => ?_) I₀
  have IP := mh_INV_same I₀ s₀
  obtain ⟨v1₀, v2, v3⟩ := mh_same_v I₀ s₀
  have z₀ := I₀.2.2.2.1
  have e1₀ := v2 1 (by omega) (by omega)
  have e2₀ := v2 2 (by omega) (by omega)
  have e3₀ := v2 3 (by omega) (by omega)
  obtain ⟨st₀, rc, h4, si9, rts, hid₀, cnt₀, hco, hw, hh, hb₀, hd₀⟩ := mh_INV_m IP
  have eI : mi P (m₀ + 1) = mi M (m₀ + 1) := by funext p₀ q₀; exact v3 (m₀ + 1) (by omega) (by omega) _
  exact mg_MtN (cX6_sort2 hl st₀ rc (by omega) (by omega) (by
    have w₀ := td.1 h₀
    unfold mm_td at *
    rw [eI, e1₀, e2₀, e3₀]
    rw [z₀.1, z₀.2.1] at w₀
    rw [z₀.1, z₀.2.1, z₀.2.2]
    exact ⟨lt₀, w₀⟩)) (fun w₀ Q₀ h₀ => ⟨h₀.1, Or.inl h₀.2⟩)
