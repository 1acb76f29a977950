/-! paste tied₀ -/
/-- the block₀ there₀ is₀ -/
theorem mh_INV_bk {M : mg_M} {g₀ m₀ t₀ u₀ : Nat} {U₀ V : Int} (I₀ : mh_INV M g₀ m₀ t₀ u₀) (hU : gi M (g₀ + 261) 0 = U₀ ∧ gi M (g₀ + 261) 1 = V ∧ 1 ≤ U₀ ∧ 1 ≤ V) : (gi M m₀ 25 = U₀ ∧ gi M m₀ 26 = V ∧ gi M m₀ 27 = gi M (g₀ + 261 + 1) 0) ∧ ((1 ≤ U₀ ∧ U₀ ≤ 12) ∧ (1 ≤ V ∧ V ≤ 10)) ∧ mh_bl M (g₀ + 261 + 1) U₀ V ∧ (∀ p₀ q₀, mh_rg U₀ V p₀ q₀ → 0 ≤ mi M (m₀ + 13) p₀ q₀ ∧ mi M (m₀ + 13) p₀ q₀ < 120) ∧ (∀ p₀ q₀ p' q', mh_rg U₀ V p₀ q₀ → mh_rg U₀ V p' q' → (mi M (m₀ + 13) p₀ q₀ = mi M (m₀ + 13) p' q' ↔ ∃ i₀ : Nat, (i₀ : Int) < gi M (g₀ + 261 + 1) 0 ∧ mh_cb M (g₀ + 261 + 1) i₀ p₀ q₀ ∧ mh_cb M (g₀ + 261 + 1) i₀ p' q')) ∧ (∀ i₀ : Nat, (i₀ : Int) < gi M (g₀ + 261 + 1) 0 → ∀ p₀ q₀, mh_cb M (g₀ + 261 + 1) i₀ p₀ q₀ → gi M (m₀ + 14) (mi M (m₀ + 13) p₀ q₀).toNat = gi M (gr M (g₀ + 261 + 1 + 1) i₀) 4 ∧ gi M (m₀ + 15) (mi M (m₀ + 13) p₀ q₀).toNat = gi M (gr M (g₀ + 261 + 1 + 1) i₀) 5 ∧ 0 ≤ gi M (gr M (g₀ + 261 + 1 + 1) i₀) 4 ∧ gi M (gr M (g₀ + 261 + 1 + 1) i₀) 4 ≤ 999) := by
  rcases I₀.2.2.2.2.2.2.2.2 with b₀ | ⟨⟨b1, b2, b3⟩, b4, b5, b6, b7, b8⟩
  · exact absurd hU (by omega)
  · have u1₀ : gi M m₀ 25 = U₀ := by omega
    have u2₀ : gi M m₀ 26 = V := by omega
    rw [u1₀, u2₀] at b4 b5 b6 b7
    exact ⟨⟨u1₀, u2₀, b3⟩, b4, b5, b6, b7, b8⟩
theorem mh_blk_n {M : mg_M} {c₀ : Nat} {U₀ V : Int} (bl : mh_bl M c₀ U₀ V) (hU : 1 ≤ U₀ ∧ 1 ≤ V) : 0 < gi M c₀ 0 ∧ gi M c₀ 0 ≤ 120 := by
  obtain ⟨i₀, hi, _⟩ := bl.2.2.2 0 0 (by omega)
  have z₀ := bl.1.2.2.2.2.2.2.1
  omega
/-- where the header's border cuts₀ a₀ copy₀ -/
theorem mh_pt_m {M : mg_M} {g₀ m₀ t₀ u₀ : Nat} {r₀ x₀ U₀ V : Int} (I₀ : mh_INV M g₀ m₀ t₀ u₀) (hU : gi M (g₀ + 261) 0 = U₀ ∧ gi M (g₀ + 261) 1 = V ∧ 1 ≤ U₀ ∧ 1 ≤ V) (hr : 0 ≤ r₀) : mm_pt M m₀ r₀ x₀ ↔ ∃ i₀ : Int, (0 ≤ i₀ ∧ i₀ < x₀) ∧ ∃ j₀ : Nat, (j₀ : Int) < gi M (g₀ + 261 + 1) 0 ∧ gi M (gr M (g₀ + 261 + 1 + 1) j₀) 0 < gi M t₀ 2 - r₀ - i₀ * U₀ ∧ gi M t₀ 2 - r₀ - i₀ * U₀ ≤ gi M (gr M (g₀ + 261 + 1 + 1) j₀) 0 + gi M (gr M (g₀ + 261 + 1 + 1) j₀) 2 - 1 := by
  obtain ⟨⟨u1₀, u2₀, u3⟩, ub₀, bl, b6, b7, b8⟩ := mh_INV_bk I₀ hU
  have zf := I₀.2.2.2.1
  unfold mm_pt
  rw [u1₀, u2₀, zf.2.2]
  constructor
  · rintro ⟨k₀, ⟨k1₀, k2₀⟩, ⟨k3₀, k4₀⟩, c₀, hc₀, e₀⟩
    have m0₀ := Int.emod_lt_of_pos k₀ (show 0 < U₀ by omega)
    have md := Int.emod_add_mul_ediv k₀ U₀
    have d0₀ : 0 ≤ k₀ / U₀ := Int.ediv_nonneg (by omega) (by omega)
    have d1₀ : k₀ / U₀ < x₀ := Int.ediv_lt_of_lt_mul (by omega) (by rw [Int.mul_comm]; exact k2₀)
    obtain ⟨j₀, hj, w1₀, w2₀⟩ := (b7 _ _ _ _ (by omega) (by omega)).1 e₀
    unfold mh_cb at w1₀ w2₀
    have e9₀ : k₀ / U₀ * U₀ = U₀ * (k₀ / U₀) := Int.mul_comm _ _
    exact ⟨k₀ / U₀, ⟨d0₀, d1₀⟩, j₀, hj, by omega, by omega⟩
  · rintro ⟨i₀, ⟨i0₀, i1₀⟩, j₀, hj, w1₀, w2₀⟩
    have b₀ := bl.2.1 j₀ hj
    have mm := Int.mul_le_mul_of_nonneg_right (show i₀ + 1 ≤ x₀ by omega) (show 0 ≤ U₀ by omega)
    rw [Int.add_mul] at mm
    have e9₀ : i₀ * U₀ = U₀ * i₀ := Int.mul_comm _ _
    have e8 : x₀ * U₀ = U₀ * x₀ := Int.mul_comm _ _
    have e7₀ : 0 ≤ i₀ * U₀ := Int.mul_nonneg i0₀ (by omega)
    have em := ((@Int.ediv_emod_unique (gi M t₀ 2 - r₀) U₀ (gi M t₀ 2 - r₀ - i₀ * U₀) i₀ (by omega)).2 ⟨by omega, by omega, by omega⟩).2
    refine ⟨gi M t₀ 2 - r₀, ⟨by omega, by omega⟩, ⟨by omega, by rw [em]; omega⟩, gi M (gr M (g₀ + 261 + 1 + 1) j₀) 1, by omega, ?_⟩
    rw [em]
    exact (b7 _ _ _ _ ⟨by omega, by omega⟩ ⟨by omega, by omega⟩).2 ⟨j₀, hj, by unfold mh_cb; omega, by unfold mh_cb; omega⟩
theorem mh_opT_oS {D : mg_D} {l : Launch} {yc ym : Nat} {as₀ : List mg_V} {M : mg_M} {g₀ m₀ t₀ u₀ kind : Nat} {j₀ : Int} (c₀ : mg_Mt D l yc (.inr (.inl g₀) :: as₀) M mh_nN (mh_tS kind M g₀)) (r₀ : ∀ P, mh_same M P g₀ m₀ → mg_Mt D l ym (.inr (.inl m₀) :: as₀) P (fun w₀ Q₀ => w₀ = some (.inl 0) ∧ (Q₀ = si P m₀ 0 j₀ ∨ mm_th P Q₀ m₀ j₀ ∨ mm_ta P Q₀ m₀ j₀)) mg_no) (I₀ : mh_INV M g₀ m₀ t₀ u₀) : mh_opT D l yc ym as₀ M g₀ m₀ kind j₀ := by
  refine ⟨mg_MtX c₀ ?_, fun P s₀ => mg_MtN (r₀ P s₀) ?_⟩
  · rintro k₀ P ⟨rfl, M', n₀, fx, hn, rfl⟩
    exact ⟨rfl, ⟨fx.1, fx.2.1, fx.2.2.1, fun a₀ k₀ _ h2 _ => fx.2.2.2.2.2.2 a₀ k₀ h2⟩, fx.1, fx.2.1, fx.2.2.2.2.1, fx.2.2.2.2.2.1, fun a₀ k₀ w₀ => fx.2.2.2.2.2.2 a₀ k₀ (by omega)⟩
  · rintro w₀ Q₀ ⟨e₀, h₀⟩
    refine ⟨⟨0, e₀⟩, ?_⟩
    have IP := mh_INV_same I₀ s₀
    rcases h₀ with h₀ | h₀ | h₀
    · exact mh_INV_q IP h₀
    · exact mh_INV_th IP h₀
    · exact mh_INV_ta IP h₀
theorem ti_paste3 {D : mg_D} {l : Launch} (hl : l.stackTraces = false) {M : mg_M} {g₀ m₀ t₀ u₀ : Nat} {r₀ c₀ x₀ y₀ : Int} (I₀ : mh_INV M g₀ m₀ t₀ u₀) (h₀ : mh_rg (gi M t₀ 0) (gi M t₀ 1) r₀ c₀) (hx : (1 ≤ x₀ ∧ x₀ ≤ 4) ∧ (1 ≤ y₀ ∧ y₀ ≤ 4)) (hz : gi M (g₀ + 261) 0 = 0) : mh_opT D l 97 184 [.inl r₀, .inl c₀, .inl x₀, .inl y₀] M g₀ m₀ 2 3 := by
  have bk : gi M m₀ 25 = 0 ∧ gi M m₀ 26 = 0 ∧ gi M m₀ 27 = 0 := by
    rcases I₀.2.2.2.2.2.2.2.2 with b₀ | b₀
    · exact b₀.2
    · have := b₀.1.1
      have := b₀.2.1
      omega
  refine mh_opT_of (cX5_paste3 hl I₀.1 h₀ hx hz) (fun P s₀ => ?_) I₀
  have IP := mh_INV_same I₀ s₀
  obtain ⟨v1₀, v2, v3⟩ := mh_same_v I₀ s₀
  have z₀ := I₀.2.2.2.1
  have e1₀ := v2 1 (by omega) (by omega)
  have e2₀ := v2 2 (by omega) (by omega)
  have e3₀ := v2 3 (by omega) (by omega)
  obtain ⟨st₀, rc, h4, si9, rts, hid₀, cnt₀, hco, hw, hh, hb₀, hd₀⟩ := mh_INV_m IP
  have g25 := v2 25 (by omega) (by omega)
  have g26 := v2 26 (by omega) (by omega)
  have g27 := v2 27 (by omega) (by omega)
  exact mg_MtN (cX6_paste3 hl st₀ rc (by omega) hx (by omega) (Or.inl (by omega))) (fun w₀ Q₀ h₀ => ⟨h₀.1, Or.inr (Or.inl h₀.2)⟩)
theorem ti_paste3b {D : mg_D} {l : Launch} (hl : l.stackTraces = false) {M : mg_M} {g₀ m₀ t₀ u₀ : Nat} {r₀ c₀ x₀ y₀ U₀ V : Int} (I₀ : mh_INV M g₀ m₀ t₀ u₀) (h₀ : mh_rg (gi M t₀ 0) (gi M t₀ 1) r₀ c₀) (hx : (1 ≤ x₀ ∧ x₀ ≤ 4) ∧ (1 ≤ y₀ ∧ y₀ ≤ 4)) (hU : gi M (g₀ + 261) 0 = U₀ ∧ gi M (g₀ + 261) 1 = V ∧ 1 ≤ U₀ ∧ 1 ≤ V) (hf : ¬ (r₀ + x₀ * U₀ ≤ gi M t₀ 0 ∧ c₀ + y₀ * V ≤ gi M t₀ 1)) : mh_opT D l 97 184 [.inl r₀, .inl c₀, .inl x₀, .inl y₀] M g₀ m₀ 2 3 := by
  obtain ⟨⟨u1₀, u2₀, u3⟩, ub₀, bl, b6, b7, b8⟩ := mh_INV_bk I₀ hU
  refine mh_opT_oS (cX5_paste3b hl I₀.1 h₀ hx hU ⟨by omega, by omega⟩ hf) (fun P s₀ => ?_) I₀
  have IP := mh_INV_same I₀ s₀
  obtain ⟨v1₀, v2, v3⟩ := mh_same_v I₀ s₀
  have z₀ := I₀.2.2.2.1
  have e1₀ := v2 1 (by omega) (by omega)
  have e2₀ := v2 2 (by omega) (by omega)
  have e3₀ := v2 3 (by omega) (by omega)
  obtain ⟨st₀, rc, h4, si9, rts, hid₀, cnt₀, hco, hw, hh, hb₀, hd₀⟩ := mh_INV_m IP
  have g25 := v2 25 (by omega) (by omega)
  have g26 := v2 26 (by omega) (by omega)
  have g27 := v2 27 (by omega) (by omega)
  exact mg_MtN (cX6_paste3 hl st₀ rc (by omega) hx (by omega) (by rw [e1₀, e2₀, g25, g26, u1₀, u2₀, z₀.1, z₀.2.1]; exact Or.inr (by omega))) (fun w₀ Q₀ h₀ => ⟨h₀.1, Or.inr (Or.inl h₀.2)⟩)
theorem ti_paste4 {D : mg_D} {l : Launch} (hl : l.stackTraces = false) {M : mg_M} {g₀ m₀ t₀ u₀ : Nat} {r₀ c₀ x₀ y₀ U₀ V : Int} (I₀ : mh_INV M g₀ m₀ t₀ u₀) (h₀ : mh_rg (gi M t₀ 0) (gi M t₀ 1) r₀ c₀) (hx : (1 ≤ x₀ ∧ x₀ ≤ 4) ∧ (1 ≤ y₀ ∧ y₀ ≤ 4)) (hU : gi M (g₀ + 261) 0 = U₀ ∧ gi M (g₀ + 261) 1 = V ∧ 1 ≤ U₀ ∧ 1 ≤ V) (hf : r₀ + x₀ * U₀ ≤ gi M t₀ 0 ∧ c₀ + y₀ * V ≤ gi M t₀ 1) (hbad : ¬ mh_cc M t₀ r₀ (r₀ + x₀ * U₀ - 1) c₀ (c₀ + y₀ * V - 1) ∨ ∃ i₀ : Int, (0 ≤ i₀ ∧ i₀ < x₀) ∧ ∃ j₀ : Nat, (j₀ : Int) < gi M (g₀ + 261 + 1) 0 ∧ gi M (gr M (g₀ + 261 + 1 + 1) j₀) 0 < gi M t₀ 2 - r₀ - i₀ * U₀ ∧ gi M t₀ 2 - r₀ - i₀ * U₀ ≤ gi M (gr M (g₀ + 261 + 1 + 1) j₀) 0 + gi M (gr M (g₀ + 261 + 1 + 1) j₀) 2 - 1) : mh_opT D l 97 184 [.inl r₀, .inl c₀, .inl x₀, .inl y₀] M g₀ m₀ 4 4 := by
  obtain ⟨⟨u1₀, u2₀, u3⟩, ub₀, bl, b6, b7, b8⟩ := mh_INV_bk I₀ hU
  have bn := mh_blk_n bl ⟨by omega, by omega⟩
  have pt := @mh_pt_m M g₀ m₀ t₀ u₀ r₀ x₀ U₀ V I₀ hU (by omega)
  obtain ⟨tp, lf₀, hg, wd, rt, ch₀, ecl⟩ := mh_INV_ch I₀
  refine mh_opT_oS (cX5_paste4 hl I₀.1 h₀ hx hU bl hf hbad) (fun P s₀ => ?_) I₀
  have IP := mh_INV_same I₀ s₀
  obtain ⟨v1₀, v2, v3⟩ := mh_same_v I₀ s₀
  have z₀ := I₀.2.2.2.1
  have e1₀ := v2 1 (by omega) (by omega)
  have e2₀ := v2 2 (by omega) (by omega)
  have e3₀ := v2 3 (by omega) (by omega)
  obtain ⟨st₀, rc, h4, si9, rts, hid₀, cnt₀, hco, hw, hh, hb₀, hd₀⟩ := mh_INV_m IP
  have g25 := v2 25 (by omega) (by omega)
  have g26 := v2 26 (by omega) (by omega)
  have g27 := v2 27 (by omega) (by omega)
  have g3₀ := v2 3 (by omega) (by omega)
  have g4 := v2 4 (by omega) (by omega)
  have rtP : mm_RT P m₀ tp lf₀ hg wd := by
    intro k₀ k0₀ k1₀
    rw [g4] at k1₀
    exact mm_rect_f e1₀ e2₀ (fun j₀ => v3 (m₀ + 1) (by omega) (by omega) j₀) (rt k₀ k0₀ k1₀)
  have e13₀ : mi P (m₀ + 13) = mi M (m₀ + 13) := by funext p₀ q₀; exact v3 (m₀ + 13) (by omega) (by omega) _
  have hp : ¬ mm_cl (gi P m₀ 4) tp lf₀ hg wd r₀ (r₀ + x₀ * gi P m₀ 25 - 1) c₀ (c₀ + y₀ * gi P m₀ 26 - 1) ∨ mm_pt P m₀ r₀ x₀ := by
    rw [g4, ecl, g25, g26, u1₀, u2₀]
    unfold mm_pt at *
    rw [e13₀, g25, g26, g3₀]
    exact hbad.imp id pt.2
  have h9 : mh_rg (gi P m₀ 1) (gi P m₀ 2) r₀ c₀ := by rw [e1₀, e2₀, z₀.1, z₀.2.1]; exact h₀
  have hb9 : (1 ≤ gi P m₀ 25 ∧ gi P m₀ 25 ≤ 12) ∧ (1 ≤ gi P m₀ 26 ∧ gi P m₀ 26 ≤ 10) := by rw [g25, g26, u1₀, u2₀]; exact ub₀
  have hf9 : 0 < gi P m₀ 27 ∧ r₀ + x₀ * gi P m₀ 25 ≤ gi P m₀ 1 ∧ c₀ + y₀ * gi P m₀ 26 ≤ gi P m₀ 2 := by rw [e1₀, e2₀, g25, g26, g27, u1₀, u2₀, u3, z₀.1, z₀.2.1]; exact ⟨bn.1, hf⟩
  exact mg_MtN (cX6_paste4 hl st₀ rc h4 rtP h9 hx hb9 hf9 hp) (fun w₀ Q₀ h₀ => ⟨h₀.1, Or.inr (Or.inr h₀.2)⟩)
theorem mh_PST {D : mg_D} {l : Launch} (hl : l.stackTraces = false) {M : mg_M} {g₀ m₀ t₀ u₀ : Nat} {N1 N2 P : mg_M} {r₀ c₀ x₀ y₀ U₀ V : Int} {g0 g1 g2 g3₀ g4 g5₀ : Int → Int → Int} (I₀ : mh_INV M g₀ m₀ t₀ u₀) (h₀ : mh_rg (gi M t₀ 0) (gi M t₀ 1) r₀ c₀) (hx : (1 ≤ x₀ ∧ x₀ ≤ 4) ∧ (1 ≤ y₀ ∧ y₀ ≤ 4)) (hU : gi M (g₀ + 261) 0 = U₀ ∧ gi M (g₀ + 261) 1 = V ∧ 1 ≤ U₀ ∧ 1 ≤ V) (hf : r₀ + x₀ * U₀ ≤ gi M t₀ 0 ∧ c₀ + y₀ * V ≤ gi M t₀ 1) (hcc : mh_cc M t₀ r₀ (r₀ + x₀ * U₀ - 1) c₀ (c₀ + y₀ * V - 1)) (hpt : ¬ mm_pt M m₀ r₀ x₀) (hg : ∀ i₀ : Nat, (i₀ : Int) < gi M (g₀ + 261 + 1) 0 → ∀ u₀ v₀, mh_cb M (g₀ + 261 + 1) i₀ u₀ v₀ → (gi M (gr M (g₀ + 261 + 1 + 1) i₀) 0 = g0 u₀ v₀ ∧ gi M (gr M (g₀ + 261 + 1 + 1) i₀) 1 = g1 u₀ v₀ ∧ gi M (gr M (g₀ + 261 + 1 + 1) i₀) 2 = g2 u₀ v₀ ∧ gi M (gr M (g₀ + 261 + 1 + 1) i₀) 3 = g3₀ u₀ v₀) ∧ gi M (gr M (g₀ + 261 + 1 + 1) i₀) 4 = g4 u₀ v₀ ∧ gi M (gr M (g₀ + 261 + 1 + 1) i₀) 5 = g5₀ u₀ v₀) (r9 : mh_rmb M N1 g₀ t₀ u₀) (np : mh_np N1 N2 t₀ (gi N1 t₀ 0) (gi N1 t₀ 1) (gi N1 t₀ 2) (mh_u0 N1 t₀ r₀ (r₀ + x₀ * U₀ - 1) c₀ (c₀ + y₀ * V - 1) U₀ V g0) (mh_u1 N1 t₀ r₀ (r₀ + x₀ * U₀ - 1) c₀ (c₀ + y₀ * V - 1) U₀ V g1) (mh_u2 N1 t₀ 2 r₀ (r₀ + x₀ * U₀ - 1) c₀ (c₀ + y₀ * V - 1) U₀ V g2) (mh_u2 N1 t₀ 3 r₀ (r₀ + x₀ * U₀ - 1) c₀ (c₀ + y₀ * V - 1) U₀ V g3₀) (mh_u2 N1 t₀ 4 r₀ (r₀ + x₀ * U₀ - 1) c₀ (c₀ + y₀ * V - 1) U₀ V g4) (mh_u2 N1 t₀ 5 r₀ (r₀ + x₀ * U₀ - 1) c₀ (c₀ + y₀ * V - 1) U₀ V g5₀) (fun k₀ => gi N1 (t₀ + 2) k₀.toNat) (fun k₀ => gi N1 (t₀ + 1) k₀.toNat)) (hs : mh_hs N2 P t₀ (g₀ + 259) 0 0 0 0) : mh_far M P g₀ ∧ ∀ o z9, mg_Mt D l 184 [.inr (.inl m₀), .inl r₀, .inl c₀, .inl x₀, .inl y₀] (sl P o 0 z9) (fun w₀ Q₀ => w₀ = some (.inl (x₀ * y₀ * gi M m₀ 27)) ∧ gi Q₀ m₀ 0 = 0 ∧ mh_far (sl P o 0 z9) Q₀ g₀ ∧ ∃ t₀ u₀, mh_INV Q₀ g₀ m₀ t₀ u₀) mg_no := by
  obtain ⟨st₀, rc, h4, si9, rts, hid₀, cnt₀, hco, hw, hh, hb₀, hd₀⟩ := mh_INV_m I₀
  have K9 := I₀.1
  have V9 := I₀.2.1
  have zf := I₀.2.2.2.1
  have sq := I₀.2.2.2.2.1
  have pm := I₀.2.2.1.2
  have pl := I₀.1.2.2.1
  have bb := K9.2.2.2.1.1.1.2.2
  obtain ⟨tl, nb⟩ := K9.2.2.2.1
  obtain ⟨⟨u1₀, u2₀, u3⟩, ub₀, bl, b6, b7, b8⟩ := mh_INV_bk I₀ hU
  have bn := mh_blk_n bl ⟨by omega, by omega⟩
  obtain ⟨tp, lf₀, hg9, wd, rt, ch₀, ecl⟩ := mh_INV_ch I₀
  obtain ⟨K1, E1₀, FR, h21⟩ := mh_rmb_K K9 r9
  have v0₀ := (E1₀ t₀ (by omega) (by omega)).2.2.2
  have v1₀ := (E1₀ (t₀ + 1) (by omega) (by omega)).2.2.2
  have v2 := (E1₀ (t₀ + 2) (by omega) (by omega)).2.2.2
  obtain ⟨fw, tn₀, sz₀, hsq, hwd, hht⟩ := np
  rw [v0₀, v0₀, v0₀] at sz₀
  rw [v0₀, v0₀] at hsq
  rw [v0₀] at hwd hht
  have sq' := sq
  obtain ⟨q1₀, q2₀, q3₀, q4₀, q5₀⟩ := sq
  have hB₀ : mm_brs M m₀ g0 g1 g2 g3₀ := by
    unfold mm_brs
    rw [u1₀, u2₀]
    intro p₀ q₀ a₀
    obtain ⟨i₀, hi, w₀⟩ := bl.2.2.2 p₀ q₀ a₀
    have b₀ := bl.2.1 i₀ hi
    obtain ⟨⟨x0₀, x1₀, x2₀, x3⟩, x4₀, x5₀⟩ := hg i₀ hi p₀ q₀ w₀
    unfold mh_rcJ
    rw [← x0₀, ← x1₀, ← x2₀, ← x3]
    refine ⟨b₀.1, b₀.2, fun p' q' a1₀ a2 => ?_⟩
    have e₀ := b7 p' q' p₀ q₀ ⟨a1₀, a2⟩ a₀
    refine e₀.trans ⟨?_, fun w' => ⟨i₀, hi, w', w₀⟩⟩
    rintro ⟨j₀, hj, w1₀, w2₀⟩
    have ij := bl.2.2.1 i₀ j₀ hi hj p₀ q₀ w₀ w2₀
    rw [← ij] at w1₀
    exact w1₀
  have hcut : ∀ r' c', mh_rg (gi M m₀ 1) (gi M m₀ 2) r' c' → mh_mt r₀ (r₀ + x₀ * U₀ - 1) c₀ (c₀ + y₀ * V - 1) (mh_fT M t₀ 0 r' c') (mh_fT M t₀ 1 r' c') (mh_fT M t₀ 2 r' c') (mh_fT M t₀ 3 r' c') → mh_wn r₀ (r₀ + x₀ * U₀ - 1) c₀ (c₀ + y₀ * V - 1) (mh_fT M t₀ 0 r' c') (mh_fT M t₀ 1 r' c') (mh_fT M t₀ 2 r' c') (mh_fT M t₀ 3 r' c') := fun r' c' a₀ => by
    obtain ⟨i₀, hi, i1₀, w₀, e₀, ec⟩ := mh_sqc tl nb (p₀ := r') (q₀ := c') (by rw [zf.1, zf.2.1] at a₀; exact a₀)
    unfold mh_fT
    rw [ec]
    exact hcc i₀ hi
  have lpk := fun (k₀ k' : Nat) (p₀ q₀ : Int) (a₀ : mh_rg (gi M m₀ 1) (gi M m₀ 2) p₀ q₀) => @mi_lpk M m₀ k₀ k' r₀ (r₀ + x₀ * U₀ - 1) c₀ (c₀ + y₀ * V - 1) x₀ y₀ (mh_fT M t₀ 0) (mh_fT M t₀ 1) (mh_fT M t₀ 2) (mh_fT M t₀ 3) g0 g1 g2 g3₀ p₀ q₀ rc (by rw [u1₀, u2₀]; exact ub₀) (by omega) (by omega) (by rw [u1₀]) (by rw [u2₀]) rts hcut hB₀ a₀
  rw [u1₀, u2₀] at lpk
  have hsq' : ∀ p₀ q₀, mh_rg (gi M t₀ 0) (gi M t₀ 1) p₀ q₀ → (gi N2 (mh_co N2 t₀ p₀ q₀) 0 = mh_u0 M t₀ r₀ (r₀ + x₀ * U₀ - 1) c₀ (c₀ + y₀ * V - 1) U₀ V g0 p₀ q₀ ∧ gi N2 (mh_co N2 t₀ p₀ q₀) 1 = mh_u1 M t₀ r₀ (r₀ + x₀ * U₀ - 1) c₀ (c₀ + y₀ * V - 1) U₀ V g1 p₀ q₀) ∧ gi N2 (mh_co N2 t₀ p₀ q₀) 4 = mh_u2 M t₀ 4 r₀ (r₀ + x₀ * U₀ - 1) c₀ (c₀ + y₀ * V - 1) U₀ V g4 p₀ q₀ ∧ gi N2 (mh_co N2 t₀ p₀ q₀) 5 = mh_u2 M t₀ 5 r₀ (r₀ + x₀ * U₀ - 1) c₀ (c₀ + y₀ * V - 1) U₀ V g5₀ p₀ q₀ := fun p₀ q₀ a₀ => by
    have w₀ := hsq p₀ q₀ a₀
    unfold mh_u0 mh_u1 mh_u2 at *
    rw [mh_eq_co E1₀, mh_rm_ct K9 r9 a₀ 0, mh_rm_ct K9 r9 a₀ 1, mh_rm_ct K9 r9 a₀ 4, mh_rm_ct K9 r9 a₀ 5] at w₀
    exact ⟨⟨w₀.1.1, w₀.1.2.1⟩, w₀.2⟩
  have eJ : ∀ p₀ q₀, mh_rg (gi M t₀ 0) (gi M t₀ 1) p₀ q₀ → mi_lp r₀ (r₀ + x₀ * U₀ - 1) c₀ (c₀ + y₀ * V - 1) U₀ V (mh_fT M t₀ 0) (mh_fT M t₀ 1) g0 g1 p₀ q₀ = 10 * mh_u0 M t₀ r₀ (r₀ + x₀ * U₀ - 1) c₀ (c₀ + y₀ * V - 1) U₀ V g0 p₀ q₀ + mh_u1 M t₀ r₀ (r₀ + x₀ * U₀ - 1) c₀ (c₀ + y₀ * V - 1) U₀ V g1 p₀ q₀ := fun p₀ q₀ a₀ => by
    unfold mi_lp mh_u0 mh_u1
    by_cases z₀ : mh_iR r₀ (r₀ + x₀ * U₀ - 1) c₀ (c₀ + y₀ * V - 1) p₀ q₀
    · rw [if_pos z₀, if_pos z₀, if_pos (by omega)]
    · rw [if_neg z₀, if_neg z₀, if_neg (by omega)]
      rfl
  have hC : ∀ p₀ q₀, mh_rg (gi M t₀ 0) (gi M t₀ 1) p₀ q₀ → (gi N2 (mh_co N2 t₀ p₀ q₀) 4 = mi_lc M m₀ (m₀ + 2) (m₀ + 14) r₀ (r₀ + x₀ * U₀ - 1) c₀ (c₀ + y₀ * V - 1) U₀ V (mi_lp r₀ (r₀ + x₀ * U₀ - 1) c₀ (c₀ + y₀ * V - 1) U₀ V (mh_fT M t₀ 0) (mh_fT M t₀ 1) g0 g1 p₀ q₀) ∧ gi N2 (mh_co N2 t₀ p₀ q₀) 5 = mi_lc M m₀ (m₀ + 3) (m₀ + 15) r₀ (r₀ + x₀ * U₀ - 1) c₀ (c₀ + y₀ * V - 1) U₀ V (mi_lp r₀ (r₀ + x₀ * U₀ - 1) c₀ (c₀ + y₀ * V - 1) U₀ V (mh_fT M t₀ 0) (mh_fT M t₀ 1) g0 g1 p₀ q₀)) ∧ 0 ≤ mi_lc M m₀ (m₀ + 2) (m₀ + 14) r₀ (r₀ + x₀ * U₀ - 1) c₀ (c₀ + y₀ * V - 1) U₀ V (mi_lp r₀ (r₀ + x₀ * U₀ - 1) c₀ (c₀ + y₀ * V - 1) U₀ V (mh_fT M t₀ 0) (mh_fT M t₀ 1) g0 g1 p₀ q₀) ∧ mi_lc M m₀ (m₀ + 2) (m₀ + 14) r₀ (r₀ + x₀ * U₀ - 1) c₀ (c₀ + y₀ * V - 1) U₀ V (mi_lp r₀ (r₀ + x₀ * U₀ - 1) c₀ (c₀ + y₀ * V - 1) U₀ V (mh_fT M t₀ 0) (mh_fT M t₀ 1) g0 g1 p₀ q₀) ≤ 999 := fun p₀ q₀ a₀ => by
    have w₀ := (hsq' p₀ q₀ a₀).2
    have a' : mh_rg (gi M m₀ 1) (gi M m₀ 2) p₀ q₀ := by rw [zf.1, zf.2.1]; exact a₀
    have l1 := (lpk (m₀ + 2) (m₀ + 14) p₀ q₀ a').2
    have l2 := (lpk (m₀ + 3) (m₀ + 15) p₀ q₀ a').2
    unfold mh_u2 at w₀
    by_cases z₀ : mh_iR r₀ (r₀ + x₀ * U₀ - 1) c₀ (c₀ + y₀ * V - 1) p₀ q₀
    · have z' : mh_inA r₀ (r₀ + x₀ * U₀ - 1) c₀ (c₀ + y₀ * V - 1) p₀ q₀ := by omega
      rw [if_pos z₀, if_pos z₀] at w₀
      rw [l1.1 z', l2.1 z']
      have m0₀ : 0 ≤ (p₀ - r₀) % U₀ ∧ (p₀ - r₀) % U₀ < U₀ := ⟨Int.emod_nonneg _ (by omega), Int.emod_lt_of_pos _ (by omega)⟩
      have m1₀ : 0 ≤ (q₀ - c₀) % V ∧ (q₀ - c₀) % V < V := ⟨Int.emod_nonneg _ (by omega), Int.emod_lt_of_pos _ (by omega)⟩
      obtain ⟨i₀, hi, wi⟩ := bl.2.2.2 _ _ ⟨m0₀, m1₀⟩
      obtain ⟨y1, y2, y3⟩ := b8 i₀ hi _ _ wi
      obtain ⟨_, x4₀, x5₀⟩ := hg i₀ hi _ _ wi
      rw [y1, y2]
      exact ⟨⟨w₀.1.trans x4₀.symm, w₀.2.trans x5₀.symm⟩, y3⟩
    · have z' : ¬ mh_inA r₀ (r₀ + x₀ * U₀ - 1) c₀ (c₀ + y₀ * V - 1) p₀ q₀ := by omega
      rw [if_neg z₀, if_neg z₀] at w₀
      rw [l1.2 z', l2.2 z']
      have y2 : gi M (m₀ + 2) (mi M (m₀ + 1) p₀ q₀).toNat = gi M (mh_co M t₀ p₀ q₀) 4 ∧ gi M (m₀ + 3) (mi M (m₀ + 1) p₀ q₀).toNat = gi M (mh_co M t₀ p₀ q₀) 5 := q3₀ p₀ q₀ a₀
      rw [y2.1, y2.2]
      exact ⟨w₀, mh_V_sq V9 tl nb a₀⟩
  have hW : ∀ k₀, 0 ≤ k₀ → k₀ < gi M t₀ 1 → gi N2 (t₀ + 2) k₀.toNat = gi M (m₀ + 4) k₀.toNat ∧ 10 ≤ gi M (m₀ + 4) k₀.toNat ∧ gi M (m₀ + 4) k₀.toNat ≤ 200 := by
    intro k₀ k0₀ k1₀
    have w₀ : gi N2 (t₀ + 2) k₀.toNat = gi M (t₀ + 2) k₀.toNat := (hwd k₀ k0₀ k1₀).trans (v2 _)
    have y' : gi M (m₀ + 4) k₀.toNat = gi M (t₀ + 2) k₀.toNat := q4₀ k₀ k0₀ k1₀
    have v₀ := V9.2.1 k₀.toNat (by omega)
    rw [y']
    exact ⟨w₀, v₀⟩
  have hH : ∀ k₀, 0 ≤ k₀ → k₀ < gi M t₀ 0 → gi N2 (t₀ + 1) k₀.toNat = gi M (m₀ + 5) k₀.toNat ∧ 5 ≤ gi M (m₀ + 5) k₀.toNat ∧ gi M (m₀ + 5) k₀.toNat ≤ 100 := by
    intro k₀ k0₀ k1₀
    have w₀ : gi N2 (t₀ + 1) k₀.toNat = gi M (t₀ + 1) k₀.toNat := (hht k₀ k0₀ k1₀).trans (v1₀ _)
    have y' : gi M (m₀ + 5) k₀.toNat = gi M (t₀ + 1) k₀.toNat := q5₀ k₀ k0₀ k1₀
    have v₀ := V9.2.2 k₀.toNat (by omega)
    rw [y']
    exact ⟨w₀, v₀⟩
  obtain ⟨til, cm, stP, far₀, cu, US₀⟩ := mh_UPS (J₀ := mi_lp r₀ (r₀ + x₀ * U₀ - 1) c₀ (c₀ + y₀ * V - 1) U₀ V (mh_fT M t₀ 0) (mh_fT M t₀ 1) g0 g1) (cn := mi_lc M m₀ (m₀ + 2) (m₀ + 14) r₀ (r₀ + x₀ * U₀ - 1) c₀ (c₀ + y₀ * V - 1) U₀ V) (sy := mi_lc M m₀ (m₀ + 3) (m₀ + 15) r₀ (r₀ + x₀ * U₀ - 1) c₀ (c₀ + y₀ * V - 1) U₀ V) (wd := fun k₀ => gi M (m₀ + 4) k₀.toNat) (ht := fun k₀ => gi M (m₀ + 5) k₀.toNat) I₀ r9 (mh_chg_fw fw) (fun a₀ k₀ a1₀ a2 => (fw.2.2.2.2.2.2 a₀ k₀).resolve_left (by omega)) (mh_far_fw fw (by omega)) tn₀ hs sz₀ (by omega) (fun p₀ q₀ p' q' a₀ b₀ => (mh_npJ tn₀.1 tn₀.2 sz₀.1 sz₀.2.1 (fun p₀ q₀ a₀ => (hsq' p₀ q₀ a₀).1) p₀ q₀ p' q' a₀ b₀).trans (by rw [eJ p₀ q₀ a₀, eJ p' q' b₀])) hC hW hH
  refine ⟨far₀, fun o z9 => ?_⟩
  have e0₀ : ∀ k₀, gi (sl P o 0 z9) m₀ k₀ = gi M m₀ k₀ := fun k₀ => cm m₀ k₀ (by omega) (by omega)
  have e1₀ : ∀ k₀, gi (sl P o 0 z9) (m₀ + 1) k₀ = gi M (m₀ + 1) k₀ := fun k₀ => cm (m₀ + 1) k₀ (by omega) (by omega)
  have e2₀ : ∀ k₀, gi (sl P o 0 z9) (m₀ + 2) k₀ = gi M (m₀ + 2) k₀ := fun k₀ => cm (m₀ + 2) k₀ (by omega) (by omega)
  have e3₀ : ∀ k₀, gi (sl P o 0 z9) (m₀ + 3) k₀ = gi M (m₀ + 3) k₀ := fun k₀ => cm (m₀ + 3) k₀ (by omega) (by omega)
  have e4₀ : ∀ k₀, gi (sl P o 0 z9) (m₀ + 4) k₀ = gi M (m₀ + 4) k₀ := fun k₀ => cm (m₀ + 4) k₀ (by omega) (by omega)
  have e5₀ : ∀ k₀, gi (sl P o 0 z9) (m₀ + 5) k₀ = gi M (m₀ + 5) k₀ := fun k₀ => cm (m₀ + 5) k₀ (by omega) (by omega)
  have eF : mi (sl P o 0 z9) (m₀ + 1) = mi M (m₀ + 1) := by funext p₀ q₀; exact e1₀ _
  have e13₀ : ∀ k₀, gi (sl P o 0 z9) (m₀ + 13) k₀ = gi M (m₀ + 13) k₀ := fun k₀ => cm (m₀ + 13) k₀ (by omega) (by omega)
  have e14₀ : ∀ k₀, gi (sl P o 0 z9) (m₀ + 14) k₀ = gi M (m₀ + 14) k₀ := fun k₀ => cm (m₀ + 14) k₀ (by omega) (by omega)
  have e15₀ : ∀ k₀, gi (sl P o 0 z9) (m₀ + 15) k₀ = gi M (m₀ + 15) k₀ := fun k₀ => cm (m₀ + 15) k₀ (by omega) (by omega)
  have eB : mi (sl P o 0 z9) (m₀ + 13) = mi M (m₀ + 13) := by funext p₀ q₀; exact e13₀ _
  have eC₀ : mi_lc (sl P o 0 z9) m₀ (m₀ + 2) (m₀ + 14) = mi_lc M m₀ (m₀ + 2) (m₀ + 14) := by funext x1₀ x2₀ x3 x4₀ x5₀ x6 x7; unfold mi_lc; rw [eB, e14₀, e2₀, e1₀]
  have eS : mi_lc (sl P o 0 z9) m₀ (m₀ + 3) (m₀ + 15) = mi_lc M m₀ (m₀ + 3) (m₀ + 15) := by funext x1₀ x2₀ x3 x4₀ x5₀ x6 x7; unfold mi_lc; rw [eB, e15₀, e3₀, e1₀]
  have ePT : mm_pt (sl P o 0 z9) m₀ r₀ x₀ = mm_pt M m₀ r₀ x₀ := by unfold mm_pt; rw [eB, e0₀, e0₀, e0₀]
  have R := @cX6_paste0 D l hl (sl P o 0 z9) m₀ r₀ c₀ x₀ y₀ tp lf₀ hg9 wd stP (by unfold mm_rc; rw [e0₀, e0₀]; omega) (by rw [e0₀]; exact h4) (fun k₀ k0₀ k1₀ => by
    rw [e0₀] at k1₀
    exact mm_rect_f (e0₀ 1) (e0₀ 2) e1₀ (rt k₀ k0₀ k1₀)) (by rw [e0₀, e0₀, zf.1, zf.2.1]; exact h₀) hx (by rw [e0₀, e0₀, u1₀, u2₀]; exact ub₀) (by rw [e0₀, e0₀, e0₀, e0₀, e0₀, u1₀, u2₀, u3, zf.1, zf.2.1]; exact ⟨bn.1, hf⟩) (by rw [e0₀, e0₀, e0₀, u1₀, u2₀, ecl]; exact hcc) (by rw [ePT]; exact hpt) (mh_fT M t₀ 0) (mh_fT M t₀ 1) (mh_fT M t₀ 2) (mh_fT M t₀ 3) g0 g1 g2 g3₀ (mh_fT P t₀ 0) (mh_fT P t₀ 1) (mh_fT P t₀ 2) (mh_fT P t₀ 3) (fun p₀ q₀ a₀ => by rw [e0₀, e0₀] at a₀; rw [eF]; exact mm_rect_f (e0₀ 1) (e0₀ 2) e1₀ (rts p₀ q₀ a₀)) (by rw [e0₀, e0₀, e0₀, ecl, zf.1, zf.2.1]; exact (mh_cc_cq tl nb).symm) (by unfold mm_brs at *; rw [e0₀, e0₀, eB]; exact hB₀) (by rw [e0₀, u3]; exact bn.2) (by rw [e0₀, e0₀]; omega) (fun r₀ c₀ a₀ => by rw [e0₀, e0₀] at a₀; simp only [mi, e1₀]; exact hid₀ r₀ c₀ a₀) (fun p₀ q₀ a₀ => by rw [e0₀, e0₀, u1₀, u2₀] at a₀; rw [eB]; exact b6 p₀ q₀ a₀) (by rw [e0₀, e0₀, e0₀, e0₀, u1₀, u2₀, zf.1, zf.2.1]; exact til)
  rw [eC₀, eS] at R
  simp only [e0₀, e4₀, e5₀] at R
  rw [zf.1, zf.2.1, zf.2.2, u1₀, u2₀] at R
  refine mg_MtN R ?_
  rintro w₀ Q₀ ⟨e₀, nw, se⟩
  exact ⟨e₀, (US₀ o z9 Q₀ nw se).2⟩
theorem ti_paste0 {D : mg_D} {l : Launch} (hl : l.stackTraces = false) {M : mg_M} {g₀ m₀ t₀ u₀ : Nat} {r₀ c₀ x₀ y₀ U₀ V : Int} (I₀ : mh_INV M g₀ m₀ t₀ u₀) (h₀ : mh_rg (gi M t₀ 0) (gi M t₀ 1) r₀ c₀) (hx : (1 ≤ x₀ ∧ x₀ ≤ 4) ∧ (1 ≤ y₀ ∧ y₀ ≤ 4)) (hU : gi M (g₀ + 261) 0 = U₀ ∧ gi M (g₀ + 261) 1 = V ∧ 1 ≤ U₀ ∧ 1 ≤ V) (hf : r₀ + x₀ * U₀ ≤ gi M t₀ 0 ∧ c₀ + y₀ * V ≤ gi M t₀ 1) (hcc : mh_cc M t₀ r₀ (r₀ + x₀ * U₀ - 1) c₀ (c₀ + y₀ * V - 1)) (hac : ¬ ∃ i₀ : Int, (0 ≤ i₀ ∧ i₀ < x₀) ∧ ∃ j₀ : Nat, (j₀ : Int) < gi M (g₀ + 261 + 1) 0 ∧ gi M (gr M (g₀ + 261 + 1 + 1) j₀) 0 < gi M t₀ 2 - r₀ - i₀ * U₀ ∧ gi M t₀ 2 - r₀ - i₀ * U₀ ≤ gi M (gr M (g₀ + 261 + 1 + 1) j₀) 0 + gi M (gr M (g₀ + 261 + 1 + 1) j₀) 2 - 1) : mh_opN D l 97 184 [.inl r₀, .inl c₀, .inl x₀, .inl y₀] M g₀ m₀ := by
  obtain ⟨⟨u1₀, u2₀, u3⟩, ub₀, bl, b6, b7, b8⟩ := mh_INV_bk I₀ hU
  have pm := I₀.2.2.1.2
  have pl := I₀.1.2.2.1
  have pt := @mh_pt_m M g₀ m₀ t₀ u₀ r₀ x₀ U₀ V I₀ hU (by omega)
  have ex₀ : ∀ p₀ : Int × Int, ∃ i₀ : Nat, mh_rg U₀ V p₀.1 p₀.2 → (i₀ : Int) < gi M (g₀ + 261 + 1) 0 ∧ mh_cb M (g₀ + 261 + 1) i₀ p₀.1 p₀.2 := fun p₀ => by
    by_cases z₀ : mh_rg U₀ V p₀.1 p₀.2
    · obtain ⟨i₀, hi, w₀⟩ := bl.2.2.2 _ _ z₀
      exact ⟨i₀, fun _ => ⟨hi, w₀⟩⟩
    · exact ⟨0, fun w₀ => absurd w₀ z₀⟩
  obtain ⟨J₀, hJ⟩ := Classical.axiomOfChoice ex₀
  have hg : ∀ i₀ : Nat, (i₀ : Int) < gi M (g₀ + 261 + 1) 0 → ∀ u₀ v₀, mh_cb M (g₀ + 261 + 1) i₀ u₀ v₀ → i₀ = J₀ (u₀, v₀) := fun i₀ hi u₀ v₀ w₀ => by
    have b₀ := bl.2.1 i₀ hi
    have a₀ : mh_rg U₀ V u₀ v₀ := by unfold mh_cb at w₀; omega
    have x₀ := hJ (u₀, v₀) a₀
    exact bl.2.2.1 i₀ _ hi x₀.1 u₀ v₀ w₀ x₀.2
  refine ⟨fun z₀ P => z₀ = gi M (g₀ + 261 + 1) 0 * x₀ * y₀ ∧ ∃ N1 N2, mh_rmb (mg_put4 M (g₀ + 260) r₀ c₀ (r₀ + x₀ * U₀ - 1) (c₀ + y₀ * V - 1)) N1 g₀ t₀ u₀ ∧ mh_np N1 N2 t₀ (gi N1 t₀ 0) (gi N1 t₀ 1) (gi N1 t₀ 2) (mh_u0 N1 t₀ r₀ (r₀ + x₀ * U₀ - 1) c₀ (c₀ + y₀ * V - 1) U₀ V (fun p₀ q₀ => gi M (gr M (g₀ + 261 + 1 + 1) (J₀ (p₀, q₀))) 0)) (mh_u1 N1 t₀ r₀ (r₀ + x₀ * U₀ - 1) c₀ (c₀ + y₀ * V - 1) U₀ V (fun p₀ q₀ => gi M (gr M (g₀ + 261 + 1 + 1) (J₀ (p₀, q₀))) 1)) (mh_u2 N1 t₀ 2 r₀ (r₀ + x₀ * U₀ - 1) c₀ (c₀ + y₀ * V - 1) U₀ V (fun p₀ q₀ => gi M (gr M (g₀ + 261 + 1 + 1) (J₀ (p₀, q₀))) 2)) (mh_u2 N1 t₀ 3 r₀ (r₀ + x₀ * U₀ - 1) c₀ (c₀ + y₀ * V - 1) U₀ V (fun p₀ q₀ => gi M (gr M (g₀ + 261 + 1 + 1) (J₀ (p₀, q₀))) 3)) (mh_u2 N1 t₀ 4 r₀ (r₀ + x₀ * U₀ - 1) c₀ (c₀ + y₀ * V - 1) U₀ V (fun p₀ q₀ => gi M (gr M (g₀ + 261 + 1 + 1) (J₀ (p₀, q₀))) 4)) (mh_u2 N1 t₀ 5 r₀ (r₀ + x₀ * U₀ - 1) c₀ (c₀ + y₀ * V - 1) U₀ V (fun p₀ q₀ => gi M (gr M (g₀ + 261 + 1 + 1) (J₀ (p₀, q₀))) 5)) (fun k₀ => gi N1 (t₀ + 2) k₀.toNat) (fun k₀ => gi N1 (t₀ + 1) k₀.toNat) ∧ mh_hs N2 P t₀ (g₀ + 259) 0 0 0 0, mg_MtN (cX5_paste0 hl I₀.1 h₀ hx hU bl hf hcc hac (fun i₀ hi u₀ v₀ w₀ => by
    have e₀ := hg i₀ hi u₀ v₀ w₀
    rw [← e₀]
    exact ⟨⟨rfl, rfl, rfl, rfl⟩, rfl, rfl⟩)) (fun v₀ P h₀ => ⟨_, h₀.1, rfl, h₀.2⟩), ?_⟩
  rintro z9 P ⟨hz, N1, N2, r9, np, hs⟩
  obtain ⟨Y, hY⟩ : ∃ Y, Y = (mg_put4 M (g₀ + 260) r₀ c₀ (r₀ + x₀ * U₀ - 1) (c₀ + y₀ * V - 1)) := ⟨_, rfl⟩
  rw [← hY] at r9
  have fY : ∀ a₀ k₀, a₀ ≠ g₀ + 260 → gi Y a₀ k₀ = gi M a₀ k₀ := fun a₀ k₀ w₀ => by
    rw [hY]
    unfold mg_put4
    rw [gi_si, if_neg (fun x₀ => w₀ x₀.1), gi_si, if_neg (fun x₀ => w₀ x₀.1), gi_si, if_neg (fun x₀ => w₀ x₀.1), gi_si, if_neg (fun x₀ => w₀ x₀.1)]
  have kY : ∀ a₀, kd Y a₀ = kd M a₀ := fun a₀ => by rw [hY]; rfl
  have lY : ∀ a₀, ln Y a₀ = ln M a₀ := fun a₀ => by rw [hY]; rfl
  have rY : ∀ a₀ k₀, gr Y a₀ k₀ = gr M a₀ k₀ := fun a₀ k₀ => by rw [hY]; rfl
  have glY : ∀ a₀ k₀, gl Y a₀ k₀ = gl M a₀ k₀ := fun a₀ k₀ => by rw [hY]; rfl
  have gdY : ∀ a₀ k₀, gd Y a₀ k₀ = gd M a₀ k₀ := fun a₀ k₀ => by rw [hY]; rfl
  clear hY
  have s9 : mh_same M Y g₀ m₀ := ⟨kY, lY, rY, fun a₀ k₀ _ w₀ _ => fY a₀ k₀ w₀⟩
  have I2₀ := mh_INV_same I₀ s9
  have eT : mh_eq M Y t₀ := fun a₀ h1 h2 => ⟨kY a₀, lY a₀, fun k₀ => rY a₀ k₀, fun k₀ => fY a₀ k₀ (by omega)⟩
  obtain ⟨y1, y2, y3, y4⟩ := mh_bl_lo bl (fun a₀ h1 h2 => ⟨kY a₀, lY a₀, fun k₀ => rY a₀ k₀, fun k₀ => fY a₀ k₀ (by omega)⟩)
  have t0₀ : ∀ k₀, gi Y t₀ k₀ = gi M t₀ k₀ := fun k₀ => fY t₀ k₀ (by omega)
  have m0₀ : ∀ k₀, gi Y m₀ k₀ = gi M m₀ k₀ := fun k₀ => fY m₀ k₀ (by omega)
  have eB : mi Y (m₀ + 13) = mi M (m₀ + 13) := by funext p₀ q₀; exact fY (m₀ + 13) _ (by omega)
  obtain ⟨far₀, R⟩ := @mh_PST D l hl Y g₀ m₀ t₀ u₀ N1 N2 P r₀ c₀ x₀ y₀ U₀ V (fun p₀ q₀ => gi M (gr M (g₀ + 261 + 1 + 1) (J₀ (p₀, q₀))) 0) (fun p₀ q₀ => gi M (gr M (g₀ + 261 + 1 + 1) (J₀ (p₀, q₀))) 1) (fun p₀ q₀ => gi M (gr M (g₀ + 261 + 1 + 1) (J₀ (p₀, q₀))) 2) (fun p₀ q₀ => gi M (gr M (g₀ + 261 + 1 + 1) (J₀ (p₀, q₀))) 3) (fun p₀ q₀ => gi M (gr M (g₀ + 261 + 1 + 1) (J₀ (p₀, q₀))) 4) (fun p₀ q₀ => gi M (gr M (g₀ + 261 + 1 + 1) (J₀ (p₀, q₀))) 5) I2₀ (by rw [t0₀, t0₀]; exact h₀) hx (by rw [fY _ _ (by omega), fY _ _ (by omega)]; exact hU) (by rw [t0₀, t0₀]; exact hf) (by rw [mh_cc_eq eT I₀.1.2.2.2.1.1.2.1]; exact hcc) (by
    intro w₀
    refine hac (pt.1 ?_)
    unfold mm_pt at *
    rw [eB, m0₀, m0₀, m0₀] at w₀
    exact w₀) (fun i₀ hi u₀ v₀ w₀ => by
    rw [y2] at hi
    have e₀ := hg i₀ hi u₀ v₀ ((y4 i₀ hi u₀ v₀).1 w₀)
    obtain ⟨d1₀, d2₀⟩ := y3 i₀ hi
    rw [d1₀]
    simp only [d2₀, ← e₀, and_self]) r9 np hs
  refine ⟨mh_far_tr (show mh_far M Y g₀ from ⟨kY, lY, glY, gdY, fun a₀ k₀ w₀ => fY a₀ k₀ (by omega)⟩) far₀, fun o => mg_MtN (R o z9) ?_⟩
  rintro w₀ Q₀ ⟨e₀, rest₀⟩
  exact ⟨by rw [e₀, m0₀, u3, hz, show x₀ * y₀ * gi M (g₀ + 261 + 1) 0 = gi M (g₀ + 261 + 1) 0 * x₀ * y₀ by rw [Int.mul_assoc (gi M (g₀ + 261 + 1) 0), Int.mul_comm (gi M (g₀ + 261 + 1) 0)]], rest₀⟩
