/-! MergeGrid.paste -/
theorem mh_bl_lo {M N : mg_M} {c₀ : Nat} {U₀ V : Int} (h₀ : mh_bl M c₀ U₀ V) (e₀ : ∀ a₀, c₀ ≤ a₀ → a₀ < c₀ + 123 → kd N a₀ = kd M a₀ ∧ ln N a₀ = ln M a₀ ∧ (∀ k₀, gr N a₀ k₀ = gr M a₀ k₀) ∧ ∀ k₀, gi N a₀ k₀ = gi M a₀ k₀) : mh_bl N c₀ U₀ V ∧ gi N c₀ 0 = gi M c₀ 0 ∧ (∀ i₀ : Nat, (i₀ : Int) < gi M c₀ 0 → gr N (c₀ + 1) i₀ = gr M (c₀ + 1) i₀ ∧ ∀ k₀, gi N (gr M (c₀ + 1) i₀) k₀ = gi M (gr M (c₀ + 1) i₀) k₀) ∧ ∀ i₀ : Nat, (i₀ : Int) < gi M c₀ 0 → ∀ u₀ v₀, mh_cb N c₀ i₀ u₀ v₀ ↔ mh_cb M c₀ i₀ u₀ v₀ := by
  obtain ⟨cl₀, h1, h2, h3⟩ := h₀
  have z₀ := cl₀.2.2.2.2.2.2.1
  have e0₀ := (e₀ c₀ (by omega) (by omega)).2.2.2 0
  have e1₀ := (e₀ (c₀ + 1) (by omega) (by omega)).2.2.1
  have ce : ∀ i₀ : Nat, (i₀ : Int) < gi M c₀ 0 → gr N (c₀ + 1) i₀ = gr M (c₀ + 1) i₀ ∧ ∀ k₀, gi N (gr M (c₀ + 1) i₀) k₀ = gi M (gr M (c₀ + 1) i₀) k₀ := by
    intro i₀ hi
    have a₀ := cl₀.2.2.2.2.2.2.2.1 i₀ (by omega)
    exact ⟨e1₀ i₀, (e₀ _ (by omega) (by omega)).2.2.2⟩
  have cb : ∀ i₀ : Nat, (i₀ : Int) < gi M c₀ 0 → ∀ u₀ v₀, mh_cb N c₀ i₀ u₀ v₀ ↔ mh_cb M c₀ i₀ u₀ v₀ := by
    intro i₀ hi u₀ v₀
    obtain ⟨x1₀, x2₀⟩ := ce i₀ hi
    unfold mh_cb
    rw [x1₀]
    simp only [x2₀]
  refine ⟨⟨mh_cL_lo cl₀ e₀, fun i₀ hi => ?_, fun i₀ j₀ hi hj u₀ v₀ w1₀ w2₀ => ?_, fun u₀ v₀ h₀ => ?_⟩, e0₀, ce, cb⟩
  · rw [e0₀] at hi
    obtain ⟨x1₀, x2₀⟩ := ce i₀ hi
    rw [x1₀]
    simp only [x2₀]
    exact h1 i₀ hi
  · rw [e0₀] at hi hj
    exact h2 i₀ j₀ hi hj u₀ v₀ ((cb i₀ hi u₀ v₀).1 w1₀) ((cb j₀ hj u₀ v₀).1 w2₀)
  · obtain ⟨i₀, hi, w₀⟩ := h3 u₀ v₀ h₀
    exact ⟨i₀, by omega, (cb i₀ hi u₀ v₀).2 w₀⟩
/-- the sketch alone₀ was changed -/
theorem mh_sk_K {M N : mg_M} {g₀ t₀ u₀ : Nat} (K9 : mh_K M g₀ t₀ u₀) (f₀ : mh_fx (g₀ + 260) M N) : mh_K N g₀ t₀ u₀ ∧ mh_eq M N t₀ ∧ ∀ a₀, a₀ ≠ g₀ + 260 → kd N a₀ = kd M a₀ ∧ ln N a₀ = ln M a₀ ∧ (∀ k₀, gr N a₀ k₀ = gr M a₀ k₀) ∧ ∀ k₀, gi N a₀ k₀ = gi M a₀ k₀ := by
  have F9 := mh_gF_of K9
  obtain ⟨⟨G, g1, g3₀, g4, g5₀⟩, ⟨ka, kb, kk, kg, ck⟩, pl, ⟨tl, nb⟩, ⟨tbu, clu⟩, rb⟩ := K9
  have A₀ : ∀ a₀, a₀ ≠ g₀ + 260 → kd N a₀ = kd M a₀ ∧ ln N a₀ = ln M a₀ ∧ (∀ k₀, gr N a₀ k₀ = gr M a₀ k₀) ∧ ∀ k₀, gi N a₀ k₀ = gi M a₀ k₀ := fun a₀ h₀ => ⟨f₀.1 a₀, f₀.2.1 a₀, f₀.2.2.1 a₀, fun k₀ => f₀.2.2.2.2.2.2 a₀ k₀ h₀⟩
  have e₀ : mh_eq M N t₀ := fun a₀ h1 h2 => A₀ a₀ (by omega)
  have eu : mh_eq M N u₀ := fun a₀ h1 h2 => A₀ a₀ (by omega)
  have v0₀ := (e₀ t₀ (by omega) (by omega)).2.2.2
  have v9 := (A₀ (g₀ + 259) (by omega)).2.2.2
  have F9N := mh_gF_fr F9 f₀.1 f₀.2.1 (fun a₀ k₀ => Or.inr (f₀.2.2.1 a₀ k₀))
  refine ⟨⟨⟨mh_gF_G0 F9N, F9N.1.2.2.1, F9N.1.2.2.2.1, F9N.1.2.2.2.2.1, F9N.1.2.2.2.2.2⟩, ⟨F9N.2.2.2.1.1, F9N.2.2.2.1.2.1, F9N.2.2.2.1.2.2.1, F9N.2.2.2.1.2.2.2.1, mh_cL_lo ck (fun a₀ h1 h2 => A₀ a₀ (by omega))⟩, pl, mh_eq_tl e₀ tl nb, ⟨mh_eq_tb eu tbu, mh_eq_cL eu clu⟩, by rw [v0₀, v0₀]; exact rb.1, by rw [v0₀, v0₀]; exact rb.2.1, ?_⟩, e₀, A₀⟩
  have := rb.2.2
  unfold mh_ar at *
  rw [v0₀, v0₀, v9, v9, v9, v9]
  exact this
theorem mh_cc_eq {M N : mg_M} {t₀ : Nat} (e₀ : mh_eq M N t₀) (cl₀ : mg_cL M (t₀ + 3)) : mh_cc N t₀ = mh_cc M t₀ := by
  have z₀ := cl₀.2.2.2.2.2.2.1
  have v3 := (e₀ (t₀ + 3) (by omega) (by omega)).2.2.2 0
  funext f' e' a₀ d₀
  unfold mh_cc
  refine propext ⟨fun w₀ i₀ hi => ?_, fun w₀ i₀ hi => ?_⟩
  · obtain ⟨x1₀, x2₀⟩ := mh_eq_cells e₀ cl₀ (i₀ := i₀) (by omega)
    have := w₀ i₀ (by omega)
    rw [x1₀] at this
    simp only [x2₀] at this
    exact this
  · obtain ⟨x1₀, x2₀⟩ := mh_eq_cells e₀ cl₀ (i₀ := i₀) (by omega)
    rw [x1₀]
    simp only [x2₀]
    exact w₀ i₀ (by omega)
theorem mh_cc_in {M : mg_M} {t₀ b₀ : Nat} (h₀ : mh_cc M t₀ (gi M b₀ 0) (gi M b₀ 2) (gi M b₀ 1) (gi M b₀ 3)) : ∀ i₀ : Nat, (i₀ : Int) < gi M (t₀ + 3) 0 → ∀ p₀ q₀, mh_cv M t₀ i₀ p₀ q₀ → (gi M b₀ 0 ≤ p₀ ∧ p₀ ≤ gi M b₀ 2) ∧ (gi M b₀ 1 ≤ q₀ ∧ q₀ ≤ gi M b₀ 3) → mh_in M (gr M (t₀ + 3 + 1) i₀) b₀ = true := by
  intro i₀ hi p₀ q₀ w1₀ w2₀
  have y₀ := h₀ i₀ hi
  unfold mh_cv at w1₀
  unfold mh_in
  exact decide_eq_true (by omega)
theorem mh_cc_cut {M : mg_M} {t₀ b₀ : Nat} : (∃ i₀ : Nat, (i₀ : Int) < gi M (t₀ + 3) 0 ∧ mh_me M (gr M (t₀ + 3 + 1) i₀) b₀ = true ∧ mh_in M (gr M (t₀ + 3 + 1) i₀) b₀ = false) ↔ ¬ mh_cc M t₀ (gi M b₀ 0) (gi M b₀ 2) (gi M b₀ 1) (gi M b₀ 3) := by
  constructor
  · rintro ⟨i₀, hi, x₀, y₀⟩ h₀
    have w₀ := h₀ i₀ hi
    unfold mh_me at x₀
    unfold mh_in at y₀
    have x₀ := of_decide_eq_true x₀
    have y₀ := of_decide_eq_false y₀
    omega
  · intro h₀
    refine Classical.byContradiction (fun n₀ => h₀ (fun i₀ hi m₀ => ?_))
    refine Classical.byContradiction (fun w₀ => n₀ ⟨i₀, hi, ?_, ?_⟩)
    · unfold mh_me
      exact decide_eq_true (by omega)
    · unfold mh_in
      exact decide_eq_false (by omega)
def mh_tS (k₀ : Nat) (M : mg_M) (g₀ : Nat) : mg_X := fun q₀ P => q₀ = k₀ ∧ ∃ M' n₀, mh_fx (g₀ + 260) M M' ∧ nx M' ≤ n₀ ∧ P = nxt M' n₀
set_option maxHeartbeats 4000000 in
set_option maxRecDepth 100000 in
theorem cX5_paste0 {D : mg_D} {l : Launch} (hl : l.stackTraces = false) {M : mg_M} {g₀ t₀ u₀ : Nat} {r₀ c₀ x₀ y₀ : Int} {U₀ V : Int} {g0 g1 g2 g3₀ g4 g5₀ : Int → Int → Int} (K9 : mh_K M g₀ t₀ u₀) (h₀ : mh_rg (gi M t₀ 0) (gi M t₀ 1) r₀ c₀) (hx : (1 ≤ x₀ ∧ x₀ ≤ 4) ∧ (1 ≤ y₀ ∧ y₀ ≤ 4)) (hU : gi M (g₀ + 261) 0 = U₀ ∧ gi M (g₀ + 261) 1 = V ∧ 1 ≤ U₀ ∧ 1 ≤ V) (bl : mh_bl M (g₀ + 261 + 1) U₀ V) (hf : r₀ + x₀ * U₀ ≤ gi M t₀ 0 ∧ c₀ + y₀ * V ≤ gi M t₀ 1) (hcc : mh_cc M t₀ r₀ (r₀ + x₀ * U₀ - 1) c₀ (c₀ + y₀ * V - 1)) (hac : ¬ ∃ i₀ : Int, (0 ≤ i₀ ∧ i₀ < x₀) ∧ ∃ j₀ : Nat, (j₀ : Int) < gi M (g₀ + 261 + 1) 0 ∧ gi M (gr M (g₀ + 261 + 1 + 1) j₀) 0 < gi M t₀ 2 - r₀ - i₀ * U₀ ∧ gi M t₀ 2 - r₀ - i₀ * U₀ ≤ gi M (gr M (g₀ + 261 + 1 + 1) j₀) 0 + gi M (gr M (g₀ + 261 + 1 + 1) j₀) 2 - 1) (hg : ∀ i₀ : Nat, (i₀ : Int) < gi M (g₀ + 261 + 1) 0 → ∀ u₀ v₀, mh_cb M (g₀ + 261 + 1) i₀ u₀ v₀ → (gi M (gr M (g₀ + 261 + 1 + 1) i₀) 0 = g0 u₀ v₀ ∧ gi M (gr M (g₀ + 261 + 1 + 1) i₀) 1 = g1 u₀ v₀ ∧ gi M (gr M (g₀ + 261 + 1 + 1) i₀) 2 = g2 u₀ v₀ ∧ gi M (gr M (g₀ + 261 + 1 + 1) i₀) 3 = g3₀ u₀ v₀) ∧ gi M (gr M (g₀ + 261 + 1 + 1) i₀) 4 = g4 u₀ v₀ ∧ gi M (gr M (g₀ + 261 + 1 + 1) i₀) 5 = g5₀ u₀ v₀) : mg_Mt D l 97 [.inr (.inl g₀), .inl r₀, .inl c₀, .inl x₀, .inl y₀] M (fun v₀ N => v₀ = some (.inl (gi M (g₀ + 261 + 1) 0 * x₀ * y₀)) ∧ ∃ N1 N2, mh_rmb (mg_put4 M (g₀ + 260) r₀ c₀ (r₀ + x₀ * U₀ - 1) (c₀ + y₀ * V - 1)) N1 g₀ t₀ u₀ ∧ mh_np N1 N2 t₀ (gi N1 t₀ 0) (gi N1 t₀ 1) (gi N1 t₀ 2) (mh_u0 N1 t₀ r₀ (r₀ + x₀ * U₀ - 1) c₀ (c₀ + y₀ * V - 1) U₀ V g0) (mh_u1 N1 t₀ r₀ (r₀ + x₀ * U₀ - 1) c₀ (c₀ + y₀ * V - 1) U₀ V g1) (mh_u2 N1 t₀ 2 r₀ (r₀ + x₀ * U₀ - 1) c₀ (c₀ + y₀ * V - 1) U₀ V g2) (mh_u2 N1 t₀ 3 r₀ (r₀ + x₀ * U₀ - 1) c₀ (c₀ + y₀ * V - 1) U₀ V g3₀) (mh_u2 N1 t₀ 4 r₀ (r₀ + x₀ * U₀ - 1) c₀ (c₀ + y₀ * V - 1) U₀ V g4) (mh_u2 N1 t₀ 5 r₀ (r₀ + x₀ * U₀ - 1) c₀ (c₀ + y₀ * V - 1) U₀ V g5₀) (fun k₀ => gi N1 (t₀ + 2) k₀.toNat) (fun k₀ => gi N1 (t₀ + 1) k₀.toNat) ∧ mh_hs N2 N t₀ (g₀ + 259) 0 0 0 0) mg_no := by
  refine mg_of2 hl ok_X5_paste al_X5_paste rfl (fun K hK₀ => ?_)
  have F9 := mh_gF_of K9
  have bbM := K9.2.2.2.1.1.1.2.2
  have ck := @cX5_checkSquare0 D l hl M g₀ t₀ r₀ c₀ K9.1.1 h₀
  have t1₀ := @cX5_isTimes D l hl M x₀
  have t2₀ := @cX5_isTimes D l hl M y₀
  rw [if_pos hx.1] at t1₀
  rw [if_pos hx.2] at t2₀
  have bn := @cX1_isNothing D l hl M (g₀ + 261) F9.2.2.2.1.2.2.1
  rw [if_neg (by omega)] at bn
  have xU : 1 ≤ x₀ * U₀ ∧ 1 ≤ y₀ * V := ⟨Int.mul_pos (by omega) (by omega), Int.mul_pos (by omega) (by omega)⟩
  have xU2 : U₀ ≤ x₀ * U₀ ∧ V ≤ y₀ * V := by
    have h1 := Int.mul_le_mul_of_nonneg_right hx.1.1 (show 0 ≤ U₀ by omega)
    have h2 := Int.mul_le_mul_of_nonneg_right hx.2.1 (show 0 ≤ V by omega)
    omega
  have ez0 : gi M (gr M g₀ 5) 0 = U₀ := by rw [F9.1.2.2.2.2.2]; exact hU.1
  have ez1 : gi M (gr M g₀ 5) 1 = V := by rw [F9.1.2.2.2.2.2]; exact hU.2.1
  have p0₀ : x₀ * gi M (gr M g₀ 5) 0 = x₀ * U₀ := by rw [ez0]
  have p1₀ : y₀ * gi M (gr M g₀ 5) 1 = y₀ * V := by rw [ez1]
  have sp₀ : mg_Mt D l 15 [.inr (.inl (g₀ + 260)), .inl r₀, .inl c₀, .inl (r₀ + x₀ * U₀ - 1), .inl (c₀ + y₀ * V - 1)] M (fun v₀ M' => v₀ = none ∧ M' = mg_put4 M (g₀ + 260) r₀ c₀ (r₀ + x₀ * U₀ - 1) (c₀ + y₀ * V - 1)) mg_no := by
    have := @cX0_span D l hl M (g₀ + 260) r₀ c₀ (r₀ + x₀ * U₀ - 1) (c₀ + y₀ * V - 1) F9.2.2.2.1.2.1
    rw [show min r₀ (r₀ + x₀ * U₀ - 1) = r₀ by omega, show min c₀ (c₀ + y₀ * V - 1) = c₀ by omega, show max r₀ (r₀ + x₀ * U₀ - 1) = r₀ + x₀ * U₀ - 1 by omega, show max c₀ (c₀ + y₀ * V - 1) = c₀ + y₀ * V - 1 by omega] at this
    exact this
  have fx := @mh_fx_p4 M (g₀ + 260) r₀ c₀ (r₀ + x₀ * U₀ - 1) (c₀ + y₀ * V - 1)
  obtain ⟨y0, y1, y2, y3⟩ := @mh_p4_at M (g₀ + 260) r₀ c₀ (r₀ + x₀ * U₀ - 1) (c₀ + y₀ * V - 1)
  have Yd : ∃ Y, Y = mg_put4 M (g₀ + 260) r₀ c₀ (r₀ + x₀ * U₀ - 1) (c₀ + y₀ * V - 1) := ⟨_, rfl⟩
  obtain ⟨Y, hY⟩ := Yd
  rw [← hY] at sp₀ fx y0 y1 y2 y3
  obtain ⟨K5, E5, A5⟩ := mh_sk_K K9 fx
  have K0 := K5
  obtain ⟨⟨G, w1₀, w3₀, w4₀, w5⟩, _, wpl, ⟨tl, nb⟩, ⟨tbu, clu⟩, rb⟩ := K0
  have F5 := mh_gF_of K5
  have bb := tl.1.2.2
  have u0 := (E5 t₀ (by omega) (by omega)).2.2.2 0
  have u1₀ := (E5 t₀ (by omega) (by omega)).2.2.2 1
  have u2₀ := (E5 t₀ (by omega) (by omega)).2.2.2 2
  have hccY := mh_cc_eq E5 K9.2.2.2.1.1.2.1
  have cut₀ := @cX3_cutP D l hl Y (t₀ + 3) (g₀ + 260) tl.2.1 (mh_tl_sm tl) F5.2.2.2.1.2.1
  rw [mh_cc_cut, y0, y1, y2, y3, hccY] at cut₀
  obtain ⟨bl5, z05, ce5, cb5⟩ := mh_bl_lo bl (fun a₀ h1 h2 => A5 a₀ (by omega))
  have smB₀ : mg_cS Y (g₀ + 261 + 1) := by
    intro i₀ hi
    have o := bl5.2.1 i₀ hi
    have z₀ := bl5.1.2.2.2.2.2.2.1
    have a₀ := bl5.1.2.2.2.2.2.2.2.1 i₀ (by omega)
    exact ⟨a₀.1, by omega, by omega⟩
  have k0₀ := (A5 (g₀ + 261) (by omega)).2.2.2 0
  have acr := @cX1_isAcross D l hl Y (g₀ + 261) (gi Y t₀ 2) r₀ x₀ U₀ ⟨F5.2.2.2.1.2.2.1, F5.2.2.2.1.2.2.2.1⟩ bl5.1 smB₀ (by omega) hx.1 (by omega)
  have eac : (∃ i₀ : Int, (0 ≤ i₀ ∧ i₀ < x₀) ∧ ∃ j₀ : Nat, (j₀ : Int) < gi Y (g₀ + 261 + 1) 0 ∧ gi Y (gr Y (g₀ + 261 + 1 + 1) j₀) 0 < gi Y t₀ 2 - r₀ - i₀ * U₀ ∧ gi Y t₀ 2 - r₀ - i₀ * U₀ ≤ gi Y (gr Y (g₀ + 261 + 1 + 1) j₀) 0 + gi Y (gr Y (g₀ + 261 + 1 + 1) j₀) 2 - 1) ↔ (∃ i₀ : Int, (0 ≤ i₀ ∧ i₀ < x₀) ∧ ∃ j₀ : Nat, (j₀ : Int) < gi M (g₀ + 261 + 1) 0 ∧ gi M (gr M (g₀ + 261 + 1 + 1) j₀) 0 < gi M t₀ 2 - r₀ - i₀ * U₀ ∧ gi M t₀ 2 - r₀ - i₀ * U₀ ≤ gi M (gr M (g₀ + 261 + 1 + 1) j₀) 0 + gi M (gr M (g₀ + 261 + 1 + 1) j₀) 2 - 1) := by
    refine ⟨fun ⟨i₀, hi, j₀, hj, w₀⟩ => ⟨i₀, hi, j₀, by omega, ?_⟩, fun ⟨i₀, hi, j₀, hj, w₀⟩ => ⟨i₀, hi, j₀, by omega, ?_⟩⟩
    · obtain ⟨x1₀, x2₀⟩ := ce5 j₀ (by omega)
      rw [x1₀] at w₀
      simp only [x2₀, u2₀] at w₀
      exact w₀
    · obtain ⟨x1₀, x2₀⟩ := ce5 j₀ (by omega)
      rw [x1₀]
      simp only [x2₀, u2₀]
      exact w₀
  rw [mh_prc eac] at acr
  rw [mh_pr0 (fun w₀ => w₀ hcc)] at cut₀
  rw [mh_pr0 hac] at acr
  clear eac
  have arY : mh_ar Y t₀ (g₀ + 260) := by unfold mh_ar; rw [y0, y1, y2, y3, u0, u1₀]; omega
  have RM₀ := @cX5_remember D l hl Y g₀ t₀ u₀ G w1₀ (by omega) tl.1 tbu tl.2.1 clu (by omega)
  obtain ⟨⟨k6₀, g0, g1, g3₀, g4, g5₀⟩, ⟨kt, s5, s3₀, s4₀, kct, ⟨kht, lht⟩, ⟨kwt, lwt⟩⟩, ⟨ku, r5₀, r3, r4, kcu, ⟨khu, lhu⟩, ⟨kwu, lwu⟩⟩, ⟨ka, kb, kk, kg, kbc⟩, pl⟩ := F9
  have g0n : gr M g₀ 0 ≠ 0 := by omega
  have g0k : kd M (gr M g₀ 0) = 5 := by rw [g0]; exact kt
  have g1n : gr M g₀ 1 ≠ 0 := by omega
  have g1k : kd M (gr M g₀ 1) = 5 := by rw [g1]; exact ku
  have g3n : gr M g₀ 3 ≠ 0 := by omega
  have g3k : kd M (gr M g₀ 3) = 1 := by rw [g3₀]; exact ka
  have g4n : gr M g₀ 4 ≠ 0 := by omega
  have g4k : kd M (gr M g₀ 4) = 1 := by rw [g4]; exact kb
  have g5n : gr M g₀ 5 ≠ 0 := by omega
  have g5k : kd M (gr M g₀ 5) = 2 := by rw [g5₀]; exact kk
  have t5₀ : gr M (gr M g₀ 0) 5 = t₀ + 3 := by rw [g0]; exact s5
  have t5n : gr M (gr M g₀ 0) 5 ≠ 0 := by omega
  have t5k : kd M (gr M (gr M g₀ 0) 5) = 4 := by rw [t5₀]; exact kct
  have t3₀ : gr M (gr M g₀ 0) 3 = t₀ + 1 := by rw [g0]; exact s3₀
  have t3n : gr M (gr M g₀ 0) 3 ≠ 0 := by omega
  have t3k : kd M (gr M (gr M g₀ 0) 3) = 8 := by rw [t3₀]; exact kht
  have t3l : ln M (gr M (gr M g₀ 0) 3) = 12 := by rw [t3₀]; exact lht
  have t4₀ : gr M (gr M g₀ 0) 4 = t₀ + 2 := by rw [g0]; exact s4₀
  have t4n : gr M (gr M g₀ 0) 4 ≠ 0 := by omega
  have t4k : kd M (gr M (gr M g₀ 0) 4) = 8 := by rw [t4₀]; exact kwt
  have t4l : ln M (gr M (gr M g₀ 0) 4) = 10 := by rw [t4₀]; exact lwt
  have u5 : gr M (gr M g₀ 1) 5 = u₀ + 3 := by rw [g1]; exact r5₀
  have u5n : gr M (gr M g₀ 1) 5 ≠ 0 := by omega
  have u5k : kd M (gr M (gr M g₀ 1) 5) = 4 := by rw [u5]; exact kcu
  have u3 : gr M (gr M g₀ 1) 3 = u₀ + 1 := by rw [g1]; exact r3
  have u3n : gr M (gr M g₀ 1) 3 ≠ 0 := by omega
  have u3k : kd M (gr M (gr M g₀ 1) 3) = 8 := by rw [u3]; exact khu
  have u3l : ln M (gr M (gr M g₀ 1) 3) = 12 := by rw [u3]; exact lhu
  have u4₀ : gr M (gr M g₀ 1) 4 = u₀ + 2 := by rw [g1]; exact r4
  have u4n : gr M (gr M g₀ 1) 4 ≠ 0 := by omega
  have u4k : kd M (gr M (gr M g₀ 1) 4) = 8 := by rw [u4₀]; exact kwu
  have u4l : ln M (gr M (gr M g₀ 1) 4) = 10 := by rw [u4₀]; exact lwu
  have e0₀ : gi M (gr M g₀ 0) 0 = gi M t₀ 0 := by rw [g0]
  have e1₀ : gi M (gr M g₀ 0) 1 = gi M t₀ 1 := by rw [g0]
  have e2₀ : gi M (gr M g₀ 0) 2 = gi M t₀ 2 := by rw [g0]
  clear tl nb tbu clu
  refine hK₀ _ _ _ _ _ ?_
  (repeat' (((conv => whnf); first | (show (_ : Option mg_V) = _ ∧ _; assumption) | (show K _ _ _ _ _; assumption) | (show mm_th _ _ _ _; assumption) | refine And.intro (by first | assumption | omega | (simp only [true_and]; first | done | assumption | omega)) ?_ | (refine And.intro (fun _ => ?_) (fun _ => ?_) <;> first | (exfalso; omega) | skip) | intro _ | fail)))
  all_goals (try ((conv => whnf); (refine Exists.intro _ (Exists.intro _ (And.intro (ck) (And.intro ?_ (fun _ _ h₀ => h₀.elim)))); rintro _ _ ⟨rfl, e₀⟩; have e2₀ := e₀.symm; clear e₀; subst e2₀); (repeat' (((conv => whnf); first | (show (_ : Option mg_V) = _ ∧ _; assumption) | (show K _ _ _ _ _; assumption) | (show mm_th _ _ _ _; assumption) | refine And.intro (by first | assumption | omega | (simp only [true_and]; first | done | assumption | omega)) ?_ | (refine And.intro (fun _ => ?_) (fun _ => ?_) <;> first | (exfalso; omega) | skip) | intro _ | fail)))))
  all_goals (try ((conv => whnf); (refine Exists.intro _ (Exists.intro _ (And.intro (t1₀) (And.intro ?_ (fun _ _ h₀ => h₀.elim)))); rintro _ _ ⟨rfl, e₀⟩; have e2₀ := e₀.symm; clear e₀; subst e2₀); (repeat' (((conv => whnf); first | (show (_ : Option mg_V) = _ ∧ _; assumption) | (show K _ _ _ _ _; assumption) | (show mm_th _ _ _ _; assumption) | refine And.intro (by first | assumption | omega | (simp only [true_and]; first | done | assumption | omega)) ?_ | (refine And.intro (fun _ => ?_) (fun _ => ?_) <;> first | (exfalso; omega) | skip) | intro _ | fail)))))
  all_goals (try ((conv => whnf); (refine Exists.intro _ (Exists.intro _ (And.intro (t2₀) (And.intro ?_ (fun _ _ h₀ => h₀.elim)))); rintro _ _ ⟨rfl, e₀⟩; have e2₀ := e₀.symm; clear e₀; subst e2₀); (repeat' (((conv => whnf); first | (show (_ : Option mg_V) = _ ∧ _; assumption) | (show K _ _ _ _ _; assumption) | (show mm_th _ _ _ _; assumption) | refine And.intro (by first | assumption | omega | (simp only [true_and]; first | done | assumption | omega)) ?_ | (refine And.intro (fun _ => ?_) (fun _ => ?_) <;> first | (exfalso; omega) | skip) | intro _ | fail)))))
  all_goals ((conv => whnf); (try rw [g0]); (try rw [g1]); (try rw [s5]); (try rw [s3₀]); (try rw [s4₀]); (try rw [r5₀]); (try rw [g3₀]); (try rw [g4]); (try rw [g5₀]))
  (refine Exists.intro _ (Exists.intro _ (And.intro (bn) (And.intro ?_ (fun _ _ h₀ => h₀.elim)))); rintro _ _ ⟨rfl, e₀⟩; have e2₀ := e₀.symm; clear e₀; subst e2₀)
  (repeat' (((conv => whnf); first | (show (_ : Option mg_V) = _ ∧ _; assumption) | (show K _ _ _ _ _; assumption) | (show mm_th _ _ _ _; assumption) | refine And.intro (by first | assumption | omega | (simp only [true_and]; first | done | assumption | omega)) ?_ | (refine And.intro (fun _ => ?_) (fun _ => ?_) <;> first | (exfalso; omega) | skip) | intro _ | fail)))
  all_goals ((conv => whnf); (try rw [g4]); (try rw [p0₀]); (try rw [p1₀]))
  (refine Exists.intro _ (Exists.intro _ (And.intro (sp₀) (And.intro ?_ (fun _ _ h₀ => h₀.elim)))); rintro _ _ ⟨rfl, e₀⟩; have e2₀ := e₀.symm; clear e₀; subst e2₀)
  have F5' := F5
  clear u4l u4k u4n u4₀ u3l u3k u3n u3 u5k u5n u5 t4l t4k t4n t4₀ t3l t3k t3n t3₀ t5k t5n t5₀ g5k g5n g4k g4n g3k g3n g1k g1n g0k g0n pl kbc kg kk kb ka lwu kwu lhu khu kcu r4 r3 r5₀ ku lwt kwt lht kht kct s4₀ s3₀ s5 kt g5₀ g4 g3₀ g1 g0 k6₀
  obtain ⟨⟨k65_, g05_, g15_, g35_, g45_, g55_⟩, ⟨kt5_, s55_, s35_, s45_, kct5_, ⟨kht5_, lht5_⟩, ⟨kwt5_, lwt5_⟩⟩, ⟨ku5_, r55_, r35_, r45_, kcu5_, ⟨khu5_, lhu5_⟩, ⟨kwu5_, lwu5_⟩⟩, ⟨ka5_, kb5_, kk5_, kg5_, kbc5_⟩, pl5_⟩ := F5
  have g0n5_ : gr Y g₀ 0 ≠ 0 := by omega
  have g0k5_ : kd Y (gr Y g₀ 0) = 5 := by rw [g05_]; exact kt5_
  have g1n5_ : gr Y g₀ 1 ≠ 0 := by omega
  have g1k5_ : kd Y (gr Y g₀ 1) = 5 := by rw [g15_]; exact ku5_
  have g3n5_ : gr Y g₀ 3 ≠ 0 := by omega
  have g3k5_ : kd Y (gr Y g₀ 3) = 1 := by rw [g35_]; exact ka5_
  have g4n5_ : gr Y g₀ 4 ≠ 0 := by omega
  have g4k5_ : kd Y (gr Y g₀ 4) = 1 := by rw [g45_]; exact kb5_
  have g5n5_ : gr Y g₀ 5 ≠ 0 := by omega
  have g5k5_ : kd Y (gr Y g₀ 5) = 2 := by rw [g55_]; exact kk5_
  have t55_ : gr Y (gr Y g₀ 0) 5 = t₀ + 3 := by rw [g05_]; exact s55_
  have t5n5_ : gr Y (gr Y g₀ 0) 5 ≠ 0 := by omega
  have t5k5_ : kd Y (gr Y (gr Y g₀ 0) 5) = 4 := by rw [t55_]; exact kct5_
  have t35_ : gr Y (gr Y g₀ 0) 3 = t₀ + 1 := by rw [g05_]; exact s35_
  have t3n5_ : gr Y (gr Y g₀ 0) 3 ≠ 0 := by omega
  have t3k5_ : kd Y (gr Y (gr Y g₀ 0) 3) = 8 := by rw [t35_]; exact kht5_
  have t3l5_ : ln Y (gr Y (gr Y g₀ 0) 3) = 12 := by rw [t35_]; exact lht5_
  have t45_ : gr Y (gr Y g₀ 0) 4 = t₀ + 2 := by rw [g05_]; exact s45_
  have t4n5_ : gr Y (gr Y g₀ 0) 4 ≠ 0 := by omega
  have t4k5_ : kd Y (gr Y (gr Y g₀ 0) 4) = 8 := by rw [t45_]; exact kwt5_
  have t4l5_ : ln Y (gr Y (gr Y g₀ 0) 4) = 10 := by rw [t45_]; exact lwt5_
  have u55_ : gr Y (gr Y g₀ 1) 5 = u₀ + 3 := by rw [g15_]; exact r55_
  have u5n5_ : gr Y (gr Y g₀ 1) 5 ≠ 0 := by omega
  have u5k5_ : kd Y (gr Y (gr Y g₀ 1) 5) = 4 := by rw [u55_]; exact kcu5_
  have u35_ : gr Y (gr Y g₀ 1) 3 = u₀ + 1 := by rw [g15_]; exact r35_
  have u3n5_ : gr Y (gr Y g₀ 1) 3 ≠ 0 := by omega
  have u3k5_ : kd Y (gr Y (gr Y g₀ 1) 3) = 8 := by rw [u35_]; exact khu5_
  have u3l5_ : ln Y (gr Y (gr Y g₀ 1) 3) = 12 := by rw [u35_]; exact lhu5_
  have u45_ : gr Y (gr Y g₀ 1) 4 = u₀ + 2 := by rw [g15_]; exact r45_
  have u4n5_ : gr Y (gr Y g₀ 1) 4 ≠ 0 := by omega
  have u4k5_ : kd Y (gr Y (gr Y g₀ 1) 4) = 8 := by rw [u45_]; exact kwu5_
  have u4l5_ : ln Y (gr Y (gr Y g₀ 1) 4) = 10 := by rw [u45_]; exact lwu5_
  have q0 : gi Y (gr Y g₀ 0) 0 = gi M t₀ 0 := by rw [g05_]; exact u0
  have q1₀ : gi Y (gr Y g₀ 0) 1 = gi M t₀ 1 := by rw [g05_]; exact u1₀
  have q3₀ : gi Y (gr Y g₀ 4) 2 = r₀ + x₀ * U₀ - 1 := by rw [g45_]; exact y2
  have q4₀ : gi Y (gr Y g₀ 4) 3 = c₀ + y₀ * V - 1 := by rw [g45_]; exact y3
  (repeat' (((conv => whnf); first | (show (_ : Option mg_V) = _ ∧ _; assumption) | (show K _ _ _ _ _; assumption) | (show mm_th _ _ _ _; assumption) | refine And.intro (by first | assumption | omega | (simp only [true_and]; first | done | assumption | omega)) ?_ | (refine And.intro (fun _ => ?_) (fun _ => ?_) <;> first | (exfalso; omega) | skip) | intro _ | fail)))
  all_goals ((conv => whnf); (try rw [g05_]); (try rw [g15_]); (try rw [s55_]); (try rw [s35_]); (try rw [s45_]); (try rw [r55_]); (try rw [g35_]); (try rw [g45_]); (try rw [g55_]))
  (refine Exists.intro _ (Exists.intro _ (And.intro (cut₀) (And.intro ?_ (fun _ _ h₀ => h₀.elim)))); rintro _ _ ⟨rfl, e₀⟩; have e2₀ := e₀.symm; clear e₀; subst e2₀)
  (repeat' (((conv => whnf); first | (show (_ : Option mg_V) = _ ∧ _; assumption) | (show K _ _ _ _ _; assumption) | (show mm_th _ _ _ _; assumption) | refine And.intro (by first | assumption | omega | (simp only [true_and]; first | done | assumption | omega)) ?_ | (refine And.intro (fun _ => ?_) (fun _ => ?_) <;> first | (exfalso; omega) | skip) | intro _ | fail)))
  all_goals ((conv => whnf); (try rw [g05_]); (try rw [g15_]); (try rw [s55_]); (try rw [s35_]); (try rw [s45_]); (try rw [r55_]); (try rw [g35_]); (try rw [g45_]); (try rw [g55_]))
  (refine Exists.intro _ (Exists.intro _ (And.intro (acr) (And.intro ?_ (fun _ _ h₀ => h₀.elim)))); rintro _ _ ⟨rfl, e₀⟩; have e2₀ := e₀.symm; clear e₀; subst e2₀)
  (repeat' (((conv => whnf); first | (show (_ : Option mg_V) = _ ∧ _; assumption) | (show K _ _ _ _ _; assumption) | (show mm_th _ _ _ _; assumption) | refine And.intro (by first | assumption | omega | (simp only [true_and]; first | done | assumption | omega)) ?_ | (refine And.intro (fun _ => ?_) (fun _ => ?_) <;> first | (exfalso; omega) | skip) | intro _ | fail)))
  all_goals ((conv => whnf); skip)
  refine Exists.intro _ (Exists.intro _ (And.intro (RM₀) (And.intro ?_ (fun _ _ h₀ => h₀.elim))))
  rintro _ N1 ⟨rfl, Rr⟩
  obtain ⟨K1, E1₀, FR, h21⟩ := mh_rmb_K K5 Rr
  clear RM₀
  obtain ⟨tl1, nb1⟩ := K1.2.2.2.1
  have v1₀ := (E1₀ t₀ (by omega) (by omega)).2.2.2
  have v10 := v1₀ 0
  have v11 := v1₀ 1
  have v12 := v1₀ 2
  have OP := (fun (e₀ : mh_eq Y N1 t₀) (ez : ∀ a₀, ¬ (u₀ ≤ a₀ ∧ a₀ < u₀ + 127) → a₀ ≠ g₀ → kd N1 a₀ = kd Y a₀ ∧ ln N1 a₀ = ln Y a₀ ∧ (∀ k₀, gr N1 a₀ k₀ = gr Y a₀ k₀) ∧ ∀ k₀, gi N1 a₀ k₀ = gi Y a₀ k₀) =>
    have ea := (ez (g₀ + 260) (by omega) (by omega)).2.2.2
    have ek := (ez (g₀ + 261) (by omega) (by omega)).2.2.2
    have ek' := (A5 (g₀ + 261) (by omega)).2.2.2
    have b1 := mh_bl_lo bl5 (fun a₀ h1 h2 => ez a₀ (by omega) (by omega))
    @cX4_put D l hl N1 t₀ (g₀ + 260) (g₀ + 261) x₀ y₀ U₀ V r₀ (r₀ + x₀ * U₀ - 1) c₀ (c₀ + y₀ * V - 1) g0 g1 g2 g3₀ g4 g5₀ tl1 nb1 K1.2.1.2.1 (by
    unfold mh_ar at arY ⊢
    rw [ea, ea, ea, ea, v10, v11]
    exact arY) ⟨(ea 0).trans y0, (ea 2).trans y2, (ea 1).trans y1, (ea 3).trans y3⟩ (by omega) (mh_cc_in (by
    rw [ea, ea, ea, ea, y0, y1, y2, y3, mh_cc_eq e₀ K5.2.2.2.1.1.2.1, hccY]
    exact hcc)) ⟨K1.2.1.2.2.1, K1.2.1.2.2.2.1, (ek 0).trans ((ek' 0).trans hU.1), (ek 1).trans ((ek' 1).trans hU.2.1)⟩ (by omega) b1.1 hU.2.2 hx ⟨rfl, rfl⟩ (fun i₀ hi u₀ v₀ w₀ => by
    have hi5 : (i₀ : Int) < gi Y (g₀ + 261 + 1) 0 := by have := b1.2.1; omega
    have hiM : (i₀ : Int) < gi M (g₀ + 261 + 1) 0 := by omega
    obtain ⟨x1₀, x2₀⟩ := b1.2.2.1 i₀ hi5
    obtain ⟨x3, x4₀⟩ := ce5 i₀ hiM
    have w5 := (b1.2.2.2 i₀ hi5 u₀ v₀).1 w₀
    have wM := (cb5 i₀ hiM u₀ v₀).1 w5
    have := hg i₀ hiM u₀ v₀ wM
    rw [x1₀]
    simp only [x2₀]
    rw [x3]
    simp only [x4₀]
    exact this)) E1₀ (fun a₀ h1 h2 => ⟨FR.1 a₀, FR.2.1 a₀, FR.2.2.1 a₀, fun k₀ => mm_f_gi FR a₀ k₀ (by omega)⟩)
  have F1₀ := mh_gF_of K1
  clear u4l5_ u4k5_ u4n5_ u45_ u3l5_ u3k5_ u3n5_ u35_ u5k5_ u5n5_ u55_ t4l5_ t4k5_ t4n5_ t45_ t3l5_ t3k5_ t3n5_ t35_ t5k5_ t5n5_ t55_ g5k5_ g5n5_ g4k5_ g4n5_ g3k5_ g3n5_ g1k5_ g1n5_ g0k5_ g0n5_ pl5_ kbc5_ kg5_ kk5_ kb5_ ka5_ lwu5_ kwu5_ lhu5_ khu5_ kcu5_ r45_ r35_ r55_ ku5_ lwt5_ kwt5_ lht5_ kht5_ kct5_ s45_ s35_ s55_ kt5_ g55_ g45_ g35_ g15_ g05_ k65_
  have F1' := F1₀
  obtain ⟨⟨k61_, g01_, g11_, g31_, g41_, g51_⟩, ⟨kt1_, s51_, s31_, s41_, kct1_, ⟨kht1_, lht1_⟩, ⟨kwt1_, lwt1_⟩⟩, ⟨ku1_, r51_, r31_, r41_, kcu1_, ⟨khu1_, lhu1_⟩, ⟨kwu1_, lwu1_⟩⟩, ⟨ka1_, kb1_, kk1_, kg1_, kbc1_⟩, pl1_⟩ := F1₀
  have g0n1_ : gr N1 g₀ 0 ≠ 0 := by omega
  have g0k1_ : kd N1 (gr N1 g₀ 0) = 5 := by rw [g01_]; exact kt1_
  have g1n1_ : gr N1 g₀ 1 ≠ 0 := by omega
  have g1k1_ : kd N1 (gr N1 g₀ 1) = 5 := by rw [g11_]; exact ku1_
  have g3n1_ : gr N1 g₀ 3 ≠ 0 := by omega
  have g3k1_ : kd N1 (gr N1 g₀ 3) = 1 := by rw [g31_]; exact ka1_
  have g4n1_ : gr N1 g₀ 4 ≠ 0 := by omega
  have g4k1_ : kd N1 (gr N1 g₀ 4) = 1 := by rw [g41_]; exact kb1_
  have g5n1_ : gr N1 g₀ 5 ≠ 0 := by omega
  have g5k1_ : kd N1 (gr N1 g₀ 5) = 2 := by rw [g51_]; exact kk1_
  have t51_ : gr N1 (gr N1 g₀ 0) 5 = t₀ + 3 := by rw [g01_]; exact s51_
  have t5n1_ : gr N1 (gr N1 g₀ 0) 5 ≠ 0 := by omega
  have t5k1_ : kd N1 (gr N1 (gr N1 g₀ 0) 5) = 4 := by rw [t51_]; exact kct1_
  have t31_ : gr N1 (gr N1 g₀ 0) 3 = t₀ + 1 := by rw [g01_]; exact s31_
  have t3n1_ : gr N1 (gr N1 g₀ 0) 3 ≠ 0 := by omega
  have t3k1_ : kd N1 (gr N1 (gr N1 g₀ 0) 3) = 8 := by rw [t31_]; exact kht1_
  have t3l1_ : ln N1 (gr N1 (gr N1 g₀ 0) 3) = 12 := by rw [t31_]; exact lht1_
  have t41_ : gr N1 (gr N1 g₀ 0) 4 = t₀ + 2 := by rw [g01_]; exact s41_
  have t4n1_ : gr N1 (gr N1 g₀ 0) 4 ≠ 0 := by omega
  have t4k1_ : kd N1 (gr N1 (gr N1 g₀ 0) 4) = 8 := by rw [t41_]; exact kwt1_
  have t4l1_ : ln N1 (gr N1 (gr N1 g₀ 0) 4) = 10 := by rw [t41_]; exact lwt1_
  have u51_ : gr N1 (gr N1 g₀ 1) 5 = u₀ + 3 := by rw [g11_]; exact r51_
  have u5n1_ : gr N1 (gr N1 g₀ 1) 5 ≠ 0 := by omega
  have u5k1_ : kd N1 (gr N1 (gr N1 g₀ 1) 5) = 4 := by rw [u51_]; exact kcu1_
  have u31_ : gr N1 (gr N1 g₀ 1) 3 = u₀ + 1 := by rw [g11_]; exact r31_
  have u3n1_ : gr N1 (gr N1 g₀ 1) 3 ≠ 0 := by omega
  have u3k1_ : kd N1 (gr N1 (gr N1 g₀ 1) 3) = 8 := by rw [u31_]; exact khu1_
  have u3l1_ : ln N1 (gr N1 (gr N1 g₀ 1) 3) = 12 := by rw [u31_]; exact lhu1_
  have u41_ : gr N1 (gr N1 g₀ 1) 4 = u₀ + 2 := by rw [g11_]; exact r41_
  have u4n1_ : gr N1 (gr N1 g₀ 1) 4 ≠ 0 := by omega
  have u4k1_ : kd N1 (gr N1 (gr N1 g₀ 1) 4) = 8 := by rw [u41_]; exact kwu1_
  have u4l1_ : ln N1 (gr N1 (gr N1 g₀ 1) 4) = 10 := by rw [u41_]; exact lwu1_
  have j1 : gi N1 (gr N1 g₀ 5) 2 = gi N1 (g₀ + 261) 2 := by rw [g51_]
  (repeat' (((conv => whnf); first | (show (_ : Option mg_V) = _ ∧ _; assumption) | (show K _ _ _ _ _; assumption) | (show mm_th _ _ _ _; assumption) | refine And.intro (by first | assumption | omega | (simp only [true_and]; first | done | assumption | omega)) ?_ | (refine And.intro (fun _ => ?_) (fun _ => ?_) <;> first | (exfalso; omega) | skip) | intro _ | fail)))
  all_goals ((conv => whnf); (try rw [g01_]); (try rw [g11_]); (try rw [s51_]); (try rw [s31_]); (try rw [s41_]); (try rw [r51_]); (try rw [g31_]); (try rw [g41_]); (try rw [g51_]))
  refine Exists.intro _ (Exists.intro _ (And.intro (OP) (And.intro ?_ (fun _ _ h₀ => h₀.elim))))
  rintro _ N2 ⟨rfl, q₀⟩
  clear OP
  clear u4l1_ u4k1_ u4n1_ u41_ u3l1_ u3k1_ u3n1_ u31_ u5k1_ u5n1_ u51_ t4l1_ t4k1_ t4n1_ t41_ t3l1_ t3k1_ t3n1_ t31_ t5k1_ t5n1_ t51_ g5k1_ g5n1_ g4k1_ g4n1_ g3k1_ g3n1_ g1k1_ g1n1_ g0k1_ g0n1_ pl1_ kbc1_ kg1_ kk1_ kb1_ ka1_ lwu1_ kwu1_ lhu1_ khu1_ kcu1_ r41_ r31_ r51_ ku1_ lwt1_ kwt1_ lht1_ kht1_ kct1_ s41_ s31_ s51_ kt1_ g51_ g41_ g31_ g11_ g01_ k61_
  clear q0 q1₀ q3₀ q4₀ e0₀ e1₀ e2₀ j1
  have F2 := mh_gF_fr F1' q₀.1.1 q₀.1.2.1 q₀.1.2.2.1
  have SF := @cX5_selectFirst D l hl N2 g₀ t₀ (g₀ + 259) (mh_gF_G0 F2) F2.1.2.2.2.1 (by omega) F2.2.2.2.1.1 q₀.2.1.1 (by have := q₀.2.2.1; omega)
  have F2' := F2
  obtain ⟨⟨k62_, g02_, g12_, g32_, g42_, g52_⟩, ⟨kt2_, s52_, s32_, s42_, kct2_, ⟨kht2_, lht2_⟩, ⟨kwt2_, lwt2_⟩⟩, ⟨ku2_, r52_, r32_, r42_, kcu2_, ⟨khu2_, lhu2_⟩, ⟨kwu2_, lwu2_⟩⟩, ⟨ka2_, kb2_, kk2_, kg2_, kbc2_⟩, pl2_⟩ := F2
  have g0n2_ : gr N2 g₀ 0 ≠ 0 := by omega
  have g0k2_ : kd N2 (gr N2 g₀ 0) = 5 := by rw [g02_]; exact kt2_
  have g1n2_ : gr N2 g₀ 1 ≠ 0 := by omega
  have g1k2_ : kd N2 (gr N2 g₀ 1) = 5 := by rw [g12_]; exact ku2_
  have g3n2_ : gr N2 g₀ 3 ≠ 0 := by omega
  have g3k2_ : kd N2 (gr N2 g₀ 3) = 1 := by rw [g32_]; exact ka2_
  have g4n2_ : gr N2 g₀ 4 ≠ 0 := by omega
  have g4k2_ : kd N2 (gr N2 g₀ 4) = 1 := by rw [g42_]; exact kb2_
  have g5n2_ : gr N2 g₀ 5 ≠ 0 := by omega
  have g5k2_ : kd N2 (gr N2 g₀ 5) = 2 := by rw [g52_]; exact kk2_
  have t52_ : gr N2 (gr N2 g₀ 0) 5 = t₀ + 3 := by rw [g02_]; exact s52_
  have t5n2_ : gr N2 (gr N2 g₀ 0) 5 ≠ 0 := by omega
  have t5k2_ : kd N2 (gr N2 (gr N2 g₀ 0) 5) = 4 := by rw [t52_]; exact kct2_
  have t32_ : gr N2 (gr N2 g₀ 0) 3 = t₀ + 1 := by rw [g02_]; exact s32_
  have t3n2_ : gr N2 (gr N2 g₀ 0) 3 ≠ 0 := by omega
  have t3k2_ : kd N2 (gr N2 (gr N2 g₀ 0) 3) = 8 := by rw [t32_]; exact kht2_
  have t3l2_ : ln N2 (gr N2 (gr N2 g₀ 0) 3) = 12 := by rw [t32_]; exact lht2_
  have t42_ : gr N2 (gr N2 g₀ 0) 4 = t₀ + 2 := by rw [g02_]; exact s42_
  have t4n2_ : gr N2 (gr N2 g₀ 0) 4 ≠ 0 := by omega
  have t4k2_ : kd N2 (gr N2 (gr N2 g₀ 0) 4) = 8 := by rw [t42_]; exact kwt2_
  have t4l2_ : ln N2 (gr N2 (gr N2 g₀ 0) 4) = 10 := by rw [t42_]; exact lwt2_
  have u52_ : gr N2 (gr N2 g₀ 1) 5 = u₀ + 3 := by rw [g12_]; exact r52_
  have u5n2_ : gr N2 (gr N2 g₀ 1) 5 ≠ 0 := by omega
  have u5k2_ : kd N2 (gr N2 (gr N2 g₀ 1) 5) = 4 := by rw [u52_]; exact kcu2_
  have u32_ : gr N2 (gr N2 g₀ 1) 3 = u₀ + 1 := by rw [g12_]; exact r32_
  have u3n2_ : gr N2 (gr N2 g₀ 1) 3 ≠ 0 := by omega
  have u3k2_ : kd N2 (gr N2 (gr N2 g₀ 1) 3) = 8 := by rw [u32_]; exact khu2_
  have u3l2_ : ln N2 (gr N2 (gr N2 g₀ 1) 3) = 12 := by rw [u32_]; exact lhu2_
  have u42_ : gr N2 (gr N2 g₀ 1) 4 = u₀ + 2 := by rw [g12_]; exact r42_
  have u4n2_ : gr N2 (gr N2 g₀ 1) 4 ≠ 0 := by omega
  have u4k2_ : kd N2 (gr N2 (gr N2 g₀ 1) 4) = 8 := by rw [u42_]; exact kwu2_
  have u4l2_ : ln N2 (gr N2 (gr N2 g₀ 1) 4) = 10 := by rw [u42_]; exact lwu2_
  clear F1'
  have q9₀ := q₀
  clear q₀ tl1 nb1
  (repeat' (((conv => whnf); first | (show (_ : Option mg_V) = _ ∧ _; assumption) | (show K _ _ _ _ _; assumption) | (show mm_th _ _ _ _; assumption) | refine And.intro (by first | assumption | omega | (simp only [true_and]; first | done | assumption | omega)) ?_ | (refine And.intro (fun _ => ?_) (fun _ => ?_) <;> first | (exfalso; omega) | skip) | intro _ | fail)))
  all_goals ((conv => whnf); skip)
  refine Exists.intro _ (Exists.intro _ (And.intro (SF) (And.intro ?_ (fun _ _ h₀ => h₀.elim))))
  rintro _ N ⟨rfl, q2₀⟩
  clear SF
  clear u4l2_ u4k2_ u4n2_ u42_ u3l2_ u3k2_ u3n2_ u32_ u5k2_ u5n2_ u52_ t4l2_ t4k2_ t4n2_ t42_ t3l2_ t3k2_ t3n2_ t32_ t5k2_ t5n2_ t52_ g5k2_ g5n2_ g4k2_ g4n2_ g3k2_ g3n2_ g1k2_ g1n2_ g0k2_ g0n2_ pl2_ kbc2_ kg2_ kk2_ kb2_ ka2_ lwu2_ kwu2_ lhu2_ khu2_ kcu2_ r42_ r32_ r52_ ku2_ lwt2_ kwt2_ lht2_ kht2_ kct2_ s42_ s32_ s52_ kt2_ g52_ g42_ g32_ g12_ g02_ k62_
  have F3 := mh_gF_fr F2' q2₀.1.1 q2₀.1.2.1 (fun a₀ k₀ => Or.inr (q2₀.1.2.2.1 a₀ k₀))
  obtain ⟨⟨k63_, g03_, g13_, g33_, g43_, g53_⟩, ⟨kt3_, s53_, s33_, s43_, kct3_, ⟨kht3_, lht3_⟩, ⟨kwt3_, lwt3_⟩⟩, ⟨ku3_, r53_, r33_, r43_, kcu3_, ⟨khu3_, lhu3_⟩, ⟨kwu3_, lwu3_⟩⟩, ⟨ka3_, kb3_, kk3_, kg3_, kbc3_⟩, pl3_⟩ := F3
  have g0n3_ : gr N g₀ 0 ≠ 0 := by omega
  have g0k3_ : kd N (gr N g₀ 0) = 5 := by rw [g03_]; exact kt3_
  have g1n3_ : gr N g₀ 1 ≠ 0 := by omega
  have g1k3_ : kd N (gr N g₀ 1) = 5 := by rw [g13_]; exact ku3_
  have g3n3_ : gr N g₀ 3 ≠ 0 := by omega
  have g3k3_ : kd N (gr N g₀ 3) = 1 := by rw [g33_]; exact ka3_
  have g4n3_ : gr N g₀ 4 ≠ 0 := by omega
  have g4k3_ : kd N (gr N g₀ 4) = 1 := by rw [g43_]; exact kb3_
  have g5n3_ : gr N g₀ 5 ≠ 0 := by omega
  have g5k3_ : kd N (gr N g₀ 5) = 2 := by rw [g53_]; exact kk3_
  have t53_ : gr N (gr N g₀ 0) 5 = t₀ + 3 := by rw [g03_]; exact s53_
  have t5n3_ : gr N (gr N g₀ 0) 5 ≠ 0 := by omega
  have t5k3_ : kd N (gr N (gr N g₀ 0) 5) = 4 := by rw [t53_]; exact kct3_
  have t33_ : gr N (gr N g₀ 0) 3 = t₀ + 1 := by rw [g03_]; exact s33_
  have t3n3_ : gr N (gr N g₀ 0) 3 ≠ 0 := by omega
  have t3k3_ : kd N (gr N (gr N g₀ 0) 3) = 8 := by rw [t33_]; exact kht3_
  have t3l3_ : ln N (gr N (gr N g₀ 0) 3) = 12 := by rw [t33_]; exact lht3_
  have t43_ : gr N (gr N g₀ 0) 4 = t₀ + 2 := by rw [g03_]; exact s43_
  have t4n3_ : gr N (gr N g₀ 0) 4 ≠ 0 := by omega
  have t4k3_ : kd N (gr N (gr N g₀ 0) 4) = 8 := by rw [t43_]; exact kwt3_
  have t4l3_ : ln N (gr N (gr N g₀ 0) 4) = 10 := by rw [t43_]; exact lwt3_
  have u53_ : gr N (gr N g₀ 1) 5 = u₀ + 3 := by rw [g13_]; exact r53_
  have u5n3_ : gr N (gr N g₀ 1) 5 ≠ 0 := by omega
  have u5k3_ : kd N (gr N (gr N g₀ 1) 5) = 4 := by rw [u53_]; exact kcu3_
  have u33_ : gr N (gr N g₀ 1) 3 = u₀ + 1 := by rw [g13_]; exact r33_
  have u3n3_ : gr N (gr N g₀ 1) 3 ≠ 0 := by omega
  have u3k3_ : kd N (gr N (gr N g₀ 1) 3) = 8 := by rw [u33_]; exact khu3_
  have u3l3_ : ln N (gr N (gr N g₀ 1) 3) = 12 := by rw [u33_]; exact lhu3_
  have u43_ : gr N (gr N g₀ 1) 4 = u₀ + 2 := by rw [g13_]; exact r43_
  have u4n3_ : gr N (gr N g₀ 1) 4 ≠ 0 := by omega
  have u4k3_ : kd N (gr N (gr N g₀ 1) 4) = 8 := by rw [u43_]; exact kwu3_
  have u4l3_ : ln N (gr N (gr N g₀ 1) 4) = 10 := by rw [u43_]; exact lwu3_
  clear F2'
  have zN : gi N (g₀ + 261 + 1) 0 = gi M (g₀ + 261 + 1) 0 := by
    have a1₀ := q2₀.1.2.2.2.2.2.2 (g₀ + 261 + 1) 0 (by omega)
    have a2 := (q9₀.1.2.2.2.2.2.2 (g₀ + 261 + 1) 0).resolve_left (by omega)
    have a3 := mm_f_gi FR (g₀ + 261 + 1) 0 (by omega)
    omega
  have b5n : gr N (gr N g₀ 5) 2 = g₀ + 261 + 1 := by rw [g53_]; exact kg3_
  have b5nn : gr N (gr N g₀ 5) 2 ≠ 0 := by omega
  have b5k : kd N (gr N (gr N g₀ 5) 2) = 4 := by rw [b5n]; exact kbc3_
  have zz := bl.1.2.2.2.2.2.2.1
  have x9 : gi N (gr N (gr N g₀ 5) 2) 0 = gi M (g₀ + 261 + 1) 0 := by rw [b5n]; exact zN
  have pz1 : gi N (gr N (gr N g₀ 5) 2) 0 * x₀ = gi M (g₀ + 261 + 1) 0 * x₀ := by rw [x9]
  have pz : 0 ≤ gi M (g₀ + 261 + 1) 0 * x₀ ∧ gi M (g₀ + 261 + 1) 0 * x₀ ≤ 120 * 4 := ⟨Int.mul_nonneg (by omega) (by omega), Int.mul_le_mul (by omega) (by omega) (by omega) (by omega)⟩
  have py1 : gi N (gr N (gr N g₀ 5) 2) 0 * x₀ * y₀ = gi M (g₀ + 261 + 1) 0 * x₀ * y₀ := by rw [x9]
  have py : 0 ≤ gi M (g₀ + 261 + 1) 0 * x₀ * y₀ ∧ gi M (g₀ + 261 + 1) 0 * x₀ * y₀ ≤ 120 * 4 * 4 := ⟨Int.mul_nonneg pz.1 (by omega), Int.mul_le_mul pz.2 (by omega) (by omega) (by omega)⟩
  have Q₀ : some (Sum.inl (gi N (gr N (gr N g₀ 5) 2) 0 * x₀ * y₀) : mg_V) = some (.inl (gi M (g₀ + 261 + 1) 0 * x₀ * y₀)) ∧ ∃ N1 N2, mh_rmb (mg_put4 M (g₀ + 260) r₀ c₀ (r₀ + x₀ * U₀ - 1) (c₀ + y₀ * V - 1)) N1 g₀ t₀ u₀ ∧ mh_np N1 N2 t₀ (gi N1 t₀ 0) (gi N1 t₀ 1) (gi N1 t₀ 2) (mh_u0 N1 t₀ r₀ (r₀ + x₀ * U₀ - 1) c₀ (c₀ + y₀ * V - 1) U₀ V g0) (mh_u1 N1 t₀ r₀ (r₀ + x₀ * U₀ - 1) c₀ (c₀ + y₀ * V - 1) U₀ V g1) (mh_u2 N1 t₀ 2 r₀ (r₀ + x₀ * U₀ - 1) c₀ (c₀ + y₀ * V - 1) U₀ V g2) (mh_u2 N1 t₀ 3 r₀ (r₀ + x₀ * U₀ - 1) c₀ (c₀ + y₀ * V - 1) U₀ V g3₀) (mh_u2 N1 t₀ 4 r₀ (r₀ + x₀ * U₀ - 1) c₀ (c₀ + y₀ * V - 1) U₀ V g4) (mh_u2 N1 t₀ 5 r₀ (r₀ + x₀ * U₀ - 1) c₀ (c₀ + y₀ * V - 1) U₀ V g5₀) (fun k₀ => gi N1 (t₀ + 2) k₀.toNat) (fun k₀ => gi N1 (t₀ + 1) k₀.toNat) ∧ mh_hs N2 N t₀ (g₀ + 259) 0 0 0 0 := ⟨by rw [x9], N1, N2, by rw [← hY]; exact Rr, q9₀, q2₀⟩
  clear q9₀ q2₀ Rr K1 E1₀ FR K9 K5 bl bl5 hg hcc hac E5 A5 ce5 cb5 fx
  (repeat' (((conv => whnf); first | (show (_ : Option mg_V) = _ ∧ _; assumption) | (show K _ _ _ _ _; assumption) | (show mm_th _ _ _ _; assumption) | refine And.intro (by first | assumption | omega | (simp only [true_and]; first | done | assumption | omega)) ?_ | (refine And.intro (fun _ => ?_) (fun _ => ?_) <;> first | (exfalso; omega) | skip) | intro _ | fail)))
set_option maxRecDepth 100000 in
theorem cX5_paste1 {D : mg_D} {l : Launch} (hl : l.stackTraces = false) {M : mg_M} {g₀ t₀ u₀ : Nat} {r₀ c₀ x₀ y₀ : Int} (K9 : mh_K M g₀ t₀ u₀) (h₀ : ¬ mh_rg (gi M t₀ 0) (gi M t₀ 1) r₀ c₀) : mg_Mt D l 97 [.inr (.inl g₀), .inl r₀, .inl c₀, .inl x₀, .inl y₀] M mh_nN (mh_tX 1 M) := by
  refine mg_of2 hl ok_X5_paste al_X5_paste rfl (fun K hK₀ => ?_)
  have F9 := mh_gF_of K9
  obtain ⟨⟨k6₀, g0, g1, g3₀, g4, g5₀⟩, ⟨kt, s5, s3₀, s4₀, kct, ⟨kht, lht⟩, ⟨kwt, lwt⟩⟩, ⟨ku, r5₀, r3, r4, kcu, ⟨khu, lhu⟩, ⟨kwu, lwu⟩⟩, ⟨ka, kb, kk, kg, kbc⟩, pl⟩ := F9
  have g0n : gr M g₀ 0 ≠ 0 := by omega
  have g0k : kd M (gr M g₀ 0) = 5 := by rw [g0]; exact kt
  have g1n : gr M g₀ 1 ≠ 0 := by omega
  have g1k : kd M (gr M g₀ 1) = 5 := by rw [g1]; exact ku
  have g3n : gr M g₀ 3 ≠ 0 := by omega
  have g3k : kd M (gr M g₀ 3) = 1 := by rw [g3₀]; exact ka
  have g4n : gr M g₀ 4 ≠ 0 := by omega
  have g4k : kd M (gr M g₀ 4) = 1 := by rw [g4]; exact kb
  have g5n : gr M g₀ 5 ≠ 0 := by omega
  have g5k : kd M (gr M g₀ 5) = 2 := by rw [g5₀]; exact kk
  have t5₀ : gr M (gr M g₀ 0) 5 = t₀ + 3 := by rw [g0]; exact s5
  have t5n : gr M (gr M g₀ 0) 5 ≠ 0 := by omega
  have t5k : kd M (gr M (gr M g₀ 0) 5) = 4 := by rw [t5₀]; exact kct
  have t3₀ : gr M (gr M g₀ 0) 3 = t₀ + 1 := by rw [g0]; exact s3₀
  have t3n : gr M (gr M g₀ 0) 3 ≠ 0 := by omega
  have t3k : kd M (gr M (gr M g₀ 0) 3) = 8 := by rw [t3₀]; exact kht
  have t3l : ln M (gr M (gr M g₀ 0) 3) = 12 := by rw [t3₀]; exact lht
  have t4₀ : gr M (gr M g₀ 0) 4 = t₀ + 2 := by rw [g0]; exact s4₀
  have t4n : gr M (gr M g₀ 0) 4 ≠ 0 := by omega
  have t4k : kd M (gr M (gr M g₀ 0) 4) = 8 := by rw [t4₀]; exact kwt
  have t4l : ln M (gr M (gr M g₀ 0) 4) = 10 := by rw [t4₀]; exact lwt
  have u5 : gr M (gr M g₀ 1) 5 = u₀ + 3 := by rw [g1]; exact r5₀
  have u5n : gr M (gr M g₀ 1) 5 ≠ 0 := by omega
  have u5k : kd M (gr M (gr M g₀ 1) 5) = 4 := by rw [u5]; exact kcu
  have u3 : gr M (gr M g₀ 1) 3 = u₀ + 1 := by rw [g1]; exact r3
  have u3n : gr M (gr M g₀ 1) 3 ≠ 0 := by omega
  have u3k : kd M (gr M (gr M g₀ 1) 3) = 8 := by rw [u3]; exact khu
  have u3l : ln M (gr M (gr M g₀ 1) 3) = 12 := by rw [u3]; exact lhu
  have u4₀ : gr M (gr M g₀ 1) 4 = u₀ + 2 := by rw [g1]; exact r4
  have u4n : gr M (gr M g₀ 1) 4 ≠ 0 := by omega
  have u4k : kd M (gr M (gr M g₀ 1) 4) = 8 := by rw [u4₀]; exact kwu
  have u4l : ln M (gr M (gr M g₀ 1) 4) = 10 := by rw [u4₀]; exact lwu
  have e0₀ : gi M (gr M g₀ 0) 0 = gi M t₀ 0 := by rw [g0]
  have e1₀ : gi M (gr M g₀ 0) 1 = gi M t₀ 1 := by rw [g0]
  have e2₀ : gi M (gr M g₀ 0) 2 = gi M t₀ 2 := by rw [g0]
  have c1₀ := @cX5_checkSquare1 D l hl M g₀ t₀ r₀ c₀ K9.1.1 h₀
  clear K9
  refine hK₀ _ _ _ _ _ ?_
  (repeat' (((conv => whnf); first | (show (_ : Option mg_V) = _ ∧ _; assumption) | (show K _ _ _ _ _; assumption) | (show mm_th _ _ _ _; assumption) | refine And.intro (by first | assumption | omega | (simp only [true_and]; first | done | assumption | omega)) ?_ | (refine And.intro (fun _ => ?_) (fun _ => ?_) <;> first | (exfalso; omega) | skip) | intro _ | fail)))
  all_goals ((conv => whnf); skip)
  (refine Exists.intro _ (Exists.intro _ (And.intro (c1₀) (And.intro (fun _ _ h₀ => h₀.elim) ?_))); rintro _ _ ⟨rfl, n9, hn9, rfl⟩; (conv => whnf); first | exact ⟨rfl, n9, hn9, rfl⟩ | exact ⟨n9, hn9, rfl⟩)
set_option maxRecDepth 100000 in
theorem cX5_paste2 {D : mg_D} {l : Launch} (hl : l.stackTraces = false) {M : mg_M} {g₀ t₀ u₀ : Nat} {r₀ c₀ x₀ y₀ : Int} (K9 : mh_K M g₀ t₀ u₀) (h₀ : mh_rg (gi M t₀ 0) (gi M t₀ 1) r₀ c₀) (hx : ¬ ((1 ≤ x₀ ∧ x₀ ≤ 4) ∧ (1 ≤ y₀ ∧ y₀ ≤ 4))) : mg_Mt D l 97 [.inr (.inl g₀), .inl r₀, .inl c₀, .inl x₀, .inl y₀] M mh_nN (mh_tX 3 M) := by
  refine mg_of2 hl ok_X5_paste al_X5_paste rfl (fun K hK₀ => ?_)
  have F9 := mh_gF_of K9
  obtain ⟨⟨k6₀, g0, g1, g3₀, g4, g5₀⟩, ⟨kt, s5, s3₀, s4₀, kct, ⟨kht, lht⟩, ⟨kwt, lwt⟩⟩, ⟨ku, r5₀, r3, r4, kcu, ⟨khu, lhu⟩, ⟨kwu, lwu⟩⟩, ⟨ka, kb, kk, kg, kbc⟩, pl⟩ := F9
  have g0n : gr M g₀ 0 ≠ 0 := by omega
  have g0k : kd M (gr M g₀ 0) = 5 := by rw [g0]; exact kt
  have g1n : gr M g₀ 1 ≠ 0 := by omega
  have g1k : kd M (gr M g₀ 1) = 5 := by rw [g1]; exact ku
  have g3n : gr M g₀ 3 ≠ 0 := by omega
  have g3k : kd M (gr M g₀ 3) = 1 := by rw [g3₀]; exact ka
  have g4n : gr M g₀ 4 ≠ 0 := by omega
  have g4k : kd M (gr M g₀ 4) = 1 := by rw [g4]; exact kb
  have g5n : gr M g₀ 5 ≠ 0 := by omega
  have g5k : kd M (gr M g₀ 5) = 2 := by rw [g5₀]; exact kk
  have t5₀ : gr M (gr M g₀ 0) 5 = t₀ + 3 := by rw [g0]; exact s5
  have t5n : gr M (gr M g₀ 0) 5 ≠ 0 := by omega
  have t5k : kd M (gr M (gr M g₀ 0) 5) = 4 := by rw [t5₀]; exact kct
  have t3₀ : gr M (gr M g₀ 0) 3 = t₀ + 1 := by rw [g0]; exact s3₀
  have t3n : gr M (gr M g₀ 0) 3 ≠ 0 := by omega
  have t3k : kd M (gr M (gr M g₀ 0) 3) = 8 := by rw [t3₀]; exact kht
  have t3l : ln M (gr M (gr M g₀ 0) 3) = 12 := by rw [t3₀]; exact lht
  have t4₀ : gr M (gr M g₀ 0) 4 = t₀ + 2 := by rw [g0]; exact s4₀
  have t4n : gr M (gr M g₀ 0) 4 ≠ 0 := by omega
  have t4k : kd M (gr M (gr M g₀ 0) 4) = 8 := by rw [t4₀]; exact kwt
  have t4l : ln M (gr M (gr M g₀ 0) 4) = 10 := by rw [t4₀]; exact lwt
  have u5 : gr M (gr M g₀ 1) 5 = u₀ + 3 := by rw [g1]; exact r5₀
  have u5n : gr M (gr M g₀ 1) 5 ≠ 0 := by omega
  have u5k : kd M (gr M (gr M g₀ 1) 5) = 4 := by rw [u5]; exact kcu
  have u3 : gr M (gr M g₀ 1) 3 = u₀ + 1 := by rw [g1]; exact r3
  have u3n : gr M (gr M g₀ 1) 3 ≠ 0 := by omega
  have u3k : kd M (gr M (gr M g₀ 1) 3) = 8 := by rw [u3]; exact khu
  have u3l : ln M (gr M (gr M g₀ 1) 3) = 12 := by rw [u3]; exact lhu
  have u4₀ : gr M (gr M g₀ 1) 4 = u₀ + 2 := by rw [g1]; exact r4
  have u4n : gr M (gr M g₀ 1) 4 ≠ 0 := by omega
  have u4k : kd M (gr M (gr M g₀ 1) 4) = 8 := by rw [u4₀]; exact kwu
  have u4l : ln M (gr M (gr M g₀ 1) 4) = 10 := by rw [u4₀]; exact lwu
  have e0₀ : gi M (gr M g₀ 0) 0 = gi M t₀ 0 := by rw [g0]
  have e1₀ : gi M (gr M g₀ 0) 1 = gi M t₀ 1 := by rw [g0]
  have e2₀ : gi M (gr M g₀ 0) 2 = gi M t₀ 2 := by rw [g0]
  have c1₀ := @cX5_checkSquare0 D l hl M g₀ t₀ r₀ c₀ K9.1.1 h₀
  have t1₀ := @cX5_isTimes D l hl M x₀
  have t2₀ := @cX5_isTimes D l hl M y₀
  clear K9
  by_cases h1 : 1 ≤ x₀ ∧ x₀ ≤ 4
  · rw [if_pos h1] at t1₀
    rw [if_neg (fun w₀ => hx ⟨h1, w₀⟩)] at t2₀
    refine hK₀ _ _ _ _ _ ?_
    (repeat' (((conv => whnf); first | (show (_ : Option mg_V) = _ ∧ _; assumption) | (show K _ _ _ _ _; assumption) | (show mm_th _ _ _ _; assumption) | refine And.intro (by first | assumption | omega | (simp only [true_and]; first | done | assumption | omega)) ?_ | (refine And.intro (fun _ => ?_) (fun _ => ?_) <;> first | (exfalso; omega) | skip) | intro _ | fail)))
    all_goals (try ((conv => whnf); (refine Exists.intro _ (Exists.intro _ (And.intro (c1₀) (And.intro ?_ (fun _ _ h₀ => h₀.elim)))); rintro _ _ ⟨rfl, e₀⟩; have e2₀ := e₀.symm; clear e₀; subst e2₀); (repeat' (((conv => whnf); first | (show (_ : Option mg_V) = _ ∧ _; assumption) | (show K _ _ _ _ _; assumption) | (show mm_th _ _ _ _; assumption) | refine And.intro (by first | assumption | omega | (simp only [true_and]; first | done | assumption | omega)) ?_ | (refine And.intro (fun _ => ?_) (fun _ => ?_) <;> first | (exfalso; omega) | skip) | intro _ | fail)))))
    all_goals (try ((conv => whnf); (refine Exists.intro _ (Exists.intro _ (And.intro (t1₀) (And.intro ?_ (fun _ _ h₀ => h₀.elim)))); rintro _ _ ⟨rfl, e₀⟩; have e2₀ := e₀.symm; clear e₀; subst e2₀); (repeat' (((conv => whnf); first | (show (_ : Option mg_V) = _ ∧ _; assumption) | (show K _ _ _ _ _; assumption) | (show mm_th _ _ _ _; assumption) | refine And.intro (by first | assumption | omega | (simp only [true_and]; first | done | assumption | omega)) ?_ | (refine And.intro (fun _ => ?_) (fun _ => ?_) <;> first | (exfalso; omega) | skip) | intro _ | fail)))))
    all_goals (try ((conv => whnf); (refine Exists.intro _ (Exists.intro _ (And.intro (t2₀) (And.intro ?_ (fun _ _ h₀ => h₀.elim)))); rintro _ _ ⟨rfl, e₀⟩; have e2₀ := e₀.symm; clear e₀; subst e2₀); (repeat' (((conv => whnf); first | (show (_ : Option mg_V) = _ ∧ _; assumption) | (show K _ _ _ _ _; assumption) | (show mm_th _ _ _ _; assumption) | refine And.intro (by first | assumption | omega | (simp only [true_and]; first | done | assumption | omega)) ?_ | (refine And.intro (fun _ => ?_) (fun _ => ?_) <;> first | (exfalso; omega) | skip) | intro _ | fail)))))
    all_goals (first | exact ⟨_, by assumption, rfl⟩ | exact ⟨rfl, _, by assumption, rfl⟩)
  · rw [if_neg h1] at t1₀
    refine hK₀ _ _ _ _ _ ?_
    (repeat' (((conv => whnf); first | (show (_ : Option mg_V) = _ ∧ _; assumption) | (show K _ _ _ _ _; assumption) | (show mm_th _ _ _ _; assumption) | refine And.intro (by first | assumption | omega | (simp only [true_and]; first | done | assumption | omega)) ?_ | (refine And.intro (fun _ => ?_) (fun _ => ?_) <;> first | (exfalso; omega) | skip) | intro _ | fail)))
    all_goals (try ((conv => whnf); (refine Exists.intro _ (Exists.intro _ (And.intro (c1₀) (And.intro ?_ (fun _ _ h₀ => h₀.elim)))); rintro _ _ ⟨rfl, e₀⟩; have e2₀ := e₀.symm; clear e₀; subst e2₀); (repeat' (((conv => whnf); first | (show (_ : Option mg_V) = _ ∧ _; assumption) | (show K _ _ _ _ _; assumption) | (show mm_th _ _ _ _; assumption) | refine And.intro (by first | assumption | omega | (simp only [true_and]; first | done | assumption | omega)) ?_ | (refine And.intro (fun _ => ?_) (fun _ => ?_) <;> first | (exfalso; omega) | skip) | intro _ | fail)))))
    all_goals (try ((conv => whnf); (refine Exists.intro _ (Exists.intro _ (And.intro (t1₀) (And.intro ?_ (fun _ _ h₀ => h₀.elim)))); rintro _ _ ⟨rfl, e₀⟩; have e2₀ := e₀.symm; clear e₀; subst e2₀); (repeat' (((conv => whnf); first | (show (_ : Option mg_V) = _ ∧ _; assumption) | (show K _ _ _ _ _; assumption) | (show mm_th _ _ _ _; assumption) | refine And.intro (by first | assumption | omega | (simp only [true_and]; first | done | assumption | omega)) ?_ | (refine And.intro (fun _ => ?_) (fun _ => ?_) <;> first | (exfalso; omega) | skip) | intro _ | fail)))))
    all_goals (first | exact ⟨_, by assumption, rfl⟩ | exact ⟨rfl, _, by assumption, rfl⟩)
set_option maxRecDepth 100000 in
theorem cX5_paste3 {D : mg_D} {l : Launch} (hl : l.stackTraces = false) {M : mg_M} {g₀ t₀ u₀ : Nat} {r₀ c₀ x₀ y₀ : Int} (K9 : mh_K M g₀ t₀ u₀) (h₀ : mh_rg (gi M t₀ 0) (gi M t₀ 1) r₀ c₀) (hx : (1 ≤ x₀ ∧ x₀ ≤ 4) ∧ (1 ≤ y₀ ∧ y₀ ≤ 4)) (hz : gi M (g₀ + 261) 0 = 0) : mg_Mt D l 97 [.inr (.inl g₀), .inl r₀, .inl c₀, .inl x₀, .inl y₀] M mh_nN (mh_tX 2 M) := by
  refine mg_of2 hl ok_X5_paste al_X5_paste rfl (fun K hK₀ => ?_)
  have F9 := mh_gF_of K9
  obtain ⟨⟨k6₀, g0, g1, g3₀, g4, g5₀⟩, ⟨kt, s5, s3₀, s4₀, kct, ⟨kht, lht⟩, ⟨kwt, lwt⟩⟩, ⟨ku, r5₀, r3, r4, kcu, ⟨khu, lhu⟩, ⟨kwu, lwu⟩⟩, ⟨ka, kb, kk, kg, kbc⟩, pl⟩ := F9
  have g0n : gr M g₀ 0 ≠ 0 := by omega
  have g0k : kd M (gr M g₀ 0) = 5 := by rw [g0]; exact kt
  have g1n : gr M g₀ 1 ≠ 0 := by omega
  have g1k : kd M (gr M g₀ 1) = 5 := by rw [g1]; exact ku
  have g3n : gr M g₀ 3 ≠ 0 := by omega
  have g3k : kd M (gr M g₀ 3) = 1 := by rw [g3₀]; exact ka
  have g4n : gr M g₀ 4 ≠ 0 := by omega
  have g4k : kd M (gr M g₀ 4) = 1 := by rw [g4]; exact kb
  have g5n : gr M g₀ 5 ≠ 0 := by omega
  have g5k : kd M (gr M g₀ 5) = 2 := by rw [g5₀]; exact kk
  have t5₀ : gr M (gr M g₀ 0) 5 = t₀ + 3 := by rw [g0]; exact s5
  have t5n : gr M (gr M g₀ 0) 5 ≠ 0 := by omega
  have t5k : kd M (gr M (gr M g₀ 0) 5) = 4 := by rw [t5₀]; exact kct
  have t3₀ : gr M (gr M g₀ 0) 3 = t₀ + 1 := by rw [g0]; exact s3₀
  have t3n : gr M (gr M g₀ 0) 3 ≠ 0 := by omega
  have t3k : kd M (gr M (gr M g₀ 0) 3) = 8 := by rw [t3₀]; exact kht
  have t3l : ln M (gr M (gr M g₀ 0) 3) = 12 := by rw [t3₀]; exact lht
  have t4₀ : gr M (gr M g₀ 0) 4 = t₀ + 2 := by rw [g0]; exact s4₀
  have t4n : gr M (gr M g₀ 0) 4 ≠ 0 := by omega
  have t4k : kd M (gr M (gr M g₀ 0) 4) = 8 := by rw [t4₀]; exact kwt
  have t4l : ln M (gr M (gr M g₀ 0) 4) = 10 := by rw [t4₀]; exact lwt
  have u5 : gr M (gr M g₀ 1) 5 = u₀ + 3 := by rw [g1]; exact r5₀
  have u5n : gr M (gr M g₀ 1) 5 ≠ 0 := by omega
  have u5k : kd M (gr M (gr M g₀ 1) 5) = 4 := by rw [u5]; exact kcu
  have u3 : gr M (gr M g₀ 1) 3 = u₀ + 1 := by rw [g1]; exact r3
  have u3n : gr M (gr M g₀ 1) 3 ≠ 0 := by omega
  have u3k : kd M (gr M (gr M g₀ 1) 3) = 8 := by rw [u3]; exact khu
  have u3l : ln M (gr M (gr M g₀ 1) 3) = 12 := by rw [u3]; exact lhu
  have u4₀ : gr M (gr M g₀ 1) 4 = u₀ + 2 := by rw [g1]; exact r4
  have u4n : gr M (gr M g₀ 1) 4 ≠ 0 := by omega
  have u4k : kd M (gr M (gr M g₀ 1) 4) = 8 := by rw [u4₀]; exact kwu
  have u4l : ln M (gr M (gr M g₀ 1) 4) = 10 := by rw [u4₀]; exact lwu
  have e0₀ : gi M (gr M g₀ 0) 0 = gi M t₀ 0 := by rw [g0]
  have e1₀ : gi M (gr M g₀ 0) 1 = gi M t₀ 1 := by rw [g0]
  have e2₀ : gi M (gr M g₀ 0) 2 = gi M t₀ 2 := by rw [g0]
  have ck := @cX5_checkSquare0 D l hl M g₀ t₀ r₀ c₀ K9.1.1 h₀
  have t1₀ := @cX5_isTimes D l hl M x₀
  have t2₀ := @cX5_isTimes D l hl M y₀
  rw [if_pos hx.1] at t1₀
  rw [if_pos hx.2] at t2₀
  have bn := @cX1_isNothing D l hl M (g₀ + 261) kk
  rw [if_pos hz] at bn
  clear K9
  refine hK₀ _ _ _ _ _ ?_
  (repeat' (((conv => whnf); first | (show (_ : Option mg_V) = _ ∧ _; assumption) | (show K _ _ _ _ _; assumption) | (show mm_th _ _ _ _; assumption) | refine And.intro (by first | assumption | omega | (simp only [true_and]; first | done | assumption | omega)) ?_ | (refine And.intro (fun _ => ?_) (fun _ => ?_) <;> first | (exfalso; omega) | skip) | intro _ | fail)))
  all_goals (try ((conv => whnf); (refine Exists.intro _ (Exists.intro _ (And.intro (ck) (And.intro ?_ (fun _ _ h₀ => h₀.elim)))); rintro _ _ ⟨rfl, e₀⟩; have e2₀ := e₀.symm; clear e₀; subst e2₀); (repeat' (((conv => whnf); first | (show (_ : Option mg_V) = _ ∧ _; assumption) | (show K _ _ _ _ _; assumption) | (show mm_th _ _ _ _; assumption) | refine And.intro (by first | assumption | omega | (simp only [true_and]; first | done | assumption | omega)) ?_ | (refine And.intro (fun _ => ?_) (fun _ => ?_) <;> first | (exfalso; omega) | skip) | intro _ | fail)))))
  all_goals (try ((conv => whnf); (refine Exists.intro _ (Exists.intro _ (And.intro (t1₀) (And.intro ?_ (fun _ _ h₀ => h₀.elim)))); rintro _ _ ⟨rfl, e₀⟩; have e2₀ := e₀.symm; clear e₀; subst e2₀); (repeat' (((conv => whnf); first | (show (_ : Option mg_V) = _ ∧ _; assumption) | (show K _ _ _ _ _; assumption) | (show mm_th _ _ _ _; assumption) | refine And.intro (by first | assumption | omega | (simp only [true_and]; first | done | assumption | omega)) ?_ | (refine And.intro (fun _ => ?_) (fun _ => ?_) <;> first | (exfalso; omega) | skip) | intro _ | fail)))))
  all_goals (try ((conv => whnf); (refine Exists.intro _ (Exists.intro _ (And.intro (t2₀) (And.intro ?_ (fun _ _ h₀ => h₀.elim)))); rintro _ _ ⟨rfl, e₀⟩; have e2₀ := e₀.symm; clear e₀; subst e2₀); (repeat' (((conv => whnf); first | (show (_ : Option mg_V) = _ ∧ _; assumption) | (show K _ _ _ _ _; assumption) | (show mm_th _ _ _ _; assumption) | refine And.intro (by first | assumption | omega | (simp only [true_and]; first | done | assumption | omega)) ?_ | (refine And.intro (fun _ => ?_) (fun _ => ?_) <;> first | (exfalso; omega) | skip) | intro _ | fail)))))
  all_goals ((conv => whnf); (try rw [g0]); (try rw [g1]); (try rw [s5]); (try rw [s3₀]); (try rw [s4₀]); (try rw [r5₀]); (try rw [g3₀]); (try rw [g4]); (try rw [g5₀]))
  (refine Exists.intro _ (Exists.intro _ (And.intro (bn) (And.intro ?_ (fun _ _ h₀ => h₀.elim)))); rintro _ _ ⟨rfl, e₀⟩; have e2₀ := e₀.symm; clear e₀; subst e2₀)
  (repeat' (((conv => whnf); first | (show (_ : Option mg_V) = _ ∧ _; assumption) | (show K _ _ _ _ _; assumption) | (show mm_th _ _ _ _; assumption) | refine And.intro (by first | assumption | omega | (simp only [true_and]; first | done | assumption | omega)) ?_ | (refine And.intro (fun _ => ?_) (fun _ => ?_) <;> first | (exfalso; omega) | skip) | intro _ | fail)))
  all_goals (first | exact ⟨_, by assumption, rfl⟩ | exact ⟨rfl, _, by assumption, rfl⟩)
set_option maxRecDepth 100000 in
theorem cX5_paste3b {D : mg_D} {l : Launch} (hl : l.stackTraces = false) {M : mg_M} {g₀ t₀ u₀ : Nat} {r₀ c₀ x₀ y₀ : Int} {U₀ V : Int} (K9 : mh_K M g₀ t₀ u₀) (h₀ : mh_rg (gi M t₀ 0) (gi M t₀ 1) r₀ c₀) (hx : (1 ≤ x₀ ∧ x₀ ≤ 4) ∧ (1 ≤ y₀ ∧ y₀ ≤ 4)) (hU : gi M (g₀ + 261) 0 = U₀ ∧ gi M (g₀ + 261) 1 = V ∧ 1 ≤ U₀ ∧ 1 ≤ V) (hU2 : U₀ ≤ 12 ∧ V ≤ 10) (hf : ¬ (r₀ + x₀ * U₀ ≤ gi M t₀ 0 ∧ c₀ + y₀ * V ≤ gi M t₀ 1)) : mg_Mt D l 97 [.inr (.inl g₀), .inl r₀, .inl c₀, .inl x₀, .inl y₀] M mh_nN (mh_tS 2 M g₀) := by
  refine mg_of2 hl ok_X5_paste al_X5_paste rfl (fun K hK₀ => ?_)
  have F9 := mh_gF_of K9
  have bbM := K9.2.2.2.1.1.1.2.2
  have ck := @cX5_checkSquare0 D l hl M g₀ t₀ r₀ c₀ K9.1.1 h₀
  have t1₀ := @cX5_isTimes D l hl M x₀
  have t2₀ := @cX5_isTimes D l hl M y₀
  rw [if_pos hx.1] at t1₀
  rw [if_pos hx.2] at t2₀
  have bn := @cX1_isNothing D l hl M (g₀ + 261) F9.2.2.2.1.2.2.1
  rw [if_neg (by omega)] at bn
  have xU : 1 ≤ x₀ * U₀ ∧ 1 ≤ y₀ * V := ⟨Int.mul_pos (by omega) (by omega), Int.mul_pos (by omega) (by omega)⟩
  have xU3 : x₀ * U₀ ≤ 4 * 12 ∧ y₀ * V ≤ 4 * 10 := ⟨Int.mul_le_mul (by omega) (by omega) (by omega) (by omega), Int.mul_le_mul (by omega) (by omega) (by omega) (by omega)⟩
  have ez0 : gi M (gr M g₀ 5) 0 = U₀ := by rw [F9.1.2.2.2.2.2]; exact hU.1
  have ez1 : gi M (gr M g₀ 5) 1 = V := by rw [F9.1.2.2.2.2.2]; exact hU.2.1
  have p0₀ : x₀ * gi M (gr M g₀ 5) 0 = x₀ * U₀ := by rw [ez0]
  have p1₀ : y₀ * gi M (gr M g₀ 5) 1 = y₀ * V := by rw [ez1]
  have sp₀ : mg_Mt D l 15 [.inr (.inl (g₀ + 260)), .inl r₀, .inl c₀, .inl (r₀ + x₀ * U₀ - 1), .inl (c₀ + y₀ * V - 1)] M (fun v₀ M' => v₀ = none ∧ M' = mg_put4 M (g₀ + 260) r₀ c₀ (r₀ + x₀ * U₀ - 1) (c₀ + y₀ * V - 1)) mg_no := by
    have := @cX0_span D l hl M (g₀ + 260) r₀ c₀ (r₀ + x₀ * U₀ - 1) (c₀ + y₀ * V - 1) F9.2.2.2.1.2.1
    rw [show min r₀ (r₀ + x₀ * U₀ - 1) = r₀ by omega, show min c₀ (c₀ + y₀ * V - 1) = c₀ by omega, show max r₀ (r₀ + x₀ * U₀ - 1) = r₀ + x₀ * U₀ - 1 by omega, show max c₀ (c₀ + y₀ * V - 1) = c₀ + y₀ * V - 1 by omega] at this
    exact this
  have fx := @mh_fx_p4 M (g₀ + 260) r₀ c₀ (r₀ + x₀ * U₀ - 1) (c₀ + y₀ * V - 1)
  obtain ⟨y0, y1, y2, y3⟩ := @mh_p4_at M (g₀ + 260) r₀ c₀ (r₀ + x₀ * U₀ - 1) (c₀ + y₀ * V - 1)
  have Yd : ∃ Y, Y = mg_put4 M (g₀ + 260) r₀ c₀ (r₀ + x₀ * U₀ - 1) (c₀ + y₀ * V - 1) := ⟨_, rfl⟩
  obtain ⟨Y, hY⟩ := Yd
  rw [← hY] at sp₀ fx y0 y1 y2 y3
  obtain ⟨K5, E5, A5⟩ := mh_sk_K K9 fx
  have F5 := mh_gF_of K5
  have u0 := (E5 t₀ (by omega) (by omega)).2.2.2 0
  have u1₀ := (E5 t₀ (by omega) (by omega)).2.2.2 1
  obtain ⟨⟨k6₀, g0, g1, g3₀, g4, g5₀⟩, ⟨kt, s5, s3₀, s4₀, kct, ⟨kht, lht⟩, ⟨kwt, lwt⟩⟩, ⟨ku, r5₀, r3, r4, kcu, ⟨khu, lhu⟩, ⟨kwu, lwu⟩⟩, ⟨ka, kb, kk, kg, kbc⟩, pl⟩ := F9
  have g0n : gr M g₀ 0 ≠ 0 := by omega
  have g0k : kd M (gr M g₀ 0) = 5 := by rw [g0]; exact kt
  have g1n : gr M g₀ 1 ≠ 0 := by omega
  have g1k : kd M (gr M g₀ 1) = 5 := by rw [g1]; exact ku
  have g3n : gr M g₀ 3 ≠ 0 := by omega
  have g3k : kd M (gr M g₀ 3) = 1 := by rw [g3₀]; exact ka
  have g4n : gr M g₀ 4 ≠ 0 := by omega
  have g4k : kd M (gr M g₀ 4) = 1 := by rw [g4]; exact kb
  have g5n : gr M g₀ 5 ≠ 0 := by omega
  have g5k : kd M (gr M g₀ 5) = 2 := by rw [g5₀]; exact kk
  have t5₀ : gr M (gr M g₀ 0) 5 = t₀ + 3 := by rw [g0]; exact s5
  have t5n : gr M (gr M g₀ 0) 5 ≠ 0 := by omega
  have t5k : kd M (gr M (gr M g₀ 0) 5) = 4 := by rw [t5₀]; exact kct
  have t3₀ : gr M (gr M g₀ 0) 3 = t₀ + 1 := by rw [g0]; exact s3₀
  have t3n : gr M (gr M g₀ 0) 3 ≠ 0 := by omega
  have t3k : kd M (gr M (gr M g₀ 0) 3) = 8 := by rw [t3₀]; exact kht
  have t3l : ln M (gr M (gr M g₀ 0) 3) = 12 := by rw [t3₀]; exact lht
  have t4₀ : gr M (gr M g₀ 0) 4 = t₀ + 2 := by rw [g0]; exact s4₀
  have t4n : gr M (gr M g₀ 0) 4 ≠ 0 := by omega
  have t4k : kd M (gr M (gr M g₀ 0) 4) = 8 := by rw [t4₀]; exact kwt
  have t4l : ln M (gr M (gr M g₀ 0) 4) = 10 := by rw [t4₀]; exact lwt
  have u5 : gr M (gr M g₀ 1) 5 = u₀ + 3 := by rw [g1]; exact r5₀
  have u5n : gr M (gr M g₀ 1) 5 ≠ 0 := by omega
  have u5k : kd M (gr M (gr M g₀ 1) 5) = 4 := by rw [u5]; exact kcu
  have u3 : gr M (gr M g₀ 1) 3 = u₀ + 1 := by rw [g1]; exact r3
  have u3n : gr M (gr M g₀ 1) 3 ≠ 0 := by omega
  have u3k : kd M (gr M (gr M g₀ 1) 3) = 8 := by rw [u3]; exact khu
  have u3l : ln M (gr M (gr M g₀ 1) 3) = 12 := by rw [u3]; exact lhu
  have u4₀ : gr M (gr M g₀ 1) 4 = u₀ + 2 := by rw [g1]; exact r4
  have u4n : gr M (gr M g₀ 1) 4 ≠ 0 := by omega
  have u4k : kd M (gr M (gr M g₀ 1) 4) = 8 := by rw [u4₀]; exact kwu
  have u4l : ln M (gr M (gr M g₀ 1) 4) = 10 := by rw [u4₀]; exact lwu
  have e0₀ : gi M (gr M g₀ 0) 0 = gi M t₀ 0 := by rw [g0]
  have e1₀ : gi M (gr M g₀ 0) 1 = gi M t₀ 1 := by rw [g0]
  have e2₀ : gi M (gr M g₀ 0) 2 = gi M t₀ 2 := by rw [g0]
  clear K9 E5 A5 K5
  refine hK₀ _ _ _ _ _ ?_
  (repeat' (((conv => whnf); first | (show (_ : Option mg_V) = _ ∧ _; assumption) | (show K _ _ _ _ _; assumption) | (show mm_th _ _ _ _; assumption) | refine And.intro (by first | assumption | omega | (simp only [true_and]; first | done | assumption | omega)) ?_ | (refine And.intro (fun _ => ?_) (fun _ => ?_) <;> first | (exfalso; omega) | skip) | intro _ | fail)))
  all_goals (try ((conv => whnf); (refine Exists.intro _ (Exists.intro _ (And.intro (ck) (And.intro ?_ (fun _ _ h₀ => h₀.elim)))); rintro _ _ ⟨rfl, e₀⟩; have e2₀ := e₀.symm; clear e₀; subst e2₀); (repeat' (((conv => whnf); first | (show (_ : Option mg_V) = _ ∧ _; assumption) | (show K _ _ _ _ _; assumption) | (show mm_th _ _ _ _; assumption) | refine And.intro (by first | assumption | omega | (simp only [true_and]; first | done | assumption | omega)) ?_ | (refine And.intro (fun _ => ?_) (fun _ => ?_) <;> first | (exfalso; omega) | skip) | intro _ | fail)))))
  all_goals (try ((conv => whnf); (refine Exists.intro _ (Exists.intro _ (And.intro (t1₀) (And.intro ?_ (fun _ _ h₀ => h₀.elim)))); rintro _ _ ⟨rfl, e₀⟩; have e2₀ := e₀.symm; clear e₀; subst e2₀); (repeat' (((conv => whnf); first | (show (_ : Option mg_V) = _ ∧ _; assumption) | (show K _ _ _ _ _; assumption) | (show mm_th _ _ _ _; assumption) | refine And.intro (by first | assumption | omega | (simp only [true_and]; first | done | assumption | omega)) ?_ | (refine And.intro (fun _ => ?_) (fun _ => ?_) <;> first | (exfalso; omega) | skip) | intro _ | fail)))))
  all_goals (try ((conv => whnf); (refine Exists.intro _ (Exists.intro _ (And.intro (t2₀) (And.intro ?_ (fun _ _ h₀ => h₀.elim)))); rintro _ _ ⟨rfl, e₀⟩; have e2₀ := e₀.symm; clear e₀; subst e2₀); (repeat' (((conv => whnf); first | (show (_ : Option mg_V) = _ ∧ _; assumption) | (show K _ _ _ _ _; assumption) | (show mm_th _ _ _ _; assumption) | refine And.intro (by first | assumption | omega | (simp only [true_and]; first | done | assumption | omega)) ?_ | (refine And.intro (fun _ => ?_) (fun _ => ?_) <;> first | (exfalso; omega) | skip) | intro _ | fail)))))
  all_goals ((conv => whnf); (try rw [g0]); (try rw [g1]); (try rw [s5]); (try rw [s3₀]); (try rw [s4₀]); (try rw [r5₀]); (try rw [g3₀]); (try rw [g4]); (try rw [g5₀]))
  (refine Exists.intro _ (Exists.intro _ (And.intro (bn) (And.intro ?_ (fun _ _ h₀ => h₀.elim)))); rintro _ _ ⟨rfl, e₀⟩; have e2₀ := e₀.symm; clear e₀; subst e2₀)
  (repeat' (((conv => whnf); first | (show (_ : Option mg_V) = _ ∧ _; assumption) | (show K _ _ _ _ _; assumption) | (show mm_th _ _ _ _; assumption) | refine And.intro (by first | assumption | omega | (simp only [true_and]; first | done | assumption | omega)) ?_ | (refine And.intro (fun _ => ?_) (fun _ => ?_) <;> first | (exfalso; omega) | skip) | intro _ | fail)))
  all_goals ((conv => whnf); (try rw [g4]); (try rw [p0₀]); (try rw [p1₀]))
  (refine Exists.intro _ (Exists.intro _ (And.intro (sp₀) (And.intro ?_ (fun _ _ h₀ => h₀.elim)))); rintro _ _ ⟨rfl, e₀⟩; have e2₀ := e₀.symm; clear e₀; subst e2₀)
  clear u4l u4k u4n u4₀ u3l u3k u3n u3 u5k u5n u5 t4l t4k t4n t4₀ t3l t3k t3n t3₀ t5k t5n t5₀ g5k g5n g4k g4n g3k g3n g1k g1n g0k g0n pl kbc kg kk kb ka lwu kwu lhu khu kcu r4 r3 r5₀ ku lwt kwt lht kht kct s4₀ s3₀ s5 kt g5₀ g4 g3₀ g1 g0 k6₀
  obtain ⟨⟨k65_, g05_, g15_, g35_, g45_, g55_⟩, ⟨kt5_, s55_, s35_, s45_, kct5_, ⟨kht5_, lht5_⟩, ⟨kwt5_, lwt5_⟩⟩, ⟨ku5_, r55_, r35_, r45_, kcu5_, ⟨khu5_, lhu5_⟩, ⟨kwu5_, lwu5_⟩⟩, ⟨ka5_, kb5_, kk5_, kg5_, kbc5_⟩, pl5_⟩ := F5
  have g0n5_ : gr Y g₀ 0 ≠ 0 := by omega
  have g0k5_ : kd Y (gr Y g₀ 0) = 5 := by rw [g05_]; exact kt5_
  have g1n5_ : gr Y g₀ 1 ≠ 0 := by omega
  have g1k5_ : kd Y (gr Y g₀ 1) = 5 := by rw [g15_]; exact ku5_
  have g3n5_ : gr Y g₀ 3 ≠ 0 := by omega
  have g3k5_ : kd Y (gr Y g₀ 3) = 1 := by rw [g35_]; exact ka5_
  have g4n5_ : gr Y g₀ 4 ≠ 0 := by omega
  have g4k5_ : kd Y (gr Y g₀ 4) = 1 := by rw [g45_]; exact kb5_
  have g5n5_ : gr Y g₀ 5 ≠ 0 := by omega
  have g5k5_ : kd Y (gr Y g₀ 5) = 2 := by rw [g55_]; exact kk5_
  have t55_ : gr Y (gr Y g₀ 0) 5 = t₀ + 3 := by rw [g05_]; exact s55_
  have t5n5_ : gr Y (gr Y g₀ 0) 5 ≠ 0 := by omega
  have t5k5_ : kd Y (gr Y (gr Y g₀ 0) 5) = 4 := by rw [t55_]; exact kct5_
  have t35_ : gr Y (gr Y g₀ 0) 3 = t₀ + 1 := by rw [g05_]; exact s35_
  have t3n5_ : gr Y (gr Y g₀ 0) 3 ≠ 0 := by omega
  have t3k5_ : kd Y (gr Y (gr Y g₀ 0) 3) = 8 := by rw [t35_]; exact kht5_
  have t3l5_ : ln Y (gr Y (gr Y g₀ 0) 3) = 12 := by rw [t35_]; exact lht5_
  have t45_ : gr Y (gr Y g₀ 0) 4 = t₀ + 2 := by rw [g05_]; exact s45_
  have t4n5_ : gr Y (gr Y g₀ 0) 4 ≠ 0 := by omega
  have t4k5_ : kd Y (gr Y (gr Y g₀ 0) 4) = 8 := by rw [t45_]; exact kwt5_
  have t4l5_ : ln Y (gr Y (gr Y g₀ 0) 4) = 10 := by rw [t45_]; exact lwt5_
  have u55_ : gr Y (gr Y g₀ 1) 5 = u₀ + 3 := by rw [g15_]; exact r55_
  have u5n5_ : gr Y (gr Y g₀ 1) 5 ≠ 0 := by omega
  have u5k5_ : kd Y (gr Y (gr Y g₀ 1) 5) = 4 := by rw [u55_]; exact kcu5_
  have u35_ : gr Y (gr Y g₀ 1) 3 = u₀ + 1 := by rw [g15_]; exact r35_
  have u3n5_ : gr Y (gr Y g₀ 1) 3 ≠ 0 := by omega
  have u3k5_ : kd Y (gr Y (gr Y g₀ 1) 3) = 8 := by rw [u35_]; exact khu5_
  have u3l5_ : ln Y (gr Y (gr Y g₀ 1) 3) = 12 := by rw [u35_]; exact lhu5_
  have u45_ : gr Y (gr Y g₀ 1) 4 = u₀ + 2 := by rw [g15_]; exact r45_
  have u4n5_ : gr Y (gr Y g₀ 1) 4 ≠ 0 := by omega
  have u4k5_ : kd Y (gr Y (gr Y g₀ 1) 4) = 8 := by rw [u45_]; exact kwu5_
  have u4l5_ : ln Y (gr Y (gr Y g₀ 1) 4) = 10 := by rw [u45_]; exact lwu5_
  have q0 : gi Y (gr Y g₀ 0) 0 = gi M t₀ 0 := by rw [g05_]; exact u0
  have q1₀ : gi Y (gr Y g₀ 0) 1 = gi M t₀ 1 := by rw [g05_]; exact u1₀
  have q3₀ : gi Y (gr Y g₀ 4) 2 = r₀ + x₀ * U₀ - 1 := by rw [g45_]; exact y2
  have q4₀ : gi Y (gr Y g₀ 4) 3 = c₀ + y₀ * V - 1 := by rw [g45_]; exact y3
  (repeat' (((conv => whnf); first | (show (_ : Option mg_V) = _ ∧ _; assumption) | (show K _ _ _ _ _; assumption) | (show mm_th _ _ _ _; assumption) | refine And.intro (by first | assumption | omega | (simp only [true_and]; first | done | assumption | omega)) ?_ | (refine And.intro (fun _ => ?_) (fun _ => ?_) <;> first | (exfalso; omega) | skip) | intro _ | fail)))
  all_goals (first | (exfalso; omega) | exact ⟨Y, _, fx, by assumption, rfl⟩)
set_option maxRecDepth 100000 in
theorem cX5_paste4 {D : mg_D} {l : Launch} (hl : l.stackTraces = false) {M : mg_M} {g₀ t₀ u₀ : Nat} {r₀ c₀ x₀ y₀ : Int} {U₀ V : Int} (K9 : mh_K M g₀ t₀ u₀) (h₀ : mh_rg (gi M t₀ 0) (gi M t₀ 1) r₀ c₀) (hx : (1 ≤ x₀ ∧ x₀ ≤ 4) ∧ (1 ≤ y₀ ∧ y₀ ≤ 4)) (hU : gi M (g₀ + 261) 0 = U₀ ∧ gi M (g₀ + 261) 1 = V ∧ 1 ≤ U₀ ∧ 1 ≤ V) (bl : mh_bl M (g₀ + 261 + 1) U₀ V) (hf : r₀ + x₀ * U₀ ≤ gi M t₀ 0 ∧ c₀ + y₀ * V ≤ gi M t₀ 1) (hbad : ¬ mh_cc M t₀ r₀ (r₀ + x₀ * U₀ - 1) c₀ (c₀ + y₀ * V - 1) ∨ ∃ i₀ : Int, (0 ≤ i₀ ∧ i₀ < x₀) ∧ ∃ j₀ : Nat, (j₀ : Int) < gi M (g₀ + 261 + 1) 0 ∧ gi M (gr M (g₀ + 261 + 1 + 1) j₀) 0 < gi M t₀ 2 - r₀ - i₀ * U₀ ∧ gi M t₀ 2 - r₀ - i₀ * U₀ ≤ gi M (gr M (g₀ + 261 + 1 + 1) j₀) 0 + gi M (gr M (g₀ + 261 + 1 + 1) j₀) 2 - 1) : mg_Mt D l 97 [.inr (.inl g₀), .inl r₀, .inl c₀, .inl x₀, .inl y₀] M mh_nN (mh_tS 4 M g₀) := by
  refine mg_of2 hl ok_X5_paste al_X5_paste rfl (fun K hK₀ => ?_)
  have F9 := mh_gF_of K9
  have bbM := K9.2.2.2.1.1.1.2.2
  have ck := @cX5_checkSquare0 D l hl M g₀ t₀ r₀ c₀ K9.1.1 h₀
  have t1₀ := @cX5_isTimes D l hl M x₀
  have t2₀ := @cX5_isTimes D l hl M y₀
  rw [if_pos hx.1] at t1₀
  rw [if_pos hx.2] at t2₀
  have bn := @cX1_isNothing D l hl M (g₀ + 261) F9.2.2.2.1.2.2.1
  rw [if_neg (by omega)] at bn
  have xU : 1 ≤ x₀ * U₀ ∧ 1 ≤ y₀ * V := ⟨Int.mul_pos (by omega) (by omega), Int.mul_pos (by omega) (by omega)⟩
  have xU2 : U₀ ≤ x₀ * U₀ ∧ V ≤ y₀ * V := by
    have h1 := Int.mul_le_mul_of_nonneg_right hx.1.1 (show 0 ≤ U₀ by omega)
    have h2 := Int.mul_le_mul_of_nonneg_right hx.2.1 (show 0 ≤ V by omega)
    omega
  have ez0 : gi M (gr M g₀ 5) 0 = U₀ := by rw [F9.1.2.2.2.2.2]; exact hU.1
  have ez1 : gi M (gr M g₀ 5) 1 = V := by rw [F9.1.2.2.2.2.2]; exact hU.2.1
  have p0₀ : x₀ * gi M (gr M g₀ 5) 0 = x₀ * U₀ := by rw [ez0]
  have p1₀ : y₀ * gi M (gr M g₀ 5) 1 = y₀ * V := by rw [ez1]
  have sp₀ : mg_Mt D l 15 [.inr (.inl (g₀ + 260)), .inl r₀, .inl c₀, .inl (r₀ + x₀ * U₀ - 1), .inl (c₀ + y₀ * V - 1)] M (fun v₀ M' => v₀ = none ∧ M' = mg_put4 M (g₀ + 260) r₀ c₀ (r₀ + x₀ * U₀ - 1) (c₀ + y₀ * V - 1)) mg_no := by
    have := @cX0_span D l hl M (g₀ + 260) r₀ c₀ (r₀ + x₀ * U₀ - 1) (c₀ + y₀ * V - 1) F9.2.2.2.1.2.1
    rw [show min r₀ (r₀ + x₀ * U₀ - 1) = r₀ by omega, show min c₀ (c₀ + y₀ * V - 1) = c₀ by omega, show max r₀ (r₀ + x₀ * U₀ - 1) = r₀ + x₀ * U₀ - 1 by omega, show max c₀ (c₀ + y₀ * V - 1) = c₀ + y₀ * V - 1 by omega] at this
    exact this
  have fx := @mh_fx_p4 M (g₀ + 260) r₀ c₀ (r₀ + x₀ * U₀ - 1) (c₀ + y₀ * V - 1)
  obtain ⟨y0, y1, y2, y3⟩ := @mh_p4_at M (g₀ + 260) r₀ c₀ (r₀ + x₀ * U₀ - 1) (c₀ + y₀ * V - 1)
  have Yd : ∃ Y, Y = mg_put4 M (g₀ + 260) r₀ c₀ (r₀ + x₀ * U₀ - 1) (c₀ + y₀ * V - 1) := ⟨_, rfl⟩
  obtain ⟨Y, hY⟩ := Yd
  rw [← hY] at sp₀ fx y0 y1 y2 y3
  obtain ⟨K5, E5, A5⟩ := mh_sk_K K9 fx
  have K0 := K5
  obtain ⟨⟨G, w1₀, w3₀, w4₀, w5⟩, _, wpl, ⟨tl, nb⟩, ⟨tbu, clu⟩, rb⟩ := K0
  have F5 := mh_gF_of K5
  have bb := tl.1.2.2
  have u0 := (E5 t₀ (by omega) (by omega)).2.2.2 0
  have u1₀ := (E5 t₀ (by omega) (by omega)).2.2.2 1
  have u2₀ := (E5 t₀ (by omega) (by omega)).2.2.2 2
  have hccY := mh_cc_eq E5 K9.2.2.2.1.1.2.1
  have cut₀ := @cX3_cutP D l hl Y (t₀ + 3) (g₀ + 260) tl.2.1 (mh_tl_sm tl) F5.2.2.2.1.2.1
  rw [mh_cc_cut, y0, y1, y2, y3, hccY] at cut₀
  obtain ⟨bl5, z05, ce5, cb5⟩ := mh_bl_lo bl (fun a₀ h1 h2 => A5 a₀ (by omega))
  have smB₀ : mg_cS Y (g₀ + 261 + 1) := by
    intro i₀ hi
    have o := bl5.2.1 i₀ hi
    have z₀ := bl5.1.2.2.2.2.2.2.1
    have a₀ := bl5.1.2.2.2.2.2.2.2.1 i₀ (by omega)
    exact ⟨a₀.1, by omega, by omega⟩
  have k0₀ := (A5 (g₀ + 261) (by omega)).2.2.2 0
  have acr := @cX1_isAcross D l hl Y (g₀ + 261) (gi Y t₀ 2) r₀ x₀ U₀ ⟨F5.2.2.2.1.2.2.1, F5.2.2.2.1.2.2.2.1⟩ bl5.1 smB₀ (by omega) hx.1 (by omega)
  have eac : (∃ i₀ : Int, (0 ≤ i₀ ∧ i₀ < x₀) ∧ ∃ j₀ : Nat, (j₀ : Int) < gi Y (g₀ + 261 + 1) 0 ∧ gi Y (gr Y (g₀ + 261 + 1 + 1) j₀) 0 < gi Y t₀ 2 - r₀ - i₀ * U₀ ∧ gi Y t₀ 2 - r₀ - i₀ * U₀ ≤ gi Y (gr Y (g₀ + 261 + 1 + 1) j₀) 0 + gi Y (gr Y (g₀ + 261 + 1 + 1) j₀) 2 - 1) ↔ (∃ i₀ : Int, (0 ≤ i₀ ∧ i₀ < x₀) ∧ ∃ j₀ : Nat, (j₀ : Int) < gi M (g₀ + 261 + 1) 0 ∧ gi M (gr M (g₀ + 261 + 1 + 1) j₀) 0 < gi M t₀ 2 - r₀ - i₀ * U₀ ∧ gi M t₀ 2 - r₀ - i₀ * U₀ ≤ gi M (gr M (g₀ + 261 + 1 + 1) j₀) 0 + gi M (gr M (g₀ + 261 + 1 + 1) j₀) 2 - 1) := by
    refine ⟨fun ⟨i₀, hi, j₀, hj, w₀⟩ => ⟨i₀, hi, j₀, by omega, ?_⟩, fun ⟨i₀, hi, j₀, hj, w₀⟩ => ⟨i₀, hi, j₀, by omega, ?_⟩⟩
    · obtain ⟨x1₀, x2₀⟩ := ce5 j₀ (by omega)
      rw [x1₀] at w₀
      simp only [x2₀, u2₀] at w₀
      exact w₀
    · obtain ⟨x1₀, x2₀⟩ := ce5 j₀ (by omega)
      rw [x1₀]
      simp only [x2₀, u2₀]
      exact w₀
  rw [mh_prc eac] at acr
  obtain ⟨⟨k6₀, g0, g1, g3₀, g4, g5₀⟩, ⟨kt, s5, s3₀, s4₀, kct, ⟨kht, lht⟩, ⟨kwt, lwt⟩⟩, ⟨ku, r5₀, r3, r4, kcu, ⟨khu, lhu⟩, ⟨kwu, lwu⟩⟩, ⟨ka, kb, kk, kg, kbc⟩, pl⟩ := F9
  have g0n : gr M g₀ 0 ≠ 0 := by omega
  have g0k : kd M (gr M g₀ 0) = 5 := by rw [g0]; exact kt
  have g1n : gr M g₀ 1 ≠ 0 := by omega
  have g1k : kd M (gr M g₀ 1) = 5 := by rw [g1]; exact ku
  have g3n : gr M g₀ 3 ≠ 0 := by omega
  have g3k : kd M (gr M g₀ 3) = 1 := by rw [g3₀]; exact ka
  have g4n : gr M g₀ 4 ≠ 0 := by omega
  have g4k : kd M (gr M g₀ 4) = 1 := by rw [g4]; exact kb
  have g5n : gr M g₀ 5 ≠ 0 := by omega
  have g5k : kd M (gr M g₀ 5) = 2 := by rw [g5₀]; exact kk
  have t5₀ : gr M (gr M g₀ 0) 5 = t₀ + 3 := by rw [g0]; exact s5
  have t5n : gr M (gr M g₀ 0) 5 ≠ 0 := by omega
  have t5k : kd M (gr M (gr M g₀ 0) 5) = 4 := by rw [t5₀]; exact kct
  have t3₀ : gr M (gr M g₀ 0) 3 = t₀ + 1 := by rw [g0]; exact s3₀
  have t3n : gr M (gr M g₀ 0) 3 ≠ 0 := by omega
  have t3k : kd M (gr M (gr M g₀ 0) 3) = 8 := by rw [t3₀]; exact kht
  have t3l : ln M (gr M (gr M g₀ 0) 3) = 12 := by rw [t3₀]; exact lht
  have t4₀ : gr M (gr M g₀ 0) 4 = t₀ + 2 := by rw [g0]; exact s4₀
  have t4n : gr M (gr M g₀ 0) 4 ≠ 0 := by omega
  have t4k : kd M (gr M (gr M g₀ 0) 4) = 8 := by rw [t4₀]; exact kwt
  have t4l : ln M (gr M (gr M g₀ 0) 4) = 10 := by rw [t4₀]; exact lwt
  have u5 : gr M (gr M g₀ 1) 5 = u₀ + 3 := by rw [g1]; exact r5₀
  have u5n : gr M (gr M g₀ 1) 5 ≠ 0 := by omega
  have u5k : kd M (gr M (gr M g₀ 1) 5) = 4 := by rw [u5]; exact kcu
  have u3 : gr M (gr M g₀ 1) 3 = u₀ + 1 := by rw [g1]; exact r3
  have u3n : gr M (gr M g₀ 1) 3 ≠ 0 := by omega
  have u3k : kd M (gr M (gr M g₀ 1) 3) = 8 := by rw [u3]; exact khu
  have u3l : ln M (gr M (gr M g₀ 1) 3) = 12 := by rw [u3]; exact lhu
  have u4₀ : gr M (gr M g₀ 1) 4 = u₀ + 2 := by rw [g1]; exact r4
  have u4n : gr M (gr M g₀ 1) 4 ≠ 0 := by omega
  have u4k : kd M (gr M (gr M g₀ 1) 4) = 8 := by rw [u4₀]; exact kwu
  have u4l : ln M (gr M (gr M g₀ 1) 4) = 10 := by rw [u4₀]; exact lwu
  have e0₀ : gi M (gr M g₀ 0) 0 = gi M t₀ 0 := by rw [g0]
  have e1₀ : gi M (gr M g₀ 0) 1 = gi M t₀ 1 := by rw [g0]
  have e2₀ : gi M (gr M g₀ 0) 2 = gi M t₀ 2 := by rw [g0]
  clear tl nb tbu clu K9 K5 bl bl5 E5 A5 ce5 cb5
  by_cases hcc : mh_cc M t₀ r₀ (r₀ + x₀ * U₀ - 1) c₀ (c₀ + y₀ * V - 1)
  · have hac := hbad.resolve_left (fun w₀ => w₀ hcc)
    rw [mh_pr0 (fun w₀ => w₀ hcc)] at cut₀
    rw [mh_pr1 hac] at acr
    clear hac hbad hcc eac hccY
    refine hK₀ _ _ _ _ _ ?_
    (repeat' (((conv => whnf); first | (show (_ : Option mg_V) = _ ∧ _; assumption) | (show K _ _ _ _ _; assumption) | (show mm_th _ _ _ _; assumption) | refine And.intro (by first | assumption | omega | (simp only [true_and]; first | done | assumption | omega)) ?_ | (refine And.intro (fun _ => ?_) (fun _ => ?_) <;> first | (exfalso; omega) | skip) | intro _ | fail)))
    all_goals (try ((conv => whnf); (refine Exists.intro _ (Exists.intro _ (And.intro (ck) (And.intro ?_ (fun _ _ h₀ => h₀.elim)))); rintro _ _ ⟨rfl, e₀⟩; have e2₀ := e₀.symm; clear e₀; subst e2₀); (repeat' (((conv => whnf); first | (show (_ : Option mg_V) = _ ∧ _; assumption) | (show K _ _ _ _ _; assumption) | (show mm_th _ _ _ _; assumption) | refine And.intro (by first | assumption | omega | (simp only [true_and]; first | done | assumption | omega)) ?_ | (refine And.intro (fun _ => ?_) (fun _ => ?_) <;> first | (exfalso; omega) | skip) | intro _ | fail)))))
    all_goals (try ((conv => whnf); (refine Exists.intro _ (Exists.intro _ (And.intro (t1₀) (And.intro ?_ (fun _ _ h₀ => h₀.elim)))); rintro _ _ ⟨rfl, e₀⟩; have e2₀ := e₀.symm; clear e₀; subst e2₀); (repeat' (((conv => whnf); first | (show (_ : Option mg_V) = _ ∧ _; assumption) | (show K _ _ _ _ _; assumption) | (show mm_th _ _ _ _; assumption) | refine And.intro (by first | assumption | omega | (simp only [true_and]; first | done | assumption | omega)) ?_ | (refine And.intro (fun _ => ?_) (fun _ => ?_) <;> first | (exfalso; omega) | skip) | intro _ | fail)))))
    all_goals (try ((conv => whnf); (refine Exists.intro _ (Exists.intro _ (And.intro (t2₀) (And.intro ?_ (fun _ _ h₀ => h₀.elim)))); rintro _ _ ⟨rfl, e₀⟩; have e2₀ := e₀.symm; clear e₀; subst e2₀); (repeat' (((conv => whnf); first | (show (_ : Option mg_V) = _ ∧ _; assumption) | (show K _ _ _ _ _; assumption) | (show mm_th _ _ _ _; assumption) | refine And.intro (by first | assumption | omega | (simp only [true_and]; first | done | assumption | omega)) ?_ | (refine And.intro (fun _ => ?_) (fun _ => ?_) <;> first | (exfalso; omega) | skip) | intro _ | fail)))))
    all_goals ((conv => whnf); (try rw [g0]); (try rw [g1]); (try rw [s5]); (try rw [s3₀]); (try rw [s4₀]); (try rw [r5₀]); (try rw [g3₀]); (try rw [g4]); (try rw [g5₀]))
    (refine Exists.intro _ (Exists.intro _ (And.intro (bn) (And.intro ?_ (fun _ _ h₀ => h₀.elim)))); rintro _ _ ⟨rfl, e₀⟩; have e2₀ := e₀.symm; clear e₀; subst e2₀)
    (repeat' (((conv => whnf); first | (show (_ : Option mg_V) = _ ∧ _; assumption) | (show K _ _ _ _ _; assumption) | (show mm_th _ _ _ _; assumption) | refine And.intro (by first | assumption | omega | (simp only [true_and]; first | done | assumption | omega)) ?_ | (refine And.intro (fun _ => ?_) (fun _ => ?_) <;> first | (exfalso; omega) | skip) | intro _ | fail)))
    all_goals ((conv => whnf); (try rw [g4]); (try rw [p0₀]); (try rw [p1₀]))
    (refine Exists.intro _ (Exists.intro _ (And.intro (sp₀) (And.intro ?_ (fun _ _ h₀ => h₀.elim)))); rintro _ _ ⟨rfl, e₀⟩; have e2₀ := e₀.symm; clear e₀; subst e2₀)
    clear u4l u4k u4n u4₀ u3l u3k u3n u3 u5k u5n u5 t4l t4k t4n t4₀ t3l t3k t3n t3₀ t5k t5n t5₀ g5k g5n g4k g4n g3k g3n g1k g1n g0k g0n pl kbc kg kk kb ka lwu kwu lhu khu kcu r4 r3 r5₀ ku lwt kwt lht kht kct s4₀ s3₀ s5 kt g5₀ g4 g3₀ g1 g0 k6₀
    obtain ⟨⟨k65_, g05_, g15_, g35_, g45_, g55_⟩, ⟨kt5_, s55_, s35_, s45_, kct5_, ⟨kht5_, lht5_⟩, ⟨kwt5_, lwt5_⟩⟩, ⟨ku5_, r55_, r35_, r45_, kcu5_, ⟨khu5_, lhu5_⟩, ⟨kwu5_, lwu5_⟩⟩, ⟨ka5_, kb5_, kk5_, kg5_, kbc5_⟩, pl5_⟩ := F5
    have g0n5_ : gr Y g₀ 0 ≠ 0 := by omega
    have g0k5_ : kd Y (gr Y g₀ 0) = 5 := by rw [g05_]; exact kt5_
    have g1n5_ : gr Y g₀ 1 ≠ 0 := by omega
    have g1k5_ : kd Y (gr Y g₀ 1) = 5 := by rw [g15_]; exact ku5_
    have g3n5_ : gr Y g₀ 3 ≠ 0 := by omega
    have g3k5_ : kd Y (gr Y g₀ 3) = 1 := by rw [g35_]; exact ka5_
    have g4n5_ : gr Y g₀ 4 ≠ 0 := by omega
    have g4k5_ : kd Y (gr Y g₀ 4) = 1 := by rw [g45_]; exact kb5_
    have g5n5_ : gr Y g₀ 5 ≠ 0 := by omega
    have g5k5_ : kd Y (gr Y g₀ 5) = 2 := by rw [g55_]; exact kk5_
    have t55_ : gr Y (gr Y g₀ 0) 5 = t₀ + 3 := by rw [g05_]; exact s55_
    have t5n5_ : gr Y (gr Y g₀ 0) 5 ≠ 0 := by omega
    have t5k5_ : kd Y (gr Y (gr Y g₀ 0) 5) = 4 := by rw [t55_]; exact kct5_
    have t35_ : gr Y (gr Y g₀ 0) 3 = t₀ + 1 := by rw [g05_]; exact s35_
    have t3n5_ : gr Y (gr Y g₀ 0) 3 ≠ 0 := by omega
    have t3k5_ : kd Y (gr Y (gr Y g₀ 0) 3) = 8 := by rw [t35_]; exact kht5_
    have t3l5_ : ln Y (gr Y (gr Y g₀ 0) 3) = 12 := by rw [t35_]; exact lht5_
    have t45_ : gr Y (gr Y g₀ 0) 4 = t₀ + 2 := by rw [g05_]; exact s45_
    have t4n5_ : gr Y (gr Y g₀ 0) 4 ≠ 0 := by omega
    have t4k5_ : kd Y (gr Y (gr Y g₀ 0) 4) = 8 := by rw [t45_]; exact kwt5_
    have t4l5_ : ln Y (gr Y (gr Y g₀ 0) 4) = 10 := by rw [t45_]; exact lwt5_
    have u55_ : gr Y (gr Y g₀ 1) 5 = u₀ + 3 := by rw [g15_]; exact r55_
    have u5n5_ : gr Y (gr Y g₀ 1) 5 ≠ 0 := by omega
    have u5k5_ : kd Y (gr Y (gr Y g₀ 1) 5) = 4 := by rw [u55_]; exact kcu5_
    have u35_ : gr Y (gr Y g₀ 1) 3 = u₀ + 1 := by rw [g15_]; exact r35_
    have u3n5_ : gr Y (gr Y g₀ 1) 3 ≠ 0 := by omega
    have u3k5_ : kd Y (gr Y (gr Y g₀ 1) 3) = 8 := by rw [u35_]; exact khu5_
    have u3l5_ : ln Y (gr Y (gr Y g₀ 1) 3) = 12 := by rw [u35_]; exact lhu5_
    have u45_ : gr Y (gr Y g₀ 1) 4 = u₀ + 2 := by rw [g15_]; exact r45_
    have u4n5_ : gr Y (gr Y g₀ 1) 4 ≠ 0 := by omega
    have u4k5_ : kd Y (gr Y (gr Y g₀ 1) 4) = 8 := by rw [u45_]; exact kwu5_
    have u4l5_ : ln Y (gr Y (gr Y g₀ 1) 4) = 10 := by rw [u45_]; exact lwu5_
    have q0 : gi Y (gr Y g₀ 0) 0 = gi M t₀ 0 := by rw [g05_]; exact u0
    have q1₀ : gi Y (gr Y g₀ 0) 1 = gi M t₀ 1 := by rw [g05_]; exact u1₀
    have q3₀ : gi Y (gr Y g₀ 4) 2 = r₀ + x₀ * U₀ - 1 := by rw [g45_]; exact y2
    have q4₀ : gi Y (gr Y g₀ 4) 3 = c₀ + y₀ * V - 1 := by rw [g45_]; exact y3
    (repeat' (((conv => whnf); first | (show (_ : Option mg_V) = _ ∧ _; assumption) | (show K _ _ _ _ _; assumption) | (show mm_th _ _ _ _; assumption) | refine And.intro (by first | assumption | omega | (simp only [true_and]; first | done | assumption | omega)) ?_ | (refine And.intro (fun _ => ?_) (fun _ => ?_) <;> first | (exfalso; omega) | skip) | intro _ | fail)))
    all_goals ((conv => whnf); (try rw [g05_]); (try rw [g15_]); (try rw [s55_]); (try rw [s35_]); (try rw [s45_]); (try rw [r55_]); (try rw [g35_]); (try rw [g45_]); (try rw [g55_]))
    (refine Exists.intro _ (Exists.intro _ (And.intro (cut₀) (And.intro ?_ (fun _ _ h₀ => h₀.elim)))); rintro _ _ ⟨rfl, e₀⟩; have e2₀ := e₀.symm; clear e₀; subst e2₀)
    (repeat' (((conv => whnf); first | (show (_ : Option mg_V) = _ ∧ _; assumption) | (show K _ _ _ _ _; assumption) | (show mm_th _ _ _ _; assumption) | refine And.intro (by first | assumption | omega | (simp only [true_and]; first | done | assumption | omega)) ?_ | (refine And.intro (fun _ => ?_) (fun _ => ?_) <;> first | (exfalso; omega) | skip) | intro _ | fail)))
    all_goals ((conv => whnf); (try rw [g05_]); (try rw [g15_]); (try rw [s55_]); (try rw [s35_]); (try rw [s45_]); (try rw [r55_]); (try rw [g35_]); (try rw [g45_]); (try rw [g55_]))
    (refine Exists.intro _ (Exists.intro _ (And.intro (acr) (And.intro ?_ (fun _ _ h₀ => h₀.elim)))); rintro _ _ ⟨rfl, e₀⟩; have e2₀ := e₀.symm; clear e₀; subst e2₀)
    (repeat' (((conv => whnf); first | (show (_ : Option mg_V) = _ ∧ _; assumption) | (show K _ _ _ _ _; assumption) | (show mm_th _ _ _ _; assumption) | refine And.intro (by first | assumption | omega | (simp only [true_and]; first | done | assumption | omega)) ?_ | (refine And.intro (fun _ => ?_) (fun _ => ?_) <;> first | (exfalso; omega) | skip) | intro _ | fail)))
    all_goals (exact ⟨Y, _, fx, by assumption, rfl⟩)
  · rw [mh_pr1 hcc] at cut₀
    clear hbad hcc eac hccY acr
    refine hK₀ _ _ _ _ _ ?_
    (repeat' (((conv => whnf); first | (show (_ : Option mg_V) = _ ∧ _; assumption) | (show K _ _ _ _ _; assumption) | (show mm_th _ _ _ _; assumption) | refine And.intro (by first | assumption | omega | (simp only [true_and]; first | done | assumption | omega)) ?_ | (refine And.intro (fun _ => ?_) (fun _ => ?_) <;> first | (exfalso; omega) | skip) | intro _ | fail)))
    all_goals (try ((conv => whnf); (refine Exists.intro _ (Exists.intro _ (And.intro (ck) (And.intro ?_ (fun _ _ h₀ => h₀.elim)))); rintro _ _ ⟨rfl, e₀⟩; have e2₀ := e₀.symm; clear e₀; subst e2₀); (repeat' (((conv => whnf); first | (show (_ : Option mg_V) = _ ∧ _; assumption) | (show K _ _ _ _ _; assumption) | (show mm_th _ _ _ _; assumption) | refine And.intro (by first | assumption | omega | (simp only [true_and]; first | done | assumption | omega)) ?_ | (refine And.intro (fun _ => ?_) (fun _ => ?_) <;> first | (exfalso; omega) | skip) | intro _ | fail)))))
    all_goals (try ((conv => whnf); (refine Exists.intro _ (Exists.intro _ (And.intro (t1₀) (And.intro ?_ (fun _ _ h₀ => h₀.elim)))); rintro _ _ ⟨rfl, e₀⟩; have e2₀ := e₀.symm; clear e₀; subst e2₀); (repeat' (((conv => whnf); first | (show (_ : Option mg_V) = _ ∧ _; assumption) | (show K _ _ _ _ _; assumption) | (show mm_th _ _ _ _; assumption) | refine And.intro (by first | assumption | omega | (simp only [true_and]; first | done | assumption | omega)) ?_ | (refine And.intro (fun _ => ?_) (fun _ => ?_) <;> first | (exfalso; omega) | skip) | intro _ | fail)))))
    all_goals (try ((conv => whnf); (refine Exists.intro _ (Exists.intro _ (And.intro (t2₀) (And.intro ?_ (fun _ _ h₀ => h₀.elim)))); rintro _ _ ⟨rfl, e₀⟩; have e2₀ := e₀.symm; clear e₀; subst e2₀); (repeat' (((conv => whnf); first | (show (_ : Option mg_V) = _ ∧ _; assumption) | (show K _ _ _ _ _; assumption) | (show mm_th _ _ _ _; assumption) | refine And.intro (by first | assumption | omega | (simp only [true_and]; first | done | assumption | omega)) ?_ | (refine And.intro (fun _ => ?_) (fun _ => ?_) <;> first | (exfalso; omega) | skip) | intro _ | fail)))))
    all_goals ((conv => whnf); (try rw [g0]); (try rw [g1]); (try rw [s5]); (try rw [s3₀]); (try rw [s4₀]); (try rw [r5₀]); (try rw [g3₀]); (try rw [g4]); (try rw [g5₀]))
    (refine Exists.intro _ (Exists.intro _ (And.intro (bn) (And.intro ?_ (fun _ _ h₀ => h₀.elim)))); rintro _ _ ⟨rfl, e₀⟩; have e2₀ := e₀.symm; clear e₀; subst e2₀)
    (repeat' (((conv => whnf); first | (show (_ : Option mg_V) = _ ∧ _; assumption) | (show K _ _ _ _ _; assumption) | (show mm_th _ _ _ _; assumption) | refine And.intro (by first | assumption | omega | (simp only [true_and]; first | done | assumption | omega)) ?_ | (refine And.intro (fun _ => ?_) (fun _ => ?_) <;> first | (exfalso; omega) | skip) | intro _ | fail)))
    all_goals ((conv => whnf); (try rw [g4]); (try rw [p0₀]); (try rw [p1₀]))
    (refine Exists.intro _ (Exists.intro _ (And.intro (sp₀) (And.intro ?_ (fun _ _ h₀ => h₀.elim)))); rintro _ _ ⟨rfl, e₀⟩; have e2₀ := e₀.symm; clear e₀; subst e2₀)
    clear u4l u4k u4n u4₀ u3l u3k u3n u3 u5k u5n u5 t4l t4k t4n t4₀ t3l t3k t3n t3₀ t5k t5n t5₀ g5k g5n g4k g4n g3k g3n g1k g1n g0k g0n pl kbc kg kk kb ka lwu kwu lhu khu kcu r4 r3 r5₀ ku lwt kwt lht kht kct s4₀ s3₀ s5 kt g5₀ g4 g3₀ g1 g0 k6₀
    obtain ⟨⟨k65_, g05_, g15_, g35_, g45_, g55_⟩, ⟨kt5_, s55_, s35_, s45_, kct5_, ⟨kht5_, lht5_⟩, ⟨kwt5_, lwt5_⟩⟩, ⟨ku5_, r55_, r35_, r45_, kcu5_, ⟨khu5_, lhu5_⟩, ⟨kwu5_, lwu5_⟩⟩, ⟨ka5_, kb5_, kk5_, kg5_, kbc5_⟩, pl5_⟩ := F5
    have g0n5_ : gr Y g₀ 0 ≠ 0 := by omega
    have g0k5_ : kd Y (gr Y g₀ 0) = 5 := by rw [g05_]; exact kt5_
    have g1n5_ : gr Y g₀ 1 ≠ 0 := by omega
    have g1k5_ : kd Y (gr Y g₀ 1) = 5 := by rw [g15_]; exact ku5_
    have g3n5_ : gr Y g₀ 3 ≠ 0 := by omega
    have g3k5_ : kd Y (gr Y g₀ 3) = 1 := by rw [g35_]; exact ka5_
    have g4n5_ : gr Y g₀ 4 ≠ 0 := by omega
    have g4k5_ : kd Y (gr Y g₀ 4) = 1 := by rw [g45_]; exact kb5_
    have g5n5_ : gr Y g₀ 5 ≠ 0 := by omega
    have g5k5_ : kd Y (gr Y g₀ 5) = 2 := by rw [g55_]; exact kk5_
    have t55_ : gr Y (gr Y g₀ 0) 5 = t₀ + 3 := by rw [g05_]; exact s55_
    have t5n5_ : gr Y (gr Y g₀ 0) 5 ≠ 0 := by omega
    have t5k5_ : kd Y (gr Y (gr Y g₀ 0) 5) = 4 := by rw [t55_]; exact kct5_
    have t35_ : gr Y (gr Y g₀ 0) 3 = t₀ + 1 := by rw [g05_]; exact s35_
    have t3n5_ : gr Y (gr Y g₀ 0) 3 ≠ 0 := by omega
    have t3k5_ : kd Y (gr Y (gr Y g₀ 0) 3) = 8 := by rw [t35_]; exact kht5_
    have t3l5_ : ln Y (gr Y (gr Y g₀ 0) 3) = 12 := by rw [t35_]; exact lht5_
    have t45_ : gr Y (gr Y g₀ 0) 4 = t₀ + 2 := by rw [g05_]; exact s45_
    have t4n5_ : gr Y (gr Y g₀ 0) 4 ≠ 0 := by omega
    have t4k5_ : kd Y (gr Y (gr Y g₀ 0) 4) = 8 := by rw [t45_]; exact kwt5_
    have t4l5_ : ln Y (gr Y (gr Y g₀ 0) 4) = 10 := by rw [t45_]; exact lwt5_
    have u55_ : gr Y (gr Y g₀ 1) 5 = u₀ + 3 := by rw [g15_]; exact r55_
    have u5n5_ : gr Y (gr Y g₀ 1) 5 ≠ 0 := by omega
    have u5k5_ : kd Y (gr Y (gr Y g₀ 1) 5) = 4 := by rw [u55_]; exact kcu5_
    have u35_ : gr Y (gr Y g₀ 1) 3 = u₀ + 1 := by rw [g15_]; exact r35_
    have u3n5_ : gr Y (gr Y g₀ 1) 3 ≠ 0 := by omega
    have u3k5_ : kd Y (gr Y (gr Y g₀ 1) 3) = 8 := by rw [u35_]; exact khu5_
    have u3l5_ : ln Y (gr Y (gr Y g₀ 1) 3) = 12 := by rw [u35_]; exact lhu5_
    have u45_ : gr Y (gr Y g₀ 1) 4 = u₀ + 2 := by rw [g15_]; exact r45_
    have u4n5_ : gr Y (gr Y g₀ 1) 4 ≠ 0 := by omega
    have u4k5_ : kd Y (gr Y (gr Y g₀ 1) 4) = 8 := by rw [u45_]; exact kwu5_
    have u4l5_ : ln Y (gr Y (gr Y g₀ 1) 4) = 10 := by rw [u45_]; exact lwu5_
    have q0 : gi Y (gr Y g₀ 0) 0 = gi M t₀ 0 := by rw [g05_]; exact u0
    have q1₀ : gi Y (gr Y g₀ 0) 1 = gi M t₀ 1 := by rw [g05_]; exact u1₀
    have q3₀ : gi Y (gr Y g₀ 4) 2 = r₀ + x₀ * U₀ - 1 := by rw [g45_]; exact y2
    have q4₀ : gi Y (gr Y g₀ 4) 3 = c₀ + y₀ * V - 1 := by rw [g45_]; exact y3
    (repeat' (((conv => whnf); first | (show (_ : Option mg_V) = _ ∧ _; assumption) | (show K _ _ _ _ _; assumption) | (show mm_th _ _ _ _; assumption) | refine And.intro (by first | assumption | omega | (simp only [true_and]; first | done | assumption | omega)) ?_ | (refine And.intro (fun _ => ?_) (fun _ => ?_) <;> first | (exfalso; omega) | skip) | intro _ | fail)))
    all_goals ((conv => whnf); (try rw [g05_]); (try rw [g15_]); (try rw [s55_]); (try rw [s35_]); (try rw [s45_]); (try rw [r55_]); (try rw [g35_]); (try rw [g45_]); (try rw [g55_]))
    (refine Exists.intro _ (Exists.intro _ (And.intro (cut₀) (And.intro ?_ (fun _ _ h₀ => h₀.elim)))); rintro _ _ ⟨rfl, e₀⟩; have e2₀ := e₀.symm; clear e₀; subst e2₀)
    (repeat' (((conv => whnf); first | (show (_ : Option mg_V) = _ ∧ _; assumption) | (show K _ _ _ _ _; assumption) | (show mm_th _ _ _ _; assumption) | refine And.intro (by first | assumption | omega | (simp only [true_and]; first | done | assumption | omega)) ?_ | (refine And.intro (fun _ => ?_) (fun _ => ?_) <;> first | (exfalso; omega) | skip) | intro _ | fail)))
    all_goals (exact ⟨Y, _, fx, by assumption, rfl⟩)
