/-! sizeOf₀, cellAt₀, squaresFor, select₀ tied₀; throws₀ -/
theorem mh_sum_mono {f₀ g₀ : Nat → Int} (n₀ : Nat) (h₀ : ∀ k₀, k₀ < n₀ → f₀ k₀ ≤ g₀ k₀) : mh_sum f₀ n₀ ≤ mh_sum g₀ n₀ := by
  induction n₀ with
  | zero => exact Int.le_refl _
  | succ n₀ ih₀ =>
    have a₀ := ih₀ (fun k₀ hk => h₀ k₀ (by omega))
    have b₀ := h₀ n₀ (by omega)
    show mh_sum f₀ n₀ + f₀ n₀ ≤ mh_sum g₀ n₀ + g₀ n₀
    omega
def mh_sam2 (M N : mg_M) (g₀ m₀ : Nat) : Prop := (∀ a₀, kd N a₀ = kd M a₀) ∧ (∀ a₀, ln N a₀ = ln M a₀) ∧ (∀ a₀ k₀, gr N a₀ k₀ = gr M a₀ k₀) ∧ ∀ a₀ k₀, ((g₀ ≤ a₀ ∧ a₀ < g₀ + 385) ∨ (m₀ ≤ a₀ ∧ a₀ < m₀ + 18)) → a₀ ≠ g₀ + 260 → a₀ ≠ g₀ + 259 → ¬ (a₀ = m₀ ∧ (k₀ = 0 ∨ (32 ≤ k₀ ∧ k₀ ≤ 35) ∨ (21 ≤ k₀ ∧ k₀ ≤ 24))) → gi N a₀ k₀ = gi M a₀ k₀
theorem mh_INV_sel {M N : mg_M} {g₀ m₀ t₀ u₀ : Nat} (I₀ : mh_INV M g₀ m₀ t₀ u₀) (s₀ : mh_sam2 M N g₀ m₀) (arN : mh_ar N t₀ (g₀ + 259)) (slN₀ : mh_sel N g₀ m₀ t₀) : mh_INV N g₀ m₀ t₀ u₀ := by
  obtain ⟨K9, V9, ⟨st₀, pm⟩, ⟨z1, z2, z3⟩, sq, md, sl, ⟨ch₀, od⟩, bk⟩ := I₀
  have F9 := mh_gF_of K9
  obtain ⟨⟨G, g1, g3₀, g4, g5₀⟩, ⟨ka, kb, kk, kg, ck⟩, pl, ⟨tl, nb⟩, ⟨tbu, clu⟩, rb⟩ := K9
  have A₀ : ∀ a₀, g₀ ≤ a₀ → a₀ < g₀ + 385 → (a₀ ≠ g₀ + 260 ∧ a₀ ≠ g₀ + 259) → kd N a₀ = kd M a₀ ∧ ln N a₀ = ln M a₀ ∧ (∀ k₀, gr N a₀ k₀ = gr M a₀ k₀) ∧ ∀ k₀, gi N a₀ k₀ = gi M a₀ k₀ := fun a₀ h1 h2 h3 => ⟨s₀.1 a₀, s₀.2.1 a₀, s₀.2.2.1 a₀, fun k₀ => s₀.2.2.2 a₀ k₀ (by omega) h3.1 h3.2 (by omega)⟩
  have B₀ : ∀ a₀, m₀ < a₀ → a₀ < m₀ + 18 → ∀ k₀, gi N a₀ k₀ = gi M a₀ k₀ := fun a₀ h1 h2 k₀ => s₀.2.2.2 a₀ k₀ (by omega) (by omega) (by omega) (by omega)
  have C : ∀ k₀, k₀ ≠ 0 → ((k₀ < 32 ∨ 35 < k₀) ∧ (k₀ < 21 ∨ 24 < k₀)) → gi N m₀ k₀ = gi M m₀ k₀ := fun k₀ h1 h2 => s₀.2.2.2 m₀ k₀ (by omega) (by omega) (by omega) (by omega)
  have e₀ : mh_eq M N t₀ := fun a₀ h1 h2 => A₀ a₀ (by omega) (by omega) (by omega)
  have eu : mh_eq M N u₀ := fun a₀ h1 h2 => A₀ a₀ (by omega) (by omega) (by omega)
  have v0₀ := (e₀ t₀ (by omega) (by omega)).2.2.2
  have w0₀ := (eu u₀ (by omega) (by omega)).2.2.2
  have vg := (A₀ g₀ (by omega) (by omega) (by omega)).2.2.2
  have b1 : mi N (m₀ + 1) = mi M (m₀ + 1) := by funext p₀ q₀; exact B₀ (m₀ + 1) (by omega) (by omega) _
  have b13 : mi N (m₀ + 13) = mi M (m₀ + 13) := by funext p₀ q₀; exact B₀ (m₀ + 13) (by omega) (by omega) _
  have F9N := mh_gF_fr F9 s₀.1 s₀.2.1 (fun a₀ k₀ => Or.inr (s₀.2.2.1 a₀ k₀))
  have c1₀ := C 1 (by omega) (by omega)
  have c2₀ := C 2 (by omega) (by omega)
  have c3₀ := C 3 (by omega) (by omega)
  have c4₀ := C 4 (by omega) (by omega)
  have c10₀ := C 10 (by omega) (by omega)
  have c11₀ := C 11 (by omega) (by omega)
  have c12₀ := C 12 (by omega) (by omega)
  have c13₀ := C 13 (by omega) (by omega)
  have c25₀ := C 25 (by omega) (by omega)
  have c26 := C 26 (by omega) (by omega)
  have c27₀ := C 27 (by omega) (by omega)
  have hb₀ := fun a₀ (h1 : g₀ + 261 + 1 ≤ a₀) (h2 : a₀ < g₀ + 261 + 1 + 123) => A₀ a₀ (by omega) (by omega) (by omega)
  refine ⟨⟨⟨mh_gF_G0 F9N, F9N.1.2.2.1, F9N.1.2.2.2.1, F9N.1.2.2.2.2.1, F9N.1.2.2.2.2.2⟩, ⟨F9N.2.2.2.1.1, F9N.2.2.2.1.2.1, F9N.2.2.2.1.2.2.1, F9N.2.2.2.1.2.2.2.1, mh_cL_lo ck hb₀⟩, pl, mh_eq_tl e₀ tl nb, ⟨mh_eq_tb eu tbu, mh_eq_cL eu clu⟩, by rw [v0₀, v0₀]; exact rb.1, by rw [v0₀, v0₀]; exact rb.2.1, arN⟩, mh_V_eq e₀ tl.2.1 V9, ⟨mh_st_g st₀ s₀.1 s₀.2.1 (fun k₀ => s₀.2.2.1 m₀ k₀), pm⟩, by rw [c1₀, c2₀, c3₀, v0₀, v0₀, v0₀]; exact ⟨z1, z2, z3⟩, mh_SQ_eq e₀ tl nb (fun b₀ h1 h2 => B₀ b₀ (by omega) (by omega)) sq, ?_, slN₀, ⟨by rw [c10₀, vg]; exact ch₀, fun h₀ => ?_⟩, ?_⟩
  · unfold mh_mod at *
    rw [c4₀, c1₀, c2₀, b1]
    exact md
  · rw [vg] at h₀
    obtain ⟨⟨tlu, nbu⟩, o2, o3₀, o4₀, o5₀⟩ := od h₀
    refine ⟨mh_eq_tl eu tlu nbu, by rw [c11₀, c12₀, c13₀, w0₀, w0₀, w0₀]; exact o2, by rw [w0₀, w0₀, w0₀]; exact o3₀, mh_SQ_eq eu tlu nbu (fun b₀ h1 h2 => B₀ b₀ (by omega) (by omega)) o4₀, mh_V_eq eu tlu.2.1 o5₀⟩
  · have vk := (A₀ (g₀ + 261) (by omega) (by omega) (by omega)).2.2.2
    have vl := (A₀ (g₀ + 261 + 1) (by omega) (by omega) (by omega)).2.2.2
    unfold mh_bkt at *
    rw [vk, vk, c25₀, c26, c27₀, vl, b13]
    refine bk.imp id ?_
    rintro ⟨x1₀, x2₀, x3, x4₀, x5₀, x6⟩
    obtain ⟨y1, y2, y3, y4⟩ := mh_bl_lo x3 hb₀
    refine ⟨x1₀, x2₀, y1, x4₀, fun p₀ q₀ p' q' h1 h2 => ?_, fun i₀ hi p₀ q₀ w₀ => ?_⟩
    · rw [x5₀ p₀ q₀ p' q' h1 h2]
      constructor
      · rintro ⟨i₀, hi, w1₀, w2₀⟩
        exact ⟨i₀, hi, (y4 i₀ hi p₀ q₀).2 w1₀, (y4 i₀ hi p' q').2 w2₀⟩
      · rintro ⟨i₀, hi, w1₀, w2₀⟩
        exact ⟨i₀, hi, (y4 i₀ hi p₀ q₀).1 w1₀, (y4 i₀ hi p' q').1 w2₀⟩
    · obtain ⟨d1₀, d2₀⟩ := y3 i₀ hi
      rw [d1₀]
      simp only [d2₀, B₀ (m₀ + 14) (by omega) (by omega), B₀ (m₀ + 15) (by omega) (by omega)]
      exact x6 i₀ hi p₀ q₀ ((y4 i₀ hi p₀ q₀).1 w₀)
theorem mh_wsum_cg {M N : mg_M} {a₀ b₀ : Nat} {c₀ n₀ k₀ : Int} (h₀ : ∀ j₀ : Int, 0 ≤ j₀ → j₀ < k₀ → gi N b₀ j₀.toNat = gi M a₀ j₀.toNat) (hc₀ : 0 ≤ c₀) (hn : 0 ≤ n₀) (hk : c₀ + n₀ ≤ k₀) : mh_wsum N b₀ c₀ n₀ = mh_wsum M a₀ c₀ n₀ := by
  unfold mh_wsum
  refine mh_sum_cg _ (fun j₀ hj => ?_)
  have := h₀ (c₀.toNat + j₀ : Nat) (by omega) (by omega)
  rw [Int.toNat_natCast] at this
  exact this
theorem mh_line_cg {M N : mg_M} {a₀ b₀ : Nat} {n₀ x₀ c₀ : Int} (h₀ : ∀ j₀ : Int, 0 ≤ j₀ → j₀ < n₀ → gi N b₀ j₀.toNat = gi M a₀ j₀.toNat) (l : mh_line M a₀ n₀ x₀ c₀) : mh_line N b₀ n₀ x₀ c₀ := by
  have w₀ : ∀ k₀, 0 ≤ k₀ → k₀ ≤ n₀ → mh_wsum N b₀ 0 k₀ = mh_wsum M a₀ 0 k₀ := fun k₀ k0₀ k1₀ => mh_wsum_cg h₀ (by omega) k0₀ (by omega)
  rcases l with ⟨l1, l2⟩ | ⟨l1, l2⟩
  · refine Or.inl ⟨l1, fun k₀ k0₀ k1₀ => ?_⟩
    rw [w₀ k₀ k0₀ (by omega), w₀ (k₀ + 1) (by omega) (by omega)]
    exact l2 k₀ k0₀ k1₀
  · refine Or.inr ⟨l1, ?_⟩
    rw [w₀ c₀ l1.1 (by omega), w₀ (c₀ + 1) (by omega) (by omega)]
    exact l2
theorem mh_line_ex (M : mg_M) (a₀ : Nat) (n₀ x₀ : Int) : ∃ c₀, mh_line M a₀ n₀ x₀ c₀ := by
  by_cases h₀ : ∃ k₀, 0 ≤ k₀ ∧ k₀ < n₀ ∧ mh_wsum M a₀ 0 k₀ ≤ x₀ ∧ x₀ < mh_wsum M a₀ 0 (k₀ + 1)
  · obtain ⟨k₀, k0₀, k1₀, k2₀⟩ := h₀
    exact ⟨k₀, Or.inr ⟨⟨k0₀, k1₀⟩, k2₀⟩⟩
  · exact ⟨-1, Or.inl ⟨rfl, fun k₀ k0₀ k1₀ w₀ => h₀ ⟨k₀, k0₀, k1₀, w₀⟩⟩⟩
theorem ti_sizeOf0 {D : mg_D} {l : Launch} (hl : l.stackTraces = false) {M : mg_M} {g₀ m₀ t₀ u₀ : Nat} {r₀ c₀ : Int} (I₀ : mh_INV M g₀ m₀ t₀ u₀) (h₀ : mh_rg (gi M t₀ 0) (gi M t₀ 1) r₀ c₀) : mh_opN D l 107 199 [.inl r₀, .inl c₀] M g₀ m₀ := by
  obtain ⟨st₀, rc, h4, si9, rts, hid₀, cnt₀, hco, hw, hh, hb₀, hd₀⟩ := mh_INV_m I₀
  have K9 := I₀.1
  have V9 := I₀.2.1
  have zf := I₀.2.2.2.1
  have sq := I₀.2.2.2.2.1
  have pm := I₀.2.2.1.2
  have pl := I₀.1.2.2.1
  have bb := K9.2.2.2.1.1.1.2.2
  obtain ⟨tl, nb⟩ := K9.2.2.2.1
  have h' : mh_rg (gi M m₀ 1) (gi M m₀ 2) r₀ c₀ := by omega
  refine ⟨fun z₀ P => z₀ = mh_wsum M (t₀ + 2) (gi M (mh_co M t₀ r₀ c₀) 1) (gi M (mh_co M t₀ r₀ c₀) 3) * mh_wsum M (t₀ + 1) (gi M (mh_co M t₀ r₀ c₀) 0) (gi M (mh_co M t₀ r₀ c₀) 2) ∧ P = M, mg_MtN (cX5_sizeOf0 hl K9 V9 h₀) (fun v₀ P h₀ => ⟨_, h₀.1, rfl, h₀.2⟩), ?_⟩
  rintro z9 P ⟨hz, rfl⟩
  refine ⟨mh_far_rfl, fun o => ?_⟩
  have R : mg_Mt D l 199 [.inr (.inl m₀), .inl r₀, .inl c₀] (sl P o 0 z9) (fun v₀ N => v₀ = some (.inl (mh_wsum P (m₀ + 4) (mh_fT P t₀ 1 r₀ c₀) (mh_fT P t₀ 3 r₀ c₀) * mh_wsum P (m₀ + 5) (mh_fT P t₀ 0 r₀ c₀) (mh_fT P t₀ 2 r₀ c₀))) ∧ N = si (sl P o 0 z9) m₀ 0 0) mg_no := cX6_sizeOf0 hl (mh_INV_m (mh_INV_sl I₀)).1 (mh_INV_m (mh_INV_sl I₀)).2.1 h' (rts r₀ c₀ h') hw hh
  refine mg_MtN R ?_
  rintro w₀ Q₀ ⟨e₀, hQ⟩
  have ti := (mh_til_at tl nb r₀ c₀ h₀).1
  have w4₀ : mh_wsum P (m₀ + 4) (mh_fT P t₀ 1 r₀ c₀) (mh_fT P t₀ 3 r₀ c₀) = mh_wsum P (t₀ + 2) (mh_fT P t₀ 1 r₀ c₀) (mh_fT P t₀ 3 r₀ c₀) := mh_wsum_cg (k₀ := gi P t₀ 1) (fun j₀ j0 j1 => sq.2.2.2.1 j₀ j0 j1) (by omega) (by omega) (by omega)
  have w5 : mh_wsum P (m₀ + 5) (mh_fT P t₀ 0 r₀ c₀) (mh_fT P t₀ 2 r₀ c₀) = mh_wsum P (t₀ + 1) (mh_fT P t₀ 0 r₀ c₀) (mh_fT P t₀ 2 r₀ c₀) := mh_wsum_cg (k₀ := gi P t₀ 0) (fun j₀ j0 j1 => sq.2.2.2.2 j₀ j0 j1) (by omega) (by omega) (by omega)
  exact ⟨by rw [e₀, hz, w4₀, w5]; rfl, mh_INV_q (mh_INV_sl I₀) hQ⟩
theorem ti_cellAt0 {D : mg_D} {l : Launch} (hl : l.stackTraces = false) {M : mg_M} {g₀ m₀ t₀ u₀ : Nat} {x₀ y₀ c₀ r₀ : Int} (I₀ : mh_INV M g₀ m₀ t₀ u₀) (hc₀ : mh_line M (t₀ + 2) (gi M t₀ 1) x₀ c₀) (hr : mh_line M (t₀ + 1) (gi M t₀ 0) y₀ r₀) (hn : c₀ ≠ -1 ∧ r₀ ≠ -1) : mh_opN D l 108 200 [.inl x₀, .inl y₀] M g₀ m₀ := by
  obtain ⟨st₀, rc, h4, si9, rts, hid₀, cnt₀, hco, hw, hh, hb₀, hd₀⟩ := mh_INV_m I₀
  have K9 := I₀.1
  have V9 := I₀.2.1
  have zf := I₀.2.2.2.1
  have sq := I₀.2.2.2.2.1
  have pm := I₀.2.2.1.2
  have pl := I₀.1.2.2.1
  have bb := K9.2.2.2.1.1.1.2.2
  have hc2 : mh_line M (m₀ + 4) (gi M m₀ 2) x₀ c₀ := by rw [zf.2.1]; exact mh_line_cg (fun j₀ j0 j1 => sq.2.2.2.1 j₀ j0 j1) hc₀
  have hr2 : mh_line M (m₀ + 5) (gi M m₀ 1) y₀ r₀ := by rw [zf.1]; exact mh_line_cg (fun j₀ j0 j1 => sq.2.2.2.2 j₀ j0 j1) hr
  have h₀ : mh_rg (gi M t₀ 0) (gi M t₀ 1) r₀ c₀ := by
    refine ⟨?_, ?_⟩
    · rcases hr with ⟨z₀, _⟩ | ⟨z₀, _⟩ <;> omega
    · rcases hc₀ with ⟨z₀, _⟩ | ⟨z₀, _⟩ <;> omega
  have h' : mh_rg (gi M m₀ 1) (gi M m₀ 2) r₀ c₀ := by omega
  refine ⟨fun z₀ P => z₀ = 100 * gi M (mh_co M t₀ r₀ c₀) 0 + gi M (mh_co M t₀ r₀ c₀) 1 ∧ P = M, mg_MtN (cX5_cellAt0 hl K9 V9 hc₀ hr hn) (fun v₀ P h₀ => ⟨_, h₀.1, rfl, h₀.2⟩), ?_⟩
  rintro z9 P ⟨hz, rfl⟩
  refine ⟨mh_far_rfl, fun o => ?_⟩
  have R : mg_Mt D l 200 [.inr (.inl m₀), .inl x₀, .inl y₀] (sl P o 0 z9) (fun v₀ N => v₀ = some (.inl (100 * mh_fT P t₀ 0 r₀ c₀ + mh_fT P t₀ 1 r₀ c₀)) ∧ N = si (sl P o 0 z9) m₀ 0 0) mg_no := cX6_cellAt0 hl (mh_INV_m (mh_INV_sl I₀)).1 (mh_INV_m (mh_INV_sl I₀)).2.1 hw hh hc2 hr2 h' (rts r₀ c₀ h')
  refine mg_MtN R ?_
  rintro w₀ Q₀ ⟨e₀, hQ⟩
  exact ⟨by rw [e₀, hz]; rfl, mh_INV_q (mh_INV_sl I₀) hQ⟩
theorem ti_cellAt1 {D : mg_D} {l : Launch} (hl : l.stackTraces = false) {M : mg_M} {g₀ m₀ t₀ u₀ : Nat} {x₀ y₀ c₀ r₀ : Int} (I₀ : mh_INV M g₀ m₀ t₀ u₀) (hc₀ : mh_line M (t₀ + 2) (gi M t₀ 1) x₀ c₀) (hr : mh_line M (t₀ + 1) (gi M t₀ 0) y₀ r₀) (hn : c₀ = -1 ∨ r₀ = -1) : mh_opT D l 108 200 [.inl x₀, .inl y₀] M g₀ m₀ 5 1 := by
  refine mh_opT_of (cX5_cellAt1 hl I₀.1 I₀.2.1 hc₀ hr hn) (fun P s₀ => ?_) I₀
  have IP := mh_INV_same I₀ s₀
  obtain ⟨v1₀, v2, v3⟩ := mh_same_v I₀ s₀
  have z₀ := I₀.2.2.2.1
  have e1₀ := v2 1 (by omega) (by omega)
  have e2₀ := v2 2 (by omega) (by omega)
  have e3₀ := v2 3 (by omega) (by omega)
  obtain ⟨st₀, rc, h4, si9, rts, hid₀, cnt₀, hco, hw, hh, hb₀, hd₀⟩ := mh_INV_m IP
  have sq := I₀.2.2.2.2.1
  have hc2 : mh_line P (m₀ + 4) (gi P m₀ 2) x₀ c₀ := by
    rw [e2₀, z₀.2.1]
    exact mh_line_cg (fun j₀ j0 j1 => (v3 (m₀ + 4) (by omega) (by omega) _).trans (sq.2.2.2.1 j₀ j0 j1)) hc₀
  have hr2 : mh_line P (m₀ + 5) (gi P m₀ 1) y₀ r₀ := by
    rw [e1₀, z₀.1]
    exact mh_line_cg (fun j₀ j0 j1 => (v3 (m₀ + 5) (by omega) (by omega) _).trans (sq.2.2.2.2 j₀ j0 j1)) hr
  exact mg_MtN (cX6_cellAt1 hl st₀ rc hw hh hc2 hr2 hn) (fun w₀ Q₀ h₀ => ⟨h₀.1, Or.inl h₀.2⟩)
theorem ti_squaresFor0 {D : mg_D} {l : Launch} (hl : l.stackTraces = false) {M : mg_M} {g₀ m₀ t₀ u₀ : Nat} {r₀ c₀ r' c' : Int} (I₀ : mh_INV M g₀ m₀ t₀ u₀) (h₀ : mh_rg (gi M t₀ 0) (gi M t₀ 1) r₀ c₀) (h9 : mh_rg (gi M t₀ 0) (gi M t₀ 1) r' c') : mh_opN D l 92 171 [.inl r₀, .inl c₀, .inl r', .inl c'] M g₀ m₀ := by
  obtain ⟨st₀, rc, h4, si9, rts, hid₀, cnt₀, hco, hw, hh, hb₀, hd₀⟩ := mh_INV_m I₀
  have K9 := I₀.1
  have V9 := I₀.2.1
  have zf := I₀.2.2.2.1
  have sq := I₀.2.2.2.2.1
  have pm := I₀.2.2.1.2
  have pl := I₀.1.2.2.1
  have bb := K9.2.2.2.1.1.1.2.2
  refine ⟨fun z₀ P => z₀ = (gi P (g₀ + 260) 2 - gi P (g₀ + 260) 0 + 1) * (gi P (g₀ + 260) 3 - gi P (g₀ + 260) 1 + 1) ∧ mh_hs M P t₀ (g₀ + 260) (min r₀ r') (max r₀ r') (min c₀ c') (max c₀ c'), mg_MtN (cX5_squaresFor0 hl K9 h₀ h9) (fun v₀ P h₀ => ⟨_, h₀.1, rfl, h₀.2⟩), ?_⟩
  rintro z9 P ⟨hz, fx, ar, hu⟩
  have sm₀ : mh_same M P g₀ m₀ := ⟨fx.1, fx.2.1, fx.2.2.1, fun a₀ k₀ _ h3 _ => fx.2.2.2.2.2.2 a₀ k₀ h3⟩
  have IP := mh_INV_same I₀ sm₀
  refine ⟨mh_far_fx fx (by omega), fun o => ?_⟩
  have IS : mh_INV (sl P o 0 z9) g₀ m₀ t₀ u₀ := mh_INV_sl IP
  obtain ⟨tp, lf₀, hg, wd, rt, ch₀, ecl⟩ := mh_INV_ch IS
  have eS : mh_eq M (sl P o 0 z9) t₀ := fun a₀ h1 h2 => ⟨fx.1 a₀, fx.2.1 a₀, fx.2.2.1 a₀, fun k₀ => fx.2.2.2.2.2.2 a₀ k₀ (by omega)⟩
  rw [mh_cc_eq eS K9.2.2.2.1.1.2.1] at ecl
  have ms := mh_INV_m IS
  have em1 : gi (sl P o 0 z9) m₀ 1 = gi M t₀ 0 := (fx.2.2.2.2.2.2 m₀ 1 (by omega)).trans zf.1
  have em2 : gi (sl P o 0 z9) m₀ 2 = gi M t₀ 1 := (fx.2.2.2.2.2.2 m₀ 2 (by omega)).trans zf.2.1
  have R := @cX6_squaresFor0 D l hl (sl P o 0 z9) m₀ tp lf₀ hg wd r₀ c₀ r' c' ms.1 ms.2.1 (by have := ms.2.2.1; omega) rt (by rw [em1, em2]; exact h₀) (by rw [em1, em2]; exact h9)
  rw [ecl] at R
  refine mg_MtN R ?_
  rintro w₀ Q₀ ⟨e₀, fQ, q0, _, hq⟩
  obtain ⟨x1₀, x2₀, x3, x4₀⟩ := mh_hull1 hq hu
  exact ⟨by rw [e₀, hz, x1₀, x2₀, x3, x4₀], q0, mh_far_f fQ (fun a₀ k₀ w₀ => by omega), t₀, u₀, mh_INV_same IS (mh_same_f fQ (fun a₀ k₀ w₀ => by omega))⟩
theorem ti_select0 {D : mg_D} {l : Launch} (hl : l.stackTraces = false) {M : mg_M} {g₀ m₀ t₀ u₀ : Nat} {r₀ c₀ r' c' : Int} (I₀ : mh_INV M g₀ m₀ t₀ u₀) (h₀ : mh_rg (gi M t₀ 0) (gi M t₀ 1) r₀ c₀) (h9 : mh_rg (gi M t₀ 0) (gi M t₀ 1) r' c') : mh_opN D l 89 167 [.inl r₀, .inl c₀, .inl r', .inl c'] M g₀ m₀ := by
  obtain ⟨st₀, rc, h4, si9, rts, hid₀, cnt₀, hco, hw, hh, hb₀, hd₀⟩ := mh_INV_m I₀
  have K9 := I₀.1
  have V9 := I₀.2.1
  have zf := I₀.2.2.2.1
  have sq := I₀.2.2.2.2.1
  have pm := I₀.2.2.1.2
  have pl := I₀.1.2.2.1
  have bb := K9.2.2.2.1.1.1.2.2
  refine ⟨fun z₀ P => z₀ = (gi P (g₀ + 259) 2 - gi P (g₀ + 259) 0 + 1) * (gi P (g₀ + 259) 3 - gi P (g₀ + 259) 1 + 1) ∧ mh_hs M P t₀ (g₀ + 259) (min r₀ r') (max r₀ r') (min c₀ c') (max c₀ c'), mg_MtN (cX5_select0 hl K9 h₀ h9) (fun v₀ P h₀ => ⟨_, h₀.1, rfl, h₀.2⟩), ?_⟩
  rintro z9 P ⟨hz, fx, ar, hu⟩
  refine ⟨mh_far_fx fx (by omega), fun o => ?_⟩
  have e0₀ : ∀ a₀ k₀, m₀ ≤ a₀ → gi (sl P o 0 z9) a₀ k₀ = gi M a₀ k₀ := fun a₀ k₀ w₀ => fx.2.2.2.2.2.2 a₀ k₀ (by omega)
  obtain ⟨tp, lf₀, hg, wd, rt, ch₀, ecl⟩ := mh_INV_ch I₀
  have rtS : mm_RT (sl P o 0 z9) m₀ tp lf₀ hg wd := by
    intro k₀ k0₀ k1₀
    rw [e0₀ m₀ 4 (by omega)] at k1₀
    exact mm_rect_f (e0₀ m₀ 1 (by omega)) (e0₀ m₀ 2 (by omega)) (fun j₀ => e0₀ (m₀ + 1) j₀ (by omega)) (rt k₀ k0₀ k1₀)
  have stS₀ : mm_st (sl P o 0 z9) m₀ := mh_st_g st₀ fx.1 fx.2.1 (fun k₀ => fx.2.2.1 m₀ k₀)
  have R := @cX6_select0 D l hl (sl P o 0 z9) m₀ tp lf₀ hg wd r₀ c₀ r' c' stS₀ (by unfold mm_rc; rw [e0₀ m₀ 1 (by omega), e0₀ m₀ 2 (by omega)]; omega) (by rw [e0₀ m₀ 4 (by omega)]; omega) rtS (by rw [e0₀ m₀ 1 (by omega), e0₀ m₀ 2 (by omega), zf.1, zf.2.1]; exact h₀) (by rw [e0₀ m₀ 1 (by omega), e0₀ m₀ 2 (by omega), zf.1, zf.2.1]; exact h9)
  rw [e0₀ m₀ 4 (by omega), ecl] at R
  refine mg_MtN R ?_
  rintro w₀ Q₀ ⟨e₀, fQ, q0, _, hq⟩
  obtain ⟨x1₀, x2₀, x3, x4₀⟩ := mh_hull1 hq hu
  have s2₀ : mh_sam2 M Q₀ g₀ m₀ := ⟨fun a₀ => (fQ.1 a₀).trans (fx.1 a₀), fun a₀ => (fQ.2.1 a₀).trans (fx.2.1 a₀), fun a₀ k₀ => (fQ.2.2.1 a₀ k₀).trans (fx.2.2.1 a₀ k₀), fun a₀ k₀ h1 h2 h3 h4 => ((fQ.2.2.2.2.2.2 a₀ k₀).resolve_left (by omega)).trans (fx.2.2.2.2.2.2 a₀ k₀ h3)⟩
  have v9 : ∀ k₀, gi Q₀ (g₀ + 259) k₀ = gi P (g₀ + 259) k₀ := fun k₀ => (fQ.2.2.2.2.2.2 (g₀ + 259) k₀).resolve_left (by omega)
  have vt : ∀ k₀, gi Q₀ t₀ k₀ = gi P t₀ k₀ := fun k₀ => (fQ.2.2.2.2.2.2 t₀ k₀).resolve_left (by omega)
  have eQ : mh_eq M Q₀ t₀ := fun a₀ h1 h2 => ⟨s2₀.1 a₀, s2₀.2.1 a₀, s2₀.2.2.1 a₀, fun k₀ => s2₀.2.2.2 a₀ k₀ (by omega) (by omega) (by omega) (by omega)⟩
  refine ⟨by rw [e₀, hz, x1₀, x2₀, x3, x4₀], q0, mh_far_f fQ (fun a₀ k₀ w₀ => by omega), t₀, u₀, mh_INV_sel I₀ s2₀ ?_ ⟨?_, ?_⟩⟩
  · unfold mh_ar at *
    rw [vt, vt, v9, v9, v9, v9]
    exact ar
  · rw [v9, v9, v9, v9]
    exact ⟨x1₀, x2₀, x3, x4₀⟩
  · rw [mh_cc_eq eQ K9.2.2.2.1.1.2.1, v9, v9, v9, v9]
    exact hu.2.1
theorem ti_squaresFor1 {D : mg_D} {l : Launch} (hl : l.stackTraces = false) {M : mg_M} {g₀ m₀ t₀ u₀ : Nat} {r₀ c₀ r' c' : Int} (I₀ : mh_INV M g₀ m₀ t₀ u₀) (h₀ : ¬ (mh_rg (gi M t₀ 0) (gi M t₀ 1) r₀ c₀ ∧ mh_rg (gi M t₀ 0) (gi M t₀ 1) r' c')) : mh_opT D l 92 171 [.inl r₀, .inl c₀, .inl r', .inl c'] M g₀ m₀ 1 1 := by
  refine mh_opT_of (cX5_squaresFor1 hl I₀.1 h₀) (fun P s₀ => ?_) I₀
  have IP := mh_INV_same I₀ s₀
  obtain ⟨v1₀, v2, v3⟩ := mh_same_v I₀ s₀
  have z₀ := I₀.2.2.2.1
  have e1₀ := v2 1 (by omega) (by omega)
  have e2₀ := v2 2 (by omega) (by omega)
  have e3₀ := v2 3 (by omega) (by omega)
  obtain ⟨st₀, rc, h4, si9, rts, hid₀, cnt₀, hco, hw, hh, hb₀, hd₀⟩ := mh_INV_m IP
  exact mg_MtN (cX6_squaresFor1 hl st₀ rc (by omega)) (fun w₀ Q₀ h₀ => ⟨h₀.1, Or.inl h₀.2⟩)
theorem ti_select1 {D : mg_D} {l : Launch} (hl : l.stackTraces = false) {M : mg_M} {g₀ m₀ t₀ u₀ : Nat} {r₀ c₀ r' c' : Int} (I₀ : mh_INV M g₀ m₀ t₀ u₀) (h₀ : ¬ (mh_rg (gi M t₀ 0) (gi M t₀ 1) r₀ c₀ ∧ mh_rg (gi M t₀ 0) (gi M t₀ 1) r' c')) : mh_opT D l 89 167 [.inl r₀, .inl c₀, .inl r', .inl c'] M g₀ m₀ 1 1 := by
  refine mh_opT_of (cX5_select1 hl I₀.1 h₀) (fun P s₀ => ?_) I₀
  have IP := mh_INV_same I₀ s₀
  obtain ⟨v1₀, v2, v3⟩ := mh_same_v I₀ s₀
  have z₀ := I₀.2.2.2.1
  have e1₀ := v2 1 (by omega) (by omega)
  have e2₀ := v2 2 (by omega) (by omega)
  have e3₀ := v2 3 (by omega) (by omega)
  obtain ⟨st₀, rc, h4, si9, rts, hid₀, cnt₀, hco, hw, hh, hb₀, hd₀⟩ := mh_INV_m IP
  exact mg_MtN (cX6_select1 hl st₀ rc (by omega)) (fun w₀ Q₀ h₀ => ⟨h₀.1, Or.inl h₀.2⟩)
theorem ti_setHeader1 {D : mg_D} {l : Launch} (hl : l.stackTraces = false) {M : mg_M} {g₀ m₀ t₀ u₀ : Nat} {x₀ : Int} (I₀ : mh_INV M g₀ m₀ t₀ u₀) (hx : ¬ (0 ≤ x₀ ∧ x₀ ≤ gi M t₀ 0)) : mh_opT D l 98 189 [.inl x₀] M g₀ m₀ 3 1 := by
  refine mh_opT_of (cX5_setHeader1 hl I₀.1 hx) (fun P s₀ => ?_) I₀
  have IP := mh_INV_same I₀ s₀
  obtain ⟨v1₀, v2, v3⟩ := mh_same_v I₀ s₀
  have z₀ := I₀.2.2.2.1
  have e1₀ := v2 1 (by omega) (by omega)
  have e2₀ := v2 2 (by omega) (by omega)
  have e3₀ := v2 3 (by omega) (by omega)
  obtain ⟨st₀, rc, h4, si9, rts, hid₀, cnt₀, hco, hw, hh, hb₀, hd₀⟩ := mh_INV_m IP
  exact mg_MtN (cX6_setHeader1 hl st₀ rc (by omega)) (fun w₀ Q₀ h₀ => ⟨h₀.1, Or.inl h₀.2⟩)
theorem ti_setHeader2 {D : mg_D} {l : Launch} (hl : l.stackTraces = false) {M : mg_M} {g₀ m₀ t₀ u₀ : Nat} {x₀ : Int} (I₀ : mh_INV M g₀ m₀ t₀ u₀) (hx : 0 ≤ x₀ ∧ x₀ ≤ gi M t₀ 0) (hn : ∃ i₀ : Nat, (i₀ : Int) < gi M (t₀ + 3) 0 ∧ gi M (gr M (t₀ + 3 + 1) i₀) 0 < x₀ ∧ x₀ ≤ gi M (gr M (t₀ + 3 + 1) i₀) 0 + gi M (gr M (t₀ + 3 + 1) i₀) 2 - 1) : mh_opT D l 98 189 [.inl x₀] M g₀ m₀ 4 2 := by
  refine mh_opT_of (cX5_setHeader2 hl I₀.1 hx hn) (fun P s₀ => ?_) I₀
  have IP := mh_INV_same I₀ s₀
  obtain ⟨v1₀, v2, v3⟩ := mh_same_v I₀ s₀
  have z₀ := I₀.2.2.2.1
  have e1₀ := v2 1 (by omega) (by omega)
  have e2₀ := v2 2 (by omega) (by omega)
  have e3₀ := v2 3 (by omega) (by omega)
  obtain ⟨st₀, rc, h4, si9, rts, hid₀, cnt₀, hco, hw, hh, hb₀, hd₀⟩ := mh_INV_m IP
  have eI : mi P (m₀ + 1) = mi M (m₀ + 1) := by funext p₀ q₀; exact v3 (m₀ + 1) (by omega) (by omega) _
  exact mg_MtN (cX6_setHeader2 hl st₀ rc (by omega) (by rw [e1₀, e2₀, eI, z₀.1, z₀.2.1]; exact (mh_acr_m I₀).1 hn)) (fun w₀ Q₀ h₀ => ⟨h₀.1, Or.inl h₀.2⟩)
theorem ti_drag2 {D : mg_D} {l : Launch} (hl : l.stackTraces = false) {M : mg_M} {g₀ m₀ t₀ u₀ : Nat} {c₀ x₀ : Int} (I₀ : mh_INV M g₀ m₀ t₀ u₀) (h₀ : 0 ≤ c₀ ∧ c₀ + 1 < gi M t₀ 1) (xb : -2147483648 ≤ x₀ ∧ x₀ < 2147483648) (h2 : ¬ ((10 ≤ gi M (t₀ + 2) c₀.toNat + x₀ ∧ gi M (t₀ + 2) c₀.toNat + x₀ ≤ 200) ∧ (10 ≤ gi M (t₀ + 2) (c₀ + 1).toNat - x₀ ∧ gi M (t₀ + 2) (c₀ + 1).toNat - x₀ ≤ 200))) : mh_opT D l 105 197 [.inl c₀, .inl x₀] M g₀ m₀ 4 2 := by
  refine mh_opT_of (cX5_drag2 hl I₀.1 I₀.2.1 h₀ xb h2) (fun P s₀ => ?_) I₀
  have IP := mh_INV_same I₀ s₀
  obtain ⟨v1₀, v2, v3⟩ := mh_same_v I₀ s₀
  have z₀ := I₀.2.2.2.1
  have e1₀ := v2 1 (by omega) (by omega)
  have e2₀ := v2 2 (by omega) (by omega)
  have e3₀ := v2 3 (by omega) (by omega)
  obtain ⟨st₀, rc, h4, si9, rts, hid₀, cnt₀, hco, hw, hh, hb₀, hd₀⟩ := mh_INV_m IP
  have w1₀ : gi P (m₀ + 4) c₀.toNat = gi M (t₀ + 2) c₀.toNat := (v3 (m₀ + 4) (by omega) (by omega) _).trans (I₀.2.2.2.2.1.2.2.2.1 c₀ h₀.1 (by omega))
  have w2₀ : gi P (m₀ + 4) (c₀ + 1).toNat = gi M (t₀ + 2) (c₀ + 1).toNat := (v3 (m₀ + 4) (by omega) (by omega) _).trans (I₀.2.2.2.2.1.2.2.2.1 (c₀ + 1) (by omega) (by omega))
  exact mg_MtN (cX6_drag2 hl st₀ rc (by omega) hw (by rw [w1₀, w2₀]; omega)) (fun w₀ Q₀ h₀ => ⟨h₀.1, Or.inr (Or.inl h₀.2)⟩)
theorem ti_takeBack1 {D : mg_D} {l : Launch} (hl : l.stackTraces = false) {M : mg_M} {g₀ m₀ t₀ u₀ : Nat} (I₀ : mh_INV M g₀ m₀ t₀ u₀) (h₀ : gi M g₀ 2 = 0) : mh_opT D l 109 202 [] M g₀ m₀ 2 1 := by
  refine mh_opT_of (cX5_takeBack1 hl I₀.1 h₀) (fun P s₀ => ?_) I₀
  have IP := mh_INV_same I₀ s₀
  obtain ⟨v1₀, v2, v3⟩ := mh_same_v I₀ s₀
  have z₀ := I₀.2.2.2.1
  have e1₀ := v2 1 (by omega) (by omega)
  have e2₀ := v2 2 (by omega) (by omega)
  have e3₀ := v2 3 (by omega) (by omega)
  obtain ⟨st₀, rc, h4, si9, rts, hid₀, cnt₀, hco, hw, hh, hb₀, hd₀⟩ := mh_INV_m IP
  exact mg_MtN (cX6_takeBack1 hl st₀ (by rw [v2 10 (by omega) (by omega), I₀.2.2.2.2.2.2.2.1.1.1]; exact h₀)) (fun w₀ Q₀ h₀ => ⟨h₀.1, Or.inl h₀.2⟩)
theorem ti_clear1 {D : mg_D} {l : Launch} (hl : l.stackTraces = false) {M : mg_M} {g₀ m₀ t₀ u₀ : Nat} (I₀ : mh_INV M g₀ m₀ t₀ u₀) (hb9 : mh_sum (fun i₀ => (if mh_bi (mh_in M (gr M (t₀ + 3 + 1) i₀) (g₀ + 259)) = 0 then (0 : Int) else if gi M (gr M (t₀ + 3 + 1) i₀) 4 = 0 then (0 : Int) else 1)) (gi M (t₀ + 3) 0).toNat = 0) : mh_opT D l 95 180 [] M g₀ m₀ 2 1 := by
  refine mh_opT_of (cX5_clear1 hl I₀.1 hb9) (fun P s₀ => ?_) I₀
  have IP := mh_INV_same I₀ s₀
  obtain ⟨v1₀, v2, v3⟩ := mh_same_v I₀ s₀
  have z₀ := I₀.2.2.2.1
  have e1₀ := v2 1 (by omega) (by omega)
  have e2₀ := v2 2 (by omega) (by omega)
  have e3₀ := v2 3 (by omega) (by omega)
  obtain ⟨st₀, rc, h4, si9, rts, hid₀, cnt₀, hco, hw, hh, hb₀, hd₀⟩ := mh_INV_m IP
  have pl := I₀.1.2.2.1
  have pm := I₀.2.2.1.2
  obtain ⟨tp, lf₀, hg, wd, rt, ch₀, ecl⟩ := mh_INV_ch IP
  have sm₀ := mh_INV_cnt IP ch₀
  have eP : mh_eq M P t₀ := fun a₀ h1 h2 => ⟨s₀.1 a₀, s₀.2.1 a₀, s₀.2.2.1 a₀, fun k₀ => s₀.2.2.2 a₀ k₀ (by omega) (by omega) (by omega)⟩
  have tlM := I₀.1.2.2.2.1.1
  have zz := tlM.2.1.2.2.2.2.2.2.1
  have e3' := (eP (t₀ + 3) (by omega) (by omega)).2.2.2 0
  have e9₀ : ∀ k₀, gi P (g₀ + 259) k₀ = gi M (g₀ + 259) k₀ := fun k₀ => s₀.2.2.2 _ k₀ (by omega) (by omega) (by omega)
  have ein : ∀ i₀ : Nat, i₀ < 120 → mh_in P (gr P (t₀ + 3 + 1) i₀) (g₀ + 259) = mh_in M (gr M (t₀ + 3 + 1) i₀) (g₀ + 259) := fun i₀ hi => mh_eq_in eP e9₀ tlM.2.1 hi
  have ecn : ∀ i₀ : Nat, i₀ < 120 → gi P (gr P (t₀ + 3 + 1) i₀) 4 = gi M (gr M (t₀ + 3 + 1) i₀) 4 := fun i₀ hi => by
    obtain ⟨x1₀, x2₀⟩ := mh_eq_cells eP tlM.2.1 hi
    rw [x1₀, x2₀]
  have ef : mh_sum (fun i₀ => (if mh_bi (mh_in P (gr P (t₀ + 3 + 1) i₀) (g₀ + 259)) = 0 then (0 : Int) else if gi P (gr P (t₀ + 3 + 1) i₀) 4 = 0 then (0 : Int) else 1)) (gi P (t₀ + 3) 0).toNat = mh_sum (fun i₀ => (if mh_bi (mh_in M (gr M (t₀ + 3 + 1) i₀) (g₀ + 259)) = 0 then (0 : Int) else if gi M (gr M (t₀ + 3 + 1) i₀) 4 = 0 then (0 : Int) else 1)) (gi M (t₀ + 3) 0).toNat := by
    rw [e3']
    exact mh_sum_cg _ (fun i₀ hi => by rw [ein i₀ (by omega), ecn i₀ (by omega)])
  exact mg_MtN (cX6_clear1 hl st₀ rc h4 si9 rt (by rw [sm₀.2.2, ef]; exact hb9)) (fun w₀ Q₀ h₀ => ⟨h₀.1, Or.inl h₀.2⟩)
theorem mh_sel_one {M : mg_M} {g₀ m₀ t₀ u₀ : Nat} (I₀ : mh_INV M g₀ m₀ t₀ u₀) : 1 ≤ mh_sum (fun i₀ => mh_bi (mh_in M (gr M (t₀ + 3 + 1) i₀) (g₀ + 259))) (gi M (t₀ + 3) 0).toNat := by
  obtain ⟨tl, nb⟩ := I₀.1.2.2.2.1
  have ar := I₀.1.2.2.2.2.2.2.2
  have cc := I₀.2.2.2.2.2.2.1.2
  unfold mh_ar at ar
  obtain ⟨i₀, hi, i1₀, w₀, e₀, ec⟩ := mh_sqc tl nb (p₀ := gi M (g₀ + 259) 0) (q₀ := gi M (g₀ + 259) 1) (by omega)
  have inn : mh_in M (gr M (t₀ + 3 + 1) i₀) (g₀ + 259) = true := mh_cc_in cc i₀ hi _ _ w₀ (by omega)
  have h1 := @mh_sum_pt 1 i₀ (gi M (t₀ + 3) 0).toNat (by omega)
  rw [← h1]
  refine mh_sum_mono _ (fun k₀ hk => ?_)
  by_cases x₀ : k₀ = i₀
  · rw [if_pos x₀, x₀, inn]; decide
  · rw [if_neg x₀]; exact (mh_bi9 _).1
theorem ti_merge1 {D : mg_D} {l : Launch} (hl : l.stackTraces = false) {M : mg_M} {g₀ m₀ t₀ u₀ : Nat} (I₀ : mh_INV M g₀ m₀ t₀ u₀) (ha₀ : mh_sum (fun i₀ => mh_bi (mh_in M (gr M (t₀ + 3 + 1) i₀) (g₀ + 259))) (gi M (t₀ + 3) 0).toNat ≤ 1) : mh_opT D l 93 174 [] M g₀ m₀ 2 1 := by
  refine mh_opT_of (cX5_merge1 hl I₀.1 ha₀) (fun P s₀ => ?_) I₀
  have IP := mh_INV_same I₀ s₀
  obtain ⟨v1₀, v2, v3⟩ := mh_same_v I₀ s₀
  have z₀ := I₀.2.2.2.1
  have e1₀ := v2 1 (by omega) (by omega)
  have e2₀ := v2 2 (by omega) (by omega)
  have e3₀ := v2 3 (by omega) (by omega)
  obtain ⟨st₀, rc, h4, si9, rts, hid₀, cnt₀, hco, hw, hh, hb₀, hd₀⟩ := mh_INV_m IP
  have pl := I₀.1.2.2.1
  have pm := I₀.2.2.1.2
  obtain ⟨tp, lf₀, hg, wd, rt, ch₀, ecl⟩ := mh_INV_ch IP
  have sm₀ := mh_INV_cnt IP ch₀
  have eP : mh_eq M P t₀ := fun a₀ h1 h2 => ⟨s₀.1 a₀, s₀.2.1 a₀, s₀.2.2.1 a₀, fun k₀ => s₀.2.2.2 a₀ k₀ (by omega) (by omega) (by omega)⟩
  have tlM := I₀.1.2.2.2.1.1
  have zz := tlM.2.1.2.2.2.2.2.2.1
  have e3' := (eP (t₀ + 3) (by omega) (by omega)).2.2.2 0
  have e9₀ : ∀ k₀, gi P (g₀ + 259) k₀ = gi M (g₀ + 259) k₀ := fun k₀ => s₀.2.2.2 _ k₀ (by omega) (by omega) (by omega)
  have ein : ∀ i₀ : Nat, i₀ < 120 → mh_in P (gr P (t₀ + 3 + 1) i₀) (g₀ + 259) = mh_in M (gr M (t₀ + 3 + 1) i₀) (g₀ + 259) := fun i₀ hi => mh_eq_in eP e9₀ tlM.2.1 hi
  have ecn : ∀ i₀ : Nat, i₀ < 120 → gi P (gr P (t₀ + 3 + 1) i₀) 4 = gi M (gr M (t₀ + 3 + 1) i₀) 4 := fun i₀ hi => by
    obtain ⟨x1₀, x2₀⟩ := mh_eq_cells eP tlM.2.1 hi
    rw [x1₀, x2₀]
  have ec : mh_sum (fun i₀ => mh_bi (mh_in P (gr P (t₀ + 3 + 1) i₀) (g₀ + 259))) (gi P (t₀ + 3) 0).toNat = mh_sum (fun i₀ => mh_bi (mh_in M (gr M (t₀ + 3 + 1) i₀) (g₀ + 259))) (gi M (t₀ + 3) 0).toNat := by
    rw [e3']
    exact mh_sum_cg _ (fun i₀ hi => by rw [ein i₀ (by omega)])
  exact mg_MtN (cX6_merge1 hl st₀ rc h4 si9 rt (by rw [sm₀.1, ec]; have := mh_sel_one I₀; omega)) (fun w₀ Q₀ h₀ => ⟨h₀.1, Or.inl h₀.2⟩)
theorem ti_merge2 {D : mg_D} {l : Launch} (hl : l.stackTraces = false) {M : mg_M} {g₀ m₀ t₀ u₀ : Nat} (I₀ : mh_INV M g₀ m₀ t₀ u₀) (ha₀ : 1 < mh_sum (fun i₀ => mh_bi (mh_in M (gr M (t₀ + 3 + 1) i₀) (g₀ + 259))) (gi M (t₀ + 3) 0).toNat) (h2 : 1 < mh_sum (fun i₀ => (if mh_bi (mh_in M (gr M (t₀ + 3 + 1) i₀) (g₀ + 259)) = 0 then (0 : Int) else if gi M (gr M (t₀ + 3 + 1) i₀) 4 = 0 then (0 : Int) else 1)) (gi M (t₀ + 3) 0).toNat ∨ ¬ (gi M (g₀ + 259) 0 < gi M t₀ 2 ↔ gi M (g₀ + 259) 2 < gi M t₀ 2)) : mh_opT D l 93 174 [] M g₀ m₀ 4 2 := by
  refine mh_opT_of (cX5_merge2 hl I₀.1 ha₀ h2) (fun P s₀ => ?_) I₀
  have IP := mh_INV_same I₀ s₀
  obtain ⟨v1₀, v2, v3⟩ := mh_same_v I₀ s₀
  have z₀ := I₀.2.2.2.1
  have e1₀ := v2 1 (by omega) (by omega)
  have e2₀ := v2 2 (by omega) (by omega)
  have e3₀ := v2 3 (by omega) (by omega)
  obtain ⟨st₀, rc, h4, si9, rts, hid₀, cnt₀, hco, hw, hh, hb₀, hd₀⟩ := mh_INV_m IP
  have pl := I₀.1.2.2.1
  have pm := I₀.2.2.1.2
  obtain ⟨tp, lf₀, hg, wd, rt, ch₀, ecl⟩ := mh_INV_ch IP
  have sm₀ := mh_INV_cnt IP ch₀
  have eP : mh_eq M P t₀ := fun a₀ h1 h2 => ⟨s₀.1 a₀, s₀.2.1 a₀, s₀.2.2.1 a₀, fun k₀ => s₀.2.2.2 a₀ k₀ (by omega) (by omega) (by omega)⟩
  have tlM := I₀.1.2.2.2.1.1
  have zz := tlM.2.1.2.2.2.2.2.2.1
  have e3' := (eP (t₀ + 3) (by omega) (by omega)).2.2.2 0
  have e9₀ : ∀ k₀, gi P (g₀ + 259) k₀ = gi M (g₀ + 259) k₀ := fun k₀ => s₀.2.2.2 _ k₀ (by omega) (by omega) (by omega)
  have ein : ∀ i₀ : Nat, i₀ < 120 → mh_in P (gr P (t₀ + 3 + 1) i₀) (g₀ + 259) = mh_in M (gr M (t₀ + 3 + 1) i₀) (g₀ + 259) := fun i₀ hi => mh_eq_in eP e9₀ tlM.2.1 hi
  have ecn : ∀ i₀ : Nat, i₀ < 120 → gi P (gr P (t₀ + 3 + 1) i₀) 4 = gi M (gr M (t₀ + 3 + 1) i₀) 4 := fun i₀ hi => by
    obtain ⟨x1₀, x2₀⟩ := mh_eq_cells eP tlM.2.1 hi
    rw [x1₀, x2₀]
  have ec : mh_sum (fun i₀ => mh_bi (mh_in P (gr P (t₀ + 3 + 1) i₀) (g₀ + 259))) (gi P (t₀ + 3) 0).toNat = mh_sum (fun i₀ => mh_bi (mh_in M (gr M (t₀ + 3 + 1) i₀) (g₀ + 259))) (gi M (t₀ + 3) 0).toNat := by
    rw [e3']
    exact mh_sum_cg _ (fun i₀ hi => by rw [ein i₀ (by omega)])
  have ef : mh_sum (fun i₀ => (if mh_bi (mh_in P (gr P (t₀ + 3 + 1) i₀) (g₀ + 259)) = 0 then (0 : Int) else if gi P (gr P (t₀ + 3 + 1) i₀) 4 = 0 then (0 : Int) else 1)) (gi P (t₀ + 3) 0).toNat = mh_sum (fun i₀ => (if mh_bi (mh_in M (gr M (t₀ + 3 + 1) i₀) (g₀ + 259)) = 0 then (0 : Int) else if gi M (gr M (t₀ + 3 + 1) i₀) 4 = 0 then (0 : Int) else 1)) (gi M (t₀ + 3) 0).toNat := by
    rw [e3']
    exact mh_sum_cg _ (fun i₀ hi => by rw [ein i₀ (by omega), ecn i₀ (by omega)])
  have sx := I₀.2.2.2.2.2.2.1.1
  have ar := I₀.1.2.2.2.2.2.2.2
  unfold mh_ar at ar
  exact mg_MtN (cX6_merge2 hl st₀ rc h4 si9 rt rfl rfl (by rw [sm₀.1, ec]; omega) (by rw [sm₀.2.2, ef, v2 21 (by omega) (by omega), v2 22 (by omega) (by omega), e3₀, z₀.2.2, sx.1, sx.2.1]; omega)) (fun w₀ Q₀ h₀ => ⟨h₀.1, Or.inl h₀.2⟩)
