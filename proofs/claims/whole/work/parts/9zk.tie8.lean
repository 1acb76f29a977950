/-! copy₀ tied₀ -/
def mh_sam3 (M N : mg_M) (g₀ m₀ : Nat) : Prop := (∀ a₀, kd N a₀ = kd M a₀) ∧ (∀ a₀, ln N a₀ = ln M a₀) ∧ (∀ a₀ k₀, gr N a₀ k₀ = gr M a₀ k₀) ∧ ∀ a₀ k₀, ((g₀ ≤ a₀ ∧ a₀ < g₀ + 261) ∨ (m₀ ≤ a₀ ∧ a₀ < m₀ + 13)) → a₀ ≠ g₀ + 260 → ¬ (a₀ = m₀ ∧ (k₀ = 0 ∨ (32 ≤ k₀ ∧ k₀ ≤ 35) ∨ (25 ≤ k₀ ∧ k₀ ≤ 27))) → gi N a₀ k₀ = gi M a₀ k₀
theorem mh_INV_cpy {M N : mg_M} {g₀ m₀ t₀ u₀ : Nat} (I₀ : mh_INV M g₀ m₀ t₀ u₀) (s₀ : mh_sam3 M N g₀ m₀) (ckN₀ : mg_cL N (g₀ + 261 + 1)) (bkN : mh_bkt N g₀ m₀) : mh_INV N g₀ m₀ t₀ u₀ := by
  obtain ⟨K9, V9, ⟨st₀, pm⟩, ⟨z1, z2, z3⟩, sq, md, sl, ⟨ch₀, od⟩, bk⟩ := I₀
  have F9 := mh_gF_of K9
  obtain ⟨⟨G, g1, g3₀, g4, g5₀⟩, ⟨ka, kb, kk, kg, ck⟩, pl, ⟨tl, nb⟩, ⟨tbu, clu⟩, rb⟩ := K9
  have A₀ : ∀ a₀, g₀ ≤ a₀ → a₀ < g₀ + 261 → a₀ ≠ g₀ + 260 → kd N a₀ = kd M a₀ ∧ ln N a₀ = ln M a₀ ∧ (∀ k₀, gr N a₀ k₀ = gr M a₀ k₀) ∧ ∀ k₀, gi N a₀ k₀ = gi M a₀ k₀ := fun a₀ h1 h2 h3 => ⟨s₀.1 a₀, s₀.2.1 a₀, s₀.2.2.1 a₀, fun k₀ => s₀.2.2.2 a₀ k₀ (by omega) h3 (by omega)⟩
  have B₀ : ∀ a₀, m₀ < a₀ → a₀ < m₀ + 13 → ∀ k₀, gi N a₀ k₀ = gi M a₀ k₀ := fun a₀ h1 h2 k₀ => s₀.2.2.2 a₀ k₀ (by omega) (by omega) (by omega)
  have C : ∀ k₀, k₀ ≠ 0 → ((k₀ < 32 ∨ 35 < k₀) ∧ (k₀ < 25 ∨ 27 < k₀)) → gi N m₀ k₀ = gi M m₀ k₀ := fun k₀ h1 h2 => s₀.2.2.2 m₀ k₀ (by omega) (by omega) (by omega)
  have e₀ : mh_eq M N t₀ := fun a₀ h1 h2 => A₀ a₀ (by omega) (by omega) (by omega)
  have eu : mh_eq M N u₀ := fun a₀ h1 h2 => A₀ a₀ (by omega) (by omega) (by omega)
  have v0₀ := (e₀ t₀ (by omega) (by omega)).2.2.2
  have w0₀ := (eu u₀ (by omega) (by omega)).2.2.2
  have v9 := (A₀ (g₀ + 259) (by omega) (by omega) (by omega)).2.2.2
  have vg := (A₀ g₀ (by omega) (by omega) (by omega)).2.2.2
  have b1 : mi N (m₀ + 1) = mi M (m₀ + 1) := by funext p₀ q₀; exact B₀ (m₀ + 1) (by omega) (by omega) _
  have F9N := mh_gF_fr F9 s₀.1 s₀.2.1 (fun a₀ k₀ => Or.inr (s₀.2.2.1 a₀ k₀))
  have c1₀ := C 1 (by omega) (by omega)
  have c2₀ := C 2 (by omega) (by omega)
  have c3₀ := C 3 (by omega) (by omega)
  have c4₀ := C 4 (by omega) (by omega)
  have c10₀ := C 10 (by omega) (by omega)
  have c11₀ := C 11 (by omega) (by omega)
  have c12₀ := C 12 (by omega) (by omega)
  have c13₀ := C 13 (by omega) (by omega)
  have c21 := C 21 (by omega) (by omega)
  have c22 := C 22 (by omega) (by omega)
  have c23₀ := C 23 (by omega) (by omega)
  have c24₀ := C 24 (by omega) (by omega)
  refine ⟨⟨⟨mh_gF_G0 F9N, F9N.1.2.2.1, F9N.1.2.2.2.1, F9N.1.2.2.2.2.1, F9N.1.2.2.2.2.2⟩, ⟨F9N.2.2.2.1.1, F9N.2.2.2.1.2.1, F9N.2.2.2.1.2.2.1, F9N.2.2.2.1.2.2.2.1, ckN₀⟩, pl, mh_eq_tl e₀ tl nb, ⟨mh_eq_tb eu tbu, mh_eq_cL eu clu⟩, by rw [v0₀, v0₀]; exact rb.1, by rw [v0₀, v0₀]; exact rb.2.1, ?_⟩, mh_V_eq e₀ tl.2.1 V9, ⟨mh_st_g st₀ s₀.1 s₀.2.1 (fun k₀ => s₀.2.2.1 m₀ k₀), pm⟩, by rw [c1₀, c2₀, c3₀, v0₀, v0₀, v0₀]; exact ⟨z1, z2, z3⟩, mh_SQ_eq e₀ tl nb (fun b₀ h1 h2 => B₀ b₀ (by omega) (by omega)) sq, ?_, ?_, ⟨by rw [c10₀, vg]; exact ch₀, fun h₀ => ?_⟩, bkN⟩
  · have := rb.2.2
    unfold mh_ar at *
    rw [v0₀, v0₀, v9, v9, v9, v9]
    exact this
  · unfold mh_mod at *
    rw [c4₀, c1₀, c2₀, b1]
    exact md
  · unfold mh_sel at *
    rw [c21, c22, c23₀, c24₀, v9, v9, v9, v9, mh_cc_eq e₀ tl.2.1]
    exact sl
  · rw [vg] at h₀
    obtain ⟨⟨tlu, nbu⟩, o2, o3₀, o4₀, o5₀⟩ := od h₀
    refine ⟨mh_eq_tl eu tlu nbu, by rw [c11₀, c12₀, c13₀, w0₀, w0₀, w0₀]; exact o2, by rw [w0₀, w0₀, w0₀]; exact o3₀, mh_SQ_eq eu tlu nbu (fun b₀ h1 h2 => B₀ b₀ (by omega) (by omega)) o4₀, mh_V_eq eu tlu.2.1 o5₀⟩
theorem ti_copy {D : mg_D} {l : Launch} (hl : l.stackTraces = false) {M : mg_M} {g₀ m₀ t₀ u₀ : Nat} (I₀ : mh_INV M g₀ m₀ t₀ u₀) : mh_opN D l 96 181 [] M g₀ m₀ := by
  obtain ⟨st₀, rc, h4, si9, rts, hid₀, cnt₀, hco, hw, hh, hb₀, hd₀⟩ := mh_INV_m I₀
  have K9 := I₀.1
  have V9 := I₀.2.1
  have zf := I₀.2.2.2.1
  have sq := I₀.2.2.2.2.1
  have pm := I₀.2.2.1.2
  have pl := I₀.1.2.2.1
  have bb := K9.2.2.2.1.1.1.2.2
  obtain ⟨tl, nb⟩ := K9.2.2.2.1
  obtain ⟨⟨s1₀, s2₀, s3₀, s4₀⟩, cc⟩ := I₀.2.2.2.2.2.2.1
  have ar := K9.2.2.2.2.2.2.2
  unfold mh_ar at ar
  obtain ⟨tp, lf₀, hg, wd, rt, ch₀, _⟩ := mh_INV_ch I₀
  have sm₀ := mh_INV_cnt I₀ ch₀
  refine ⟨fun z₀ P => z₀ = mh_sum (fun i₀ => mh_bi (mh_in M (gr M (t₀ + 3 + 1) i₀) (g₀ + 259))) (gi M (t₀ + 3) 0).toNat ∧ mh_tK M P t₀ (g₀ + 259) (g₀ + 261) (gi M (g₀ + 259) 2 - gi M (g₀ + 259) 0 + 1) (gi M (g₀ + 259) 3 - gi M (g₀ + 259) 1 + 1), mg_MtN (cX5_copy hl K9 cc) (fun v₀ P h₀ => ⟨_, h₀.1, rfl, h₀.2⟩), ?_⟩
  rintro z9 P ⟨hz, fP, hUV, hn, bl, tv⟩
  have cm : ∀ a₀ k₀, m₀ ≤ a₀ → a₀ < m₀ + 18 → gi P a₀ k₀ = gi M a₀ k₀ := fun a₀ k₀ h1 h2 => mm_f_gi fP a₀ k₀ (by unfold mh_tf; omega)
  have stP : mm_st P m₀ := mh_st_g st₀ fP.1 fP.2.1 (fun k₀ => fP.2.2.1 m₀ k₀)
  have eRT : ∀ Y, (∀ k₀, gi Y m₀ k₀ = gi M m₀ k₀) → (∀ k₀, gi Y (m₀ + 1) k₀ = gi M (m₀ + 1) k₀) → mm_RT Y m₀ tp lf₀ hg wd := fun Y y0 y1 => by
    intro k₀ k0₀ k1₀
    rw [y0] at k1₀
    exact mm_rect_f (y0 1) (y0 2) y1 (rt k₀ k0₀ k1₀)
  refine ⟨mh_far_f fP (fun a₀ k₀ w₀ => by unfold mh_tf at w₀; omega), fun o => ?_⟩
  have e0₀ : ∀ k₀, gi (sl P o 0 z9) m₀ k₀ = gi M m₀ k₀ := fun k₀ => cm m₀ k₀ (by omega) (by omega)
  have e1₀ : ∀ k₀, gi (sl P o 0 z9) (m₀ + 1) k₀ = gi M (m₀ + 1) k₀ := fun k₀ => cm (m₀ + 1) k₀ (by omega) (by omega)
  have e2₀ : ∀ k₀, gi (sl P o 0 z9) (m₀ + 2) k₀ = gi M (m₀ + 2) k₀ := fun k₀ => cm (m₀ + 2) k₀ (by omega) (by omega)
  have e3₀ : ∀ k₀, gi (sl P o 0 z9) (m₀ + 3) k₀ = gi M (m₀ + 3) k₀ := fun k₀ => cm (m₀ + 3) k₀ (by omega) (by omega)
  have e4₀ : ∀ k₀, gi (sl P o 0 z9) (m₀ + 4) k₀ = gi M (m₀ + 4) k₀ := fun k₀ => cm (m₀ + 4) k₀ (by omega) (by omega)
  have e5₀ : ∀ k₀, gi (sl P o 0 z9) (m₀ + 5) k₀ = gi M (m₀ + 5) k₀ := fun k₀ => cm (m₀ + 5) k₀ (by omega) (by omega)
  have eF : mi (sl P o 0 z9) (m₀ + 1) = mi M (m₀ + 1) := by funext p₀ q₀; exact e1₀ _
  have R := @cX6_copy D l hl (sl P o 0 z9) m₀ tp lf₀ hg wd (mh_sum (fun i₀ => mh_bi (mh_in M (gr M (t₀ + 3 + 1) i₀) (g₀ + 259))) (gi M (t₀ + 3) 0).toNat) stP (by unfold mm_rc; rw [e0₀, e0₀]; omega) (by rw [e0₀]; exact h4) (by unfold mm_si; simp only [e0₀]; exact si9) (eRT _ e0₀ e1₀) (by simp only [mm_ch, e0₀]; exact sm₀.1)
  rw [eF] at R
  simp only [e0₀, e2₀, e3₀] at R
  rw [s1₀, s2₀, s3₀, s4₀] at R
  refine mg_MtN R ?_
  rintro w₀ Q₀ ⟨e₀, fQ, ⟨n0₀, n25₀, n26₀, n27⟩, n13, n14₀⟩
  have f1₀ : ∀ a₀, kd Q₀ a₀ = kd M a₀ := fun a₀ => (fQ.1 a₀).trans (fP.1 a₀)
  have f2₀ : ∀ a₀, ln Q₀ a₀ = ln M a₀ := fun a₀ => (fQ.2.1 a₀).trans (fP.2.1 a₀)
  have f3₀ : ∀ a₀ k₀, gr Q₀ a₀ k₀ = gr M a₀ k₀ := fun a₀ k₀ => (fQ.2.2.1 a₀ k₀).trans (fP.2.2.1 a₀ k₀)
  have fk : ∀ a₀ k₀, (a₀ < m₀ ∨ m₀ + 18 ≤ a₀) → gi Q₀ a₀ k₀ = gi P a₀ k₀ := fun a₀ k₀ w₀ => (fQ.2.2.2.2.2.2 a₀ k₀).resolve_left (by omega)
  have hb9 : ∀ a₀, g₀ + 261 + 1 ≤ a₀ → a₀ < g₀ + 261 + 1 + 123 → kd Q₀ a₀ = kd P a₀ ∧ ln Q₀ a₀ = ln P a₀ ∧ (∀ k₀, gr Q₀ a₀ k₀ = gr P a₀ k₀) ∧ ∀ k₀, gi Q₀ a₀ k₀ = gi P a₀ k₀ := fun a₀ h1 h2 => ⟨fQ.1 a₀, fQ.2.1 a₀, fun k₀ => fQ.2.2.1 a₀ k₀, fun k₀ => fk a₀ k₀ (by omega)⟩
  have s9 : mh_sam3 M Q₀ g₀ m₀ := ⟨f1₀, f2₀, f3₀, fun a₀ k₀ h1 h2 h3 => ((fQ.2.2.2.2.2.2 a₀ k₀).resolve_left (by omega)).trans (mm_f_gi fP a₀ k₀ (by unfold mh_tf; omega))⟩
  obtain ⟨y1, y2, y3, y4⟩ := mh_bl_lo bl hb9
  have rA : ∀ p₀ q₀, mh_rg (gi M (g₀ + 259) 2 - gi M (g₀ + 259) 0 + 1) (gi M (g₀ + 259) 3 - gi M (g₀ + 259) 1 + 1) p₀ q₀ → mh_rg (gi M t₀ 0) (gi M t₀ 1) (gi M (g₀ + 259) 0 + p₀) (gi M (g₀ + 259) 1 + q₀) := fun p₀ q₀ a₀ => by omega
  have TV : ∀ i₀ : Nat, (i₀ : Int) < gi P (g₀ + 261 + 1) 0 → ∀ p₀ q₀, mh_cb P (g₀ + 261 + 1) i₀ p₀ q₀ → mh_rg (gi M (g₀ + 259) 2 - gi M (g₀ + 259) 0 + 1) (gi M (g₀ + 259) 3 - gi M (g₀ + 259) 1 + 1) p₀ q₀ ∧ mh_tv M P (g₀ + 259) (mh_co M t₀ (gi M (g₀ + 259) 0 + p₀) (gi M (g₀ + 259) 1 + q₀)) (gr P (g₀ + 261 + 1 + 1) i₀) := fun i₀ hi p₀ q₀ w₀ => by
    refine ⟨?_, tv i₀ hi p₀ q₀ w₀⟩
    have b₀ := bl.2.1 i₀ hi
    unfold mh_cb at w₀
    omega
  have PT₀ : ∀ i₀ : Nat, (i₀ : Int) < gi P (g₀ + 261 + 1) 0 → ∀ p₀ q₀ p' q', mh_cb P (g₀ + 261 + 1) i₀ p₀ q₀ → mh_rg (gi M (g₀ + 259) 2 - gi M (g₀ + 259) 0 + 1) (gi M (g₀ + 259) 3 - gi M (g₀ + 259) 1 + 1) p' q' → (mi M (m₀ + 1) (gi M (g₀ + 259) 0 + p') (gi M (g₀ + 259) 1 + q') = mi M (m₀ + 1) (gi M (g₀ + 259) 0 + p₀) (gi M (g₀ + 259) 1 + q₀) ↔ mh_cb P (g₀ + 261 + 1) i₀ p' q') := fun i₀ hi p₀ q₀ p' q' w₀ h' => by
    obtain ⟨h₀, v0₀, v1₀, v2, v3, _, _⟩ := TV i₀ hi p₀ q₀ w₀
    have x₀ := (rts (gi M (g₀ + 259) 0 + p₀) (gi M (g₀ + 259) 1 + q₀) (by have := rA p₀ q₀ h₀; omega)).2.2 (gi M (g₀ + 259) 0 + p') (gi M (g₀ + 259) 1 + q') (by have := rA p' q' h'; omega) (by have := rA p' q' h'; omega)
    refine x₀.trans ?_
    unfold mh_fT mh_cb
    constructor
    · intro z₀
      omega
    · intro z₀
      omega
  have bk9 : mh_bkt Q₀ g₀ m₀ := by
    refine Or.inr ⟨⟨?_, ?_, ?_⟩, ?_, ?_, fun p₀ q₀ h₀ => ?_, fun p₀ q₀ p' q' h₀ h' => ?_, fun i₀ hi p₀ q₀ w₀ => ?_⟩
    · rw [n25₀, fk _ _ (by omega)]; exact hUV.1
    · rw [n26₀, fk _ _ (by omega)]; exact hUV.2
    · rw [n27, fk _ _ (by omega), hn]; rfl
    · rw [n25₀, n26₀]; omega
    · rw [n25₀, n26₀]; exact y1
    · rw [n25₀, n26₀] at h₀
      rw [n13 p₀ q₀ h₀]
      exact hid₀ (gi M (g₀ + 259) 0 + p₀) (gi M (g₀ + 259) 1 + q₀) (by have := rA p₀ q₀ h₀; omega)
    · rw [n25₀, n26₀] at h₀ h'
      rw [n13 p₀ q₀ h₀, n13 p' q' h', fk _ _ (by omega)]
      constructor
      · intro z₀
        obtain ⟨i₀, hi, w₀⟩ := bl.2.2.2 p₀ q₀ h₀
        exact ⟨i₀, hi, (y4 i₀ hi p₀ q₀).2 w₀, (y4 i₀ hi p' q').2 ((PT₀ i₀ hi p₀ q₀ p' q' w₀ h').1 z₀.symm)⟩
      · rintro ⟨i₀, hi, w₀, w'⟩
        exact ((PT₀ i₀ hi p₀ q₀ p' q' ((y4 i₀ hi p₀ q₀).1 w₀) h').2 ((y4 i₀ hi p' q').1 w')).symm
    · rw [fk _ _ (by omega)] at hi
      have w2₀ := (y4 i₀ hi p₀ q₀).1 w₀
      obtain ⟨h₀, v0₀, v1₀, v2, v3, v4₀, v5⟩ := TV i₀ hi p₀ q₀ w2₀
      have a₀ := rA p₀ q₀ h₀
      have ir := hid₀ _ _ (show mh_rg (gi M m₀ 1) (gi M m₀ 2) (gi M (g₀ + 259) 0 + p₀) (gi M (g₀ + 259) 1 + q₀) by omega)
      have x₀ := n14₀ (mi M (m₀ + 1) (gi M (g₀ + 259) 0 + p₀) (gi M (g₀ + 259) 1 + q₀)).toNat (by omega)
      have y₀ : gi M (m₀ + 2) (mi M (m₀ + 1) (gi M (g₀ + 259) 0 + p₀) (gi M (g₀ + 259) 1 + q₀)).toNat = gi M (mh_co M t₀ (gi M (g₀ + 259) 0 + p₀) (gi M (g₀ + 259) 1 + q₀)) 4 ∧ gi M (m₀ + 3) (mi M (m₀ + 1) (gi M (g₀ + 259) 0 + p₀) (gi M (g₀ + 259) 1 + q₀)).toNat = gi M (mh_co M t₀ (gi M (g₀ + 259) 0 + p₀) (gi M (g₀ + 259) 1 + q₀)) 5 := sq.2.2.1 _ _ a₀
      have vr := mh_V_sq V9 tl nb a₀
      obtain ⟨d1₀, d2₀⟩ := y3 i₀ hi
      rw [n13 p₀ q₀ h₀, d1₀, d2₀, d2₀, x₀.1, x₀.2, v4₀, v5, y₀.1, y₀.2]
      exact ⟨rfl, rfl, vr⟩
  exact ⟨by rw [e₀, hz], n0₀, mh_far_f fQ (fun a₀ k₀ w₀ => by omega), t₀, u₀, mh_INV_cpy I₀ s9 y1.1 bk9⟩
