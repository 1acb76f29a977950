/-! the wrapper and the reference₀ together -/
theorem ti_copyD {D : mg_D} {l : Launch} (hl : l.stackTraces = false) {M : mg_M} {g₀ m₀ t₀ u₀ : Nat} (I₀ : mh_INV M g₀ m₀ t₀ u₀) : mh_opD D l 96 181 [] M g₀ m₀ := by
  obtain ⟨st₀, rc, h4, si9, rts, hid₀, cnt₀, hco, hw, hh, hb₀, hd₀⟩ := mh_INV_m I₀
  have K9 := I₀.1
  have V9 := I₀.2.1
  have zf := I₀.2.2.2.1
  have sq := I₀.2.2.2.2.1
  have pm := I₀.2.2.1.2
  have pl := I₀.1.2.2.1
  have bb := K9.2.2.2.1.1.1.2.2
  obtain ⟨tl, nb⟩ := K9.2.2.2.1
  obtain ⟨⟨s1₀, s2₀, s3₀, s4₀⟩, cc⟩ := I₀.2.2.2.2.2.2.1
  have ar := K9.2.2.2.2.2.2.2
  unfold mh_ar at ar
  obtain ⟨tp, lf₀, hg, wd, rt, ch₀, _⟩ := mh_INV_ch I₀
  have sm₀ := mh_INV_cnt I₀ ch₀
  refine ⟨fun z₀ P => z₀ = .inl (mh_sum (fun i₀ => mh_bi (mh_in M (gr M (t₀ + 3 + 1) i₀) (g₀ + 259))) (gi M (t₀ + 3) 0).toNat) ∧ mh_tK M P t₀ (g₀ + 259) (g₀ + 261) (gi M (g₀ + 259) 2 - gi M (g₀ + 259) 0 + 1) (gi M (g₀ + 259) 3 - gi M (g₀ + 259) 1 + 1), mg_MtN (cX5_copy hl K9 cc) (fun v₀ P h₀ => ⟨_, h₀.1, rfl, h₀.2⟩), ?_⟩
  rintro z9 P ⟨hz, fP, hUV, hn, bl, tv⟩
  have cm : ∀ a₀ k₀, m₀ ≤ a₀ → a₀ < m₀ + 18 → gi P a₀ k₀ = gi M a₀ k₀ := fun a₀ k₀ h1 h2 => mm_f_gi fP a₀ k₀ (by unfold mh_tf; omega)
  have stP : mm_st P m₀ := mh_st_g st₀ fP.1 fP.2.1 (fun k₀ => fP.2.2.1 m₀ k₀)
  have eRT : ∀ Y, (∀ k₀, gi Y m₀ k₀ = gi M m₀ k₀) → (∀ k₀, gi Y (m₀ + 1) k₀ = gi M (m₀ + 1) k₀) → mm_RT Y m₀ tp lf₀ hg wd := fun Y y0 y1 => by
    intro k₀ k0₀ k1₀
    rw [y0] at k1₀
    exact mm_rect_f (y0 1) (y0 2) y1 (rt k₀ k0₀ k1₀)
  refine ⟨mh_far_f fP (fun a₀ k₀ w₀ => by unfold mh_tf at w₀; omega), ?_⟩
  have e0₀ : ∀ k₀, gi P m₀ k₀ = gi M m₀ k₀ := fun k₀ => cm m₀ k₀ (by omega) (by omega)
  have e1₀ : ∀ k₀, gi P (m₀ + 1) k₀ = gi M (m₀ + 1) k₀ := fun k₀ => cm (m₀ + 1) k₀ (by omega) (by omega)
  have e2₀ : ∀ k₀, gi P (m₀ + 2) k₀ = gi M (m₀ + 2) k₀ := fun k₀ => cm (m₀ + 2) k₀ (by omega) (by omega)
  have e3₀ : ∀ k₀, gi P (m₀ + 3) k₀ = gi M (m₀ + 3) k₀ := fun k₀ => cm (m₀ + 3) k₀ (by omega) (by omega)
  have e4₀ : ∀ k₀, gi P (m₀ + 4) k₀ = gi M (m₀ + 4) k₀ := fun k₀ => cm (m₀ + 4) k₀ (by omega) (by omega)
  have e5₀ : ∀ k₀, gi P (m₀ + 5) k₀ = gi M (m₀ + 5) k₀ := fun k₀ => cm (m₀ + 5) k₀ (by omega) (by omega)
  have eF : mi P (m₀ + 1) = mi M (m₀ + 1) := by funext p₀ q₀; exact e1₀ _
  have R := @cX6_copy D l hl P m₀ tp lf₀ hg wd (mh_sum (fun i₀ => mh_bi (mh_in M (gr M (t₀ + 3 + 1) i₀) (g₀ + 259))) (gi M (t₀ + 3) 0).toNat) stP (by unfold mm_rc; rw [e0₀, e0₀]; omega) (by rw [e0₀]; exact h4) (by unfold mm_si; simp only [e0₀]; exact si9) (eRT _ e0₀ e1₀) (by simp only [mm_ch, e0₀]; exact sm₀.1)
  rw [eF] at R
  simp only [e0₀, e2₀, e3₀] at R
  rw [s1₀, s2₀, s3₀, s4₀] at R
  refine mg_MtN R ?_
  rintro w₀ Q₀ ⟨e₀, fQ, ⟨n0₀, n25₀, n26₀, n27⟩, n13, n14₀⟩
  have f1₀ : ∀ a₀, kd Q₀ a₀ = kd M a₀ := fun a₀ => (fQ.1 a₀).trans (fP.1 a₀)
  have f2₀ : ∀ a₀, ln Q₀ a₀ = ln M a₀ := fun a₀ => (fQ.2.1 a₀).trans (fP.2.1 a₀)
  have f3₀ : ∀ a₀ k₀, gr Q₀ a₀ k₀ = gr M a₀ k₀ := fun a₀ k₀ => (fQ.2.2.1 a₀ k₀).trans (fP.2.2.1 a₀ k₀)
  have fk : ∀ a₀ k₀, (a₀ < m₀ ∨ m₀ + 18 ≤ a₀) → gi Q₀ a₀ k₀ = gi P a₀ k₀ := fun a₀ k₀ w₀ => (fQ.2.2.2.2.2.2 a₀ k₀).resolve_left (by omega)
  have hb9 : ∀ a₀, g₀ + 261 + 1 ≤ a₀ → a₀ < g₀ + 261 + 1 + 123 → kd Q₀ a₀ = kd P a₀ ∧ ln Q₀ a₀ = ln P a₀ ∧ (∀ k₀, gr Q₀ a₀ k₀ = gr P a₀ k₀) ∧ ∀ k₀, gi Q₀ a₀ k₀ = gi P a₀ k₀ := fun a₀ h1 h2 => ⟨fQ.1 a₀, fQ.2.1 a₀, fun k₀ => fQ.2.2.1 a₀ k₀, fun k₀ => fk a₀ k₀ (by omega)⟩
  have s9 : mh_sam3 M Q₀ g₀ m₀ := ⟨f1₀, f2₀, f3₀, fun a₀ k₀ h1 h2 h3 => ((fQ.2.2.2.2.2.2 a₀ k₀).resolve_left (by omega)).trans (mm_f_gi fP a₀ k₀ (by unfold mh_tf; omega))⟩
  obtain ⟨y1, y2, y3, y4⟩ := mh_bl_lo bl hb9
  have rA : ∀ p₀ q₀, mh_rg (gi M (g₀ + 259) 2 - gi M (g₀ + 259) 0 + 1) (gi M (g₀ + 259) 3 - gi M (g₀ + 259) 1 + 1) p₀ q₀ → mh_rg (gi M t₀ 0) (gi M t₀ 1) (gi M (g₀ + 259) 0 + p₀) (gi M (g₀ + 259) 1 + q₀) := fun p₀ q₀ a₀ => by omega
  have TV : ∀ i₀ : Nat, (i₀ : Int) < gi P (g₀ + 261 + 1) 0 → ∀ p₀ q₀, mh_cb P (g₀ + 261 + 1) i₀ p₀ q₀ → mh_rg (gi M (g₀ + 259) 2 - gi M (g₀ + 259) 0 + 1) (gi M (g₀ + 259) 3 - gi M (g₀ + 259) 1 + 1) p₀ q₀ ∧ mh_tv M P (g₀ + 259) (mh_co M t₀ (gi M (g₀ + 259) 0 + p₀) (gi M (g₀ + 259) 1 + q₀)) (gr P (g₀ + 261 + 1 + 1) i₀) := fun i₀ hi p₀ q₀ w₀ => by
    refine ⟨?_, tv i₀ hi p₀ q₀ w₀⟩
    have b₀ := bl.2.1 i₀ hi
    unfold mh_cb at w₀
    omega
  have PT₀ : ∀ i₀ : Nat, (i₀ : Int) < gi P (g₀ + 261 + 1) 0 → ∀ p₀ q₀ p' q', mh_cb P (g₀ + 261 + 1) i₀ p₀ q₀ → mh_rg (gi M (g₀ + 259) 2 - gi M (g₀ + 259) 0 + 1) (gi M (g₀ + 259) 3 - gi M (g₀ + 259) 1 + 1) p' q' → (mi M (m₀ + 1) (gi M (g₀ + 259) 0 + p') (gi M (g₀ + 259) 1 + q') = mi M (m₀ + 1) (gi M (g₀ + 259) 0 + p₀) (gi M (g₀ + 259) 1 + q₀) ↔ mh_cb P (g₀ + 261 + 1) i₀ p' q') := fun i₀ hi p₀ q₀ p' q' w₀ h' => by
    obtain ⟨h₀, v0₀, v1₀, v2, v3, _, _⟩ := TV i₀ hi p₀ q₀ w₀
    have x₀ := (rts (gi M (g₀ + 259) 0 + p₀) (gi M (g₀ + 259) 1 + q₀) (by have := rA p₀ q₀ h₀; omega)).2.2 (gi M (g₀ + 259) 0 + p') (gi M (g₀ + 259) 1 + q') (by have := rA p' q' h'; omega) (by have := rA p' q' h'; omega)
    refine x₀.trans ?_
    unfold mh_fT mh_cb
    constructor
    · intro z₀
      omega
    · intro z₀
      omega
  have bk9 : mh_bkt Q₀ g₀ m₀ := by
    refine Or.inr ⟨⟨?_, ?_, ?_⟩, ?_, ?_, fun p₀ q₀ h₀ => ?_, fun p₀ q₀ p' q' h₀ h' => ?_, fun i₀ hi p₀ q₀ w₀ => ?_⟩
    · rw [n25₀, fk _ _ (by omega)]; exact hUV.1
    · rw [n26₀, fk _ _ (by omega)]; exact hUV.2
    · rw [n27, fk _ _ (by omega), hn]; rfl
    · rw [n25₀, n26₀]; omega
    · rw [n25₀, n26₀]; exact y1
    · rw [n25₀, n26₀] at h₀
      rw [n13 p₀ q₀ h₀]
      exact hid₀ (gi M (g₀ + 259) 0 + p₀) (gi M (g₀ + 259) 1 + q₀) (by have := rA p₀ q₀ h₀; omega)
    · rw [n25₀, n26₀] at h₀ h'
      rw [n13 p₀ q₀ h₀, n13 p' q' h', fk _ _ (by omega)]
      constructor
      · intro z₀
        obtain ⟨i₀, hi, w₀⟩ := bl.2.2.2 p₀ q₀ h₀
        exact ⟨i₀, hi, (y4 i₀ hi p₀ q₀).2 w₀, (y4 i₀ hi p' q').2 ((PT₀ i₀ hi p₀ q₀ p' q' w₀ h').1 z₀.symm)⟩
      · rintro ⟨i₀, hi, w₀, w'⟩
        exact ((PT₀ i₀ hi p₀ q₀ p' q' ((y4 i₀ hi p₀ q₀).1 w₀) h').2 ((y4 i₀ hi p' q').1 w')).symm
    · rw [fk _ _ (by omega)] at hi
      have w2₀ := (y4 i₀ hi p₀ q₀).1 w₀
      obtain ⟨h₀, v0₀, v1₀, v2, v3, v4₀, v5⟩ := TV i₀ hi p₀ q₀ w2₀
      have a₀ := rA p₀ q₀ h₀
      have ir := hid₀ _ _ (show mh_rg (gi M m₀ 1) (gi M m₀ 2) (gi M (g₀ + 259) 0 + p₀) (gi M (g₀ + 259) 1 + q₀) by omega)
      have x₀ := n14₀ (mi M (m₀ + 1) (gi M (g₀ + 259) 0 + p₀) (gi M (g₀ + 259) 1 + q₀)).toNat (by omega)
      have y₀ : gi M (m₀ + 2) (mi M (m₀ + 1) (gi M (g₀ + 259) 0 + p₀) (gi M (g₀ + 259) 1 + q₀)).toNat = gi M (mh_co M t₀ (gi M (g₀ + 259) 0 + p₀) (gi M (g₀ + 259) 1 + q₀)) 4 ∧ gi M (m₀ + 3) (mi M (m₀ + 1) (gi M (g₀ + 259) 0 + p₀) (gi M (g₀ + 259) 1 + q₀)).toNat = gi M (mh_co M t₀ (gi M (g₀ + 259) 0 + p₀) (gi M (g₀ + 259) 1 + q₀)) 5 := sq.2.2.1 _ _ a₀
      have vr := mh_V_sq V9 tl nb a₀
      obtain ⟨d1₀, d2₀⟩ := y3 i₀ hi
      rw [n13 p₀ q₀ h₀, d1₀, d2₀, d2₀, x₀.1, x₀.2, v4₀, v5, y₀.1, y₀.2]
      exact ⟨rfl, rfl, vr⟩
  exact ⟨by rw [e₀, hz], n0₀, mh_far_f fQ (fun a₀ k₀ w₀ => by omega), t₀, u₀, mh_INV_cpy I₀ s9 y1.1 bk9⟩
def mh_fa (M Q₀ : mg_M) (g₀ : Nat) : Prop := (∀ a₀, kd Q₀ a₀ = kd M a₀) ∧ (∀ a₀, ln Q₀ a₀ = ln M a₀) ∧ ∀ a₀ k₀, a₀ < g₀ → gi Q₀ a₀ k₀ = gi M a₀ k₀
def mh_W (D : mg_D) (l : Launch) (yL ym : Nat) (as₀ : List mg_V) (M : mg_M) (g₀ m₀ o : Nat) : Prop := ∃ R : Int → mg_M → Prop, mg_Mt D l yL (.inr (.inl g₀) :: (as₀ ++ [.inr (.inl o)])) M (fun v₀ P => ∃ k₀, v₀ = some (.inl k₀) ∧ R k₀ P) mg_no ∧ ∀ k₀ P, R k₀ P → kd P m₀ = 7 ∧ mh_fa M P g₀ ∧ mg_Mt D l ym (.inr (.inl m₀) :: as₀) P (fun w₀ Q₀ => ∃ b₀, w₀ = some (.inl b₀) ∧ gi Q₀ m₀ 0 = k₀ ∧ (k₀ = 0 → gl Q₀ o 0 = b₀) ∧ mh_fa M Q₀ g₀ ∧ ∃ t₀ u₀, mh_INV Q₀ g₀ m₀ t₀ u₀) mg_no
theorem mh_W_N {D : mg_D} {l : Launch} {yL yc ym : Nat} {as₀ : List mg_V} {M : mg_M} {g₀ m₀ t₀ u₀ o : Nat} (n₀ : mh_opN D l yc ym as₀ M g₀ m₀) (I₀ : mh_INV M g₀ m₀ t₀ u₀) (ho : kd M o = 10 ∧ ln M o = 1) (w₀ : ∀ N : Int → mg_M → Prop, mg_Mt D l yc (.inr (.inl g₀) :: as₀) M (fun v₀ P => ∃ z₀, v₀ = some (.inl z₀) ∧ N z₀ P) mg_no → (∀ z₀ P, N z₀ P → kd P o = 10 ∧ ln P o = 1) → mg_Mt D l yL (.inr (.inl g₀) :: (as₀ ++ [.inr (.inl o)])) M (fun v₀ Q₀ => v₀ = some (.inl 0) ∧ ∃ z₀ P, N z₀ P ∧ Q₀ = sl P o 0 z₀) mg_no) : mh_W D l yL ym as₀ M g₀ m₀ o := by
  obtain ⟨N, c₀, h₀⟩ := n₀
  refine ⟨fun k₀ P => k₀ = 0 ∧ ∃ z₀ P0₀, N z₀ P0₀ ∧ P = sl P0₀ o 0 z₀, mg_MtN (w₀ N c₀ (fun z₀ P hz => ⟨((h₀ z₀ P hz).1.1 o).trans ho.1, ((h₀ z₀ P hz).1.2.1 o).trans ho.2⟩)) (fun v₀ P h₀ => ⟨0, h₀.1, rfl, h₀.2⟩), ?_⟩
  rintro k₀ P ⟨rfl, z₀, P0₀, hz, rfl⟩
  obtain ⟨far₀, mt₀⟩ := h₀ z₀ P0₀ hz
  refine ⟨(far₀.1 m₀).trans I₀.2.2.1.1.1, ⟨far₀.1, far₀.2.1, far₀.2.2.2.2⟩, mg_MtN (mt₀ o) ?_⟩
  rintro w₀ Q₀ ⟨e₀, q0, fq, inv₀⟩
  refine ⟨z₀, e₀, q0, fun _ => (fq.2.2.1 o 0).trans ?_, ⟨fun a₀ => (fq.1 a₀).trans (far₀.1 a₀), fun a₀ => (fq.2.1 a₀).trans (far₀.2.1 a₀), fun a₀ k₀ w₀ => (fq.2.2.2.2 a₀ k₀ w₀).trans (far₀.2.2.2.2 a₀ k₀ w₀)⟩, inv₀⟩
  show (if o = o ∧ (0 : Nat) = 0 then z₀ else _) = z₀
  rw [if_pos ⟨rfl, rfl⟩]
theorem mh_W_T {D : mg_D} {l : Launch} {yL yc ym : Nat} {as₀ : List mg_V} {M : mg_M} {g₀ m₀ t₀ u₀ o kind : Nat} {j₀ : Int} (n₀ : mh_opT D l yc ym as₀ M g₀ m₀ kind j₀) (hj : j₀ ≠ 0) (I₀ : mh_INV M g₀ m₀ t₀ u₀) (w₀ : ∀ R : mg_M → Prop, mg_Mt D l yc (.inr (.inl g₀) :: as₀) M mh_nN (fun k₀ P => k₀ = kind ∧ R P) → mg_Mt D l yL (.inr (.inl g₀) :: (as₀ ++ [.inr (.inl o)])) M (fun v₀ Q₀ => v₀ = some (.inl j₀) ∧ R Q₀) mg_no) : mh_W D l yL ym as₀ M g₀ m₀ o := by
  obtain ⟨c₀, h₀⟩ := n₀
  refine ⟨fun k₀ P => k₀ = j₀ ∧ mh_same M P g₀ m₀ ∧ mh_far M P g₀, mg_MtN (w₀ _ c₀) (fun v₀ P h₀ => ⟨j₀, h₀.1, rfl, h₀.2⟩), ?_⟩
  rintro k₀ P ⟨rfl, s₀, far₀⟩
  refine ⟨(s₀.1 m₀).trans I₀.2.2.1.1.1, ⟨far₀.1, far₀.2.1, far₀.2.2.2.2⟩, mg_MtN (h₀ P s₀) ?_⟩
  rintro w₀ Q₀ ⟨⟨z₀, e₀⟩, q0, fq, inv₀⟩
  exact ⟨z₀, e₀, q0, fun x₀ => absurd x₀ hj, ⟨fun a₀ => (fq.1 a₀).trans (far₀.1 a₀), fun a₀ => (fq.2.1 a₀).trans (far₀.2.1 a₀), fun a₀ k₀ w₀ => (fq.2.2.2.2 a₀ k₀ w₀).trans (far₀.2.2.2.2 a₀ k₀ w₀)⟩, inv₀⟩
theorem tw_insertRow {D : mg_D} {l : Launch} (hl : l.stackTraces = false) {M : mg_M} {g₀ m₀ t₀ u₀ : Nat} {o : Nat} {x₀ : Int} (I₀ : mh_INV M g₀ m₀ t₀ u₀) (ho : kd M o = 10 ∧ ln M o = 1) : mh_W D l 207 146 [.inl x₀] M g₀ m₀ o := by
  have kg : kd M g₀ = 6 := (mh_gF_of I₀.1).1.1
  by_cases h₀ : 0 ≤ x₀ ∧ x₀ ≤ gi M t₀ 0
  · by_cases h2 : gi M t₀ 0 < 12
    · exact mh_W_N (ti_insertRow0 hl I₀ h₀ h2) I₀ ho (fun N c₀ ho => wr_insertRow0 hl c₀ kg ho)
    · exact mh_W_T (ti_insertRow2 hl I₀ h₀ (by omega)) (by decide) I₀ (fun R c₀ => wr_insertRow2 hl c₀ kg)
  · exact mh_W_T (ti_insertRow1 hl I₀ h₀) (by decide) I₀ (fun R c₀ => wr_insertRow1 hl c₀ kg)
theorem tw_insertColumn {D : mg_D} {l : Launch} (hl : l.stackTraces = false) {M : mg_M} {g₀ m₀ t₀ u₀ : Nat} {o : Nat} {x₀ : Int} (I₀ : mh_INV M g₀ m₀ t₀ u₀) (ho : kd M o = 10 ∧ ln M o = 1) : mh_W D l 208 147 [.inl x₀] M g₀ m₀ o := by
  have kg : kd M g₀ = 6 := (mh_gF_of I₀.1).1.1
  by_cases h₀ : 0 ≤ x₀ ∧ x₀ ≤ gi M t₀ 1
  · by_cases h2 : gi M t₀ 1 < 10
    · exact mh_W_N (ti_insertColumn0 hl I₀ h₀ h2) I₀ ho (fun N c₀ ho => wr_insertColumn0 hl c₀ kg ho)
    · exact mh_W_T (ti_insertColumn2 hl I₀ h₀ (by omega)) (by decide) I₀ (fun R c₀ => wr_insertColumn2 hl c₀ kg)
  · exact mh_W_T (ti_insertColumn1 hl I₀ h₀) (by decide) I₀ (fun R c₀ => wr_insertColumn1 hl c₀ kg)
theorem tw_deleteRow {D : mg_D} {l : Launch} (hl : l.stackTraces = false) {M : mg_M} {g₀ m₀ t₀ u₀ : Nat} {o : Nat} {x₀ : Int} (I₀ : mh_INV M g₀ m₀ t₀ u₀) (ho : kd M o = 10 ∧ ln M o = 1) : mh_W D l 209 148 [.inl x₀] M g₀ m₀ o := by
  have kg : kd M g₀ = 6 := (mh_gF_of I₀.1).1.1
  by_cases h₀ : 0 ≤ x₀ ∧ x₀ < gi M t₀ 0
  · by_cases h2 : gi M t₀ 0 = 1
    · exact mh_W_T (ti_deleteRow2 hl I₀ h₀ h2) (by decide) I₀ (fun R c₀ => wr_deleteRow2 hl c₀ kg)
    · exact mh_W_N (ti_deleteRow0 hl I₀ h₀ h2) I₀ ho (fun N c₀ ho => wr_deleteRow0 hl c₀ kg ho)
  · exact mh_W_T (ti_deleteRow1 hl I₀ h₀) (by decide) I₀ (fun R c₀ => wr_deleteRow1 hl c₀ kg)
theorem tw_deleteColumn {D : mg_D} {l : Launch} (hl : l.stackTraces = false) {M : mg_M} {g₀ m₀ t₀ u₀ : Nat} {o : Nat} {x₀ : Int} (I₀ : mh_INV M g₀ m₀ t₀ u₀) (ho : kd M o = 10 ∧ ln M o = 1) : mh_W D l 210 149 [.inl x₀] M g₀ m₀ o := by
  have kg : kd M g₀ = 6 := (mh_gF_of I₀.1).1.1
  by_cases h₀ : 0 ≤ x₀ ∧ x₀ < gi M t₀ 1
  · by_cases h2 : gi M t₀ 1 = 1
    · exact mh_W_T (ti_deleteColumn2 hl I₀ h₀ h2) (by decide) I₀ (fun R c₀ => wr_deleteColumn2 hl c₀ kg)
    · exact mh_W_N (ti_deleteColumn0 hl I₀ h₀ h2) I₀ ho (fun N c₀ ho => wr_deleteColumn0 hl c₀ kg ho)
  · exact mh_W_T (ti_deleteColumn1 hl I₀ h₀) (by decide) I₀ (fun R c₀ => wr_deleteColumn1 hl c₀ kg)
theorem tw_moveRow {D : mg_D} {l : Launch} (hl : l.stackTraces = false) {M : mg_M} {g₀ m₀ t₀ u₀ : Nat} {o : Nat} {x₀ y₀ : Int} (I₀ : mh_INV M g₀ m₀ t₀ u₀) (ho : kd M o = 10 ∧ ln M o = 1) : mh_W D l 211 152 [.inl x₀, .inl y₀] M g₀ m₀ o := by
  have kg : kd M g₀ = 6 := (mh_gF_of I₀.1).1.1
  by_cases h₀ : (0 ≤ x₀ ∧ x₀ < gi M t₀ 0) ∧ (0 ≤ y₀ ∧ y₀ < gi M t₀ 0)
  · by_cases hn : x₀ = y₀
    · exact mh_W_T (ti_moveRow2 hl I₀ h₀.1 h₀.2 hn) (by decide) I₀ (fun R c₀ => wr_moveRow2 hl c₀ kg)
    · by_cases h3 : ¬ (x₀ < gi M t₀ 2 ↔ y₀ < gi M t₀ 2) ∨ ∃ i₀ : Nat, (i₀ : Int) < gi M (t₀ + 3) 0 ∧ 1 < gi M (gr M (t₀ + 3 + 1) i₀) 2 ∧ gi M (gr M (t₀ + 3 + 1) i₀) 0 ≤ max x₀ y₀ ∧ min x₀ y₀ ≤ gi M (gr M (t₀ + 3 + 1) i₀) 0 + gi M (gr M (t₀ + 3 + 1) i₀) 2 - 1
      · exact mh_W_T (ti_moveRow3 hl I₀ h₀.1 h₀.2 hn h3) (by decide) I₀ (fun R c₀ => wr_moveRow3 hl c₀ kg)
      · exact mh_W_N (ti_moveRow0 hl I₀ h₀.1 h₀.2 hn (Classical.byContradiction (fun w₀ => h3 (Or.inl w₀))) (fun w₀ => h3 (Or.inr w₀))) I₀ ho (fun N c₀ ho => wr_moveRow0 hl c₀ kg ho)
  · exact mh_W_T (ti_moveRow1 hl I₀ h₀) (by decide) I₀ (fun R c₀ => wr_moveRow1 hl c₀ kg)
theorem tw_topOf {D : mg_D} {l : Launch} (hl : l.stackTraces = false) {M : mg_M} {g₀ m₀ t₀ u₀ : Nat} {o : Nat} {r₀ c₀ : Int} (I₀ : mh_INV M g₀ m₀ t₀ u₀) (ho : kd M o = 10 ∧ ln M o = 1) : mh_W D l 212 158 [.inl r₀, .inl c₀] M g₀ m₀ o := by
  have kg : kd M g₀ = 6 := (mh_gF_of I₀.1).1.1
  by_cases h₀ : mh_rg (gi M t₀ 0) (gi M t₀ 1) r₀ c₀
  · exact mh_W_N (ti_topOf0 hl I₀ h₀) I₀ ho (fun N c₀ ho => wr_topOf0 hl c₀ kg ho)
  · exact mh_W_T (ti_topOf1 hl I₀ h₀) (by decide) I₀ (fun R c₀ => wr_topOf1 hl c₀ kg)
theorem tw_leftOf {D : mg_D} {l : Launch} (hl : l.stackTraces = false) {M : mg_M} {g₀ m₀ t₀ u₀ : Nat} {o : Nat} {r₀ c₀ : Int} (I₀ : mh_INV M g₀ m₀ t₀ u₀) (ho : kd M o = 10 ∧ ln M o = 1) : mh_W D l 213 159 [.inl r₀, .inl c₀] M g₀ m₀ o := by
  have kg : kd M g₀ = 6 := (mh_gF_of I₀.1).1.1
  by_cases h₀ : mh_rg (gi M t₀ 0) (gi M t₀ 1) r₀ c₀
  · exact mh_W_N (ti_leftOf0 hl I₀ h₀) I₀ ho (fun N c₀ ho => wr_leftOf0 hl c₀ kg ho)
  · exact mh_W_T (ti_leftOf1 hl I₀ h₀) (by decide) I₀ (fun R c₀ => wr_leftOf1 hl c₀ kg)
theorem tw_rowsOf {D : mg_D} {l : Launch} (hl : l.stackTraces = false) {M : mg_M} {g₀ m₀ t₀ u₀ : Nat} {o : Nat} {r₀ c₀ : Int} (I₀ : mh_INV M g₀ m₀ t₀ u₀) (ho : kd M o = 10 ∧ ln M o = 1) : mh_W D l 214 160 [.inl r₀, .inl c₀] M g₀ m₀ o := by
  have kg : kd M g₀ = 6 := (mh_gF_of I₀.1).1.1
  by_cases h₀ : mh_rg (gi M t₀ 0) (gi M t₀ 1) r₀ c₀
  · exact mh_W_N (ti_rowsOf0 hl I₀ h₀) I₀ ho (fun N c₀ ho => wr_rowsOf0 hl c₀ kg ho)
  · exact mh_W_T (ti_rowsOf1 hl I₀ h₀) (by decide) I₀ (fun R c₀ => wr_rowsOf1 hl c₀ kg)
theorem tw_columnsOf {D : mg_D} {l : Launch} (hl : l.stackTraces = false) {M : mg_M} {g₀ m₀ t₀ u₀ : Nat} {o : Nat} {r₀ c₀ : Int} (I₀ : mh_INV M g₀ m₀ t₀ u₀) (ho : kd M o = 10 ∧ ln M o = 1) : mh_W D l 215 161 [.inl r₀, .inl c₀] M g₀ m₀ o := by
  have kg : kd M g₀ = 6 := (mh_gF_of I₀.1).1.1
  by_cases h₀ : mh_rg (gi M t₀ 0) (gi M t₀ 1) r₀ c₀
  · exact mh_W_N (ti_columnsOf0 hl I₀ h₀) I₀ ho (fun N c₀ ho => wr_columnsOf0 hl c₀ kg ho)
  · exact mh_W_T (ti_columnsOf1 hl I₀ h₀) (by decide) I₀ (fun R c₀ => wr_columnsOf1 hl c₀ kg)
theorem tw_contentAt {D : mg_D} {l : Launch} (hl : l.stackTraces = false) {M : mg_M} {g₀ m₀ t₀ u₀ : Nat} {o : Nat} {r₀ c₀ : Int} (I₀ : mh_INV M g₀ m₀ t₀ u₀) (ho : kd M o = 10 ∧ ln M o = 1) : mh_W D l 216 162 [.inl r₀, .inl c₀] M g₀ m₀ o := by
  have kg : kd M g₀ = 6 := (mh_gF_of I₀.1).1.1
  by_cases h₀ : mh_rg (gi M t₀ 0) (gi M t₀ 1) r₀ c₀
  · exact mh_W_N (ti_contentAt0 hl I₀ h₀) I₀ ho (fun N c₀ ho => wr_contentAt0 hl c₀ kg ho)
  · exact mh_W_T (ti_contentAt1 hl I₀ h₀) (by decide) I₀ (fun R c₀ => wr_contentAt1 hl c₀ kg)
theorem tw_styleAt {D : mg_D} {l : Launch} (hl : l.stackTraces = false) {M : mg_M} {g₀ m₀ t₀ u₀ : Nat} {o : Nat} {r₀ c₀ : Int} (I₀ : mh_INV M g₀ m₀ t₀ u₀) (ho : kd M o = 10 ∧ ln M o = 1) : mh_W D l 217 163 [.inl r₀, .inl c₀] M g₀ m₀ o := by
  have kg : kd M g₀ = 6 := (mh_gF_of I₀.1).1.1
  by_cases h₀ : mh_rg (gi M t₀ 0) (gi M t₀ 1) r₀ c₀
  · exact mh_W_N (ti_styleAt0 hl I₀ h₀) I₀ ho (fun N c₀ ho => wr_styleAt0 hl c₀ kg ho)
  · exact mh_W_T (ti_styleAt1 hl I₀ h₀) (by decide) I₀ (fun R c₀ => wr_styleAt1 hl c₀ kg)
theorem tw_sizeOf {D : mg_D} {l : Launch} (hl : l.stackTraces = false) {M : mg_M} {g₀ m₀ t₀ u₀ : Nat} {o : Nat} {r₀ c₀ : Int} (I₀ : mh_INV M g₀ m₀ t₀ u₀) (ho : kd M o = 10 ∧ ln M o = 1) : mh_W D l 235 199 [.inl r₀, .inl c₀] M g₀ m₀ o := by
  have kg : kd M g₀ = 6 := (mh_gF_of I₀.1).1.1
  by_cases h₀ : mh_rg (gi M t₀ 0) (gi M t₀ 1) r₀ c₀
  · exact mh_W_N (ti_sizeOf0 hl I₀ h₀) I₀ ho (fun N c₀ ho => wr_sizeOf0 hl c₀ kg ho)
  · exact mh_W_T (ti_sizeOf1 hl I₀ h₀) (by decide) I₀ (fun R c₀ => wr_sizeOf1 hl c₀ kg)
theorem tw_setContent {D : mg_D} {l : Launch} (hl : l.stackTraces = false) {M : mg_M} {g₀ m₀ t₀ u₀ : Nat} {o : Nat} {r₀ c₀ x₀ : Int} (I₀ : mh_INV M g₀ m₀ t₀ u₀) (ho : kd M o = 10 ∧ ln M o = 1) : mh_W D l 218 164 [.inl r₀, .inl c₀, .inl x₀] M g₀ m₀ o := by
  have kg : kd M g₀ = 6 := (mh_gF_of I₀.1).1.1
  by_cases h₀ : mh_rg (gi M t₀ 0) (gi M t₀ 1) r₀ c₀
  · by_cases hx : 0 ≤ x₀ ∧ x₀ ≤ 999
    · exact mh_W_N (ti_setContent0 hl I₀ h₀ hx) I₀ ho (fun N c₀ ho => wr_setContent0 hl c₀ kg ho)
    · exact mh_W_T (ti_setContent2 hl I₀ h₀ hx) (by decide) I₀ (fun R c₀ => wr_setContent2 hl c₀ kg)
  · exact mh_W_T (ti_setContent1 hl I₀ h₀) (by decide) I₀ (fun R c₀ => wr_setContent1 hl c₀ kg)
theorem tw_setStyle {D : mg_D} {l : Launch} (hl : l.stackTraces = false) {M : mg_M} {g₀ m₀ t₀ u₀ : Nat} {o : Nat} {x₀ : Int} (I₀ : mh_INV M g₀ m₀ t₀ u₀) (ho : kd M o = 10 ∧ ln M o = 1) : mh_W D l 219 165 [.inl x₀] M g₀ m₀ o := by
  have kg : kd M g₀ = 6 := (mh_gF_of I₀.1).1.1
  by_cases hx : 0 ≤ x₀ ∧ x₀ ≤ 9
  · exact mh_W_N (ti_setStyle0 hl I₀ hx) I₀ ho (fun N c₀ ho => wr_setStyle0 hl c₀ kg ho)
  · exact mh_W_T (ti_setStyle1 hl I₀ hx) (by decide) I₀ (fun R c₀ => wr_setStyle1 hl c₀ kg)
theorem tw_select {D : mg_D} {l : Launch} (hl : l.stackTraces = false) {M : mg_M} {g₀ m₀ t₀ u₀ : Nat} {o : Nat} {r₀ c₀ r' c' : Int} (I₀ : mh_INV M g₀ m₀ t₀ u₀) (ho : kd M o = 10 ∧ ln M o = 1) : mh_W D l 220 167 [.inl r₀, .inl c₀, .inl r', .inl c'] M g₀ m₀ o := by
  have kg : kd M g₀ = 6 := (mh_gF_of I₀.1).1.1
  by_cases h₀ : mh_rg (gi M t₀ 0) (gi M t₀ 1) r₀ c₀ ∧ mh_rg (gi M t₀ 0) (gi M t₀ 1) r' c'
  · exact mh_W_N (ti_select0 hl I₀ h₀.1 h₀.2) I₀ ho (fun N c₀ ho => wr_select0 hl c₀ kg ho)
  · exact mh_W_T (ti_select1 hl I₀ h₀) (by decide) I₀ (fun R c₀ => wr_select1 hl c₀ kg)
theorem tw_squaresFor {D : mg_D} {l : Launch} (hl : l.stackTraces = false) {M : mg_M} {g₀ m₀ t₀ u₀ : Nat} {o : Nat} {r₀ c₀ r' c' : Int} (I₀ : mh_INV M g₀ m₀ t₀ u₀) (ho : kd M o = 10 ∧ ln M o = 1) : mh_W D l 222 171 [.inl r₀, .inl c₀, .inl r', .inl c'] M g₀ m₀ o := by
  have kg : kd M g₀ = 6 := (mh_gF_of I₀.1).1.1
  by_cases h₀ : mh_rg (gi M t₀ 0) (gi M t₀ 1) r₀ c₀ ∧ mh_rg (gi M t₀ 0) (gi M t₀ 1) r' c'
  · exact mh_W_N (ti_squaresFor0 hl I₀ h₀.1 h₀.2) I₀ ho (fun N c₀ ho => wr_squaresFor0 hl c₀ kg ho)
  · exact mh_W_T (ti_squaresFor1 hl I₀ h₀) (by decide) I₀ (fun R c₀ => wr_squaresFor1 hl c₀ kg)
theorem tw_selected {D : mg_D} {l : Launch} (hl : l.stackTraces = false) {M : mg_M} {g₀ m₀ t₀ u₀ : Nat} {o : Nat} {x₀ : Int} (I₀ : mh_INV M g₀ m₀ t₀ u₀) (ho : kd M o = 10 ∧ ln M o = 1) : mh_W D l 221 168 [.inl x₀] M g₀ m₀ o := by
  have kg : kd M g₀ = 6 := (mh_gF_of I₀.1).1.1
  by_cases h₀ : x₀ = 116 ∨ x₀ = 98 ∨ x₀ = 108 ∨ x₀ = 114
  · exact mh_W_N (ti_selected0 hl I₀ h₀) I₀ ho (fun N c₀ ho => wr_selected0 hl c₀ kg ho)
  · exact mh_W_T (ti_selected1 hl I₀ (by omega)) (by decide) I₀ (fun R c₀ => wr_selected1 hl c₀ kg)
theorem tw_merge {D : mg_D} {l : Launch} (hl : l.stackTraces = false) {M : mg_M} {g₀ m₀ t₀ u₀ : Nat} {o : Nat} (I₀ : mh_INV M g₀ m₀ t₀ u₀) (ho : kd M o = 10 ∧ ln M o = 1) : mh_W D l 223 174 [] M g₀ m₀ o := by
  have kg : kd M g₀ = 6 := (mh_gF_of I₀.1).1.1
  by_cases ha₀ : 1 < mh_sum (fun i₀ => mh_bi (mh_in M (gr M (t₀ + 3 + 1) i₀) (g₀ + 259))) (gi M (t₀ + 3) 0).toNat
  · by_cases h2 : 1 < mh_sum (fun i₀ => (if mh_bi (mh_in M (gr M (t₀ + 3 + 1) i₀) (g₀ + 259)) = 0 then (0 : Int) else if gi M (gr M (t₀ + 3 + 1) i₀) 4 = 0 then (0 : Int) else 1)) (gi M (t₀ + 3) 0).toNat ∨ ¬ (gi M (g₀ + 259) 0 < gi M t₀ 2 ↔ gi M (g₀ + 259) 2 < gi M t₀ 2)
    · exact mh_W_T (ti_merge2 hl I₀ ha₀ h2) (by decide) I₀ (fun R c₀ => wr_merge2 hl c₀ kg)
    · exact mh_W_N (ti_merge0 hl I₀ ha₀ (by omega) (Classical.byContradiction (fun w₀ => h2 (Or.inr w₀)))) I₀ ho (fun N c₀ ho => wr_merge0 hl c₀ kg ho)
  · exact mh_W_T (ti_merge1 hl I₀ (by omega)) (by decide) I₀ (fun R c₀ => wr_merge1 hl c₀ kg)
theorem tw_clear {D : mg_D} {l : Launch} (hl : l.stackTraces = false) {M : mg_M} {g₀ m₀ t₀ u₀ : Nat} {o : Nat} (I₀ : mh_INV M g₀ m₀ t₀ u₀) (ho : kd M o = 10 ∧ ln M o = 1) : mh_W D l 225 180 [] M g₀ m₀ o := by
  have kg : kd M g₀ = 6 := (mh_gF_of I₀.1).1.1
  by_cases h₀ : mh_sum (fun i₀ => (if mh_bi (mh_in M (gr M (t₀ + 3 + 1) i₀) (g₀ + 259)) = 0 then (0 : Int) else if gi M (gr M (t₀ + 3 + 1) i₀) 4 = 0 then (0 : Int) else 1)) (gi M (t₀ + 3) 0).toNat = 0
  · exact mh_W_T (ti_clear1 hl I₀ h₀) (by decide) I₀ (fun R c₀ => wr_clear1 hl c₀ kg)
  · exact mh_W_N (ti_clear0 hl I₀ h₀) I₀ ho (fun N c₀ ho => wr_clear0 hl c₀ kg ho)
theorem tw_setHeader {D : mg_D} {l : Launch} (hl : l.stackTraces = false) {M : mg_M} {g₀ m₀ t₀ u₀ : Nat} {o : Nat} {x₀ : Int} (I₀ : mh_INV M g₀ m₀ t₀ u₀) (ho : kd M o = 10 ∧ ln M o = 1) : mh_W D l 227 189 [.inl x₀] M g₀ m₀ o := by
  have kg : kd M g₀ = 6 := (mh_gF_of I₀.1).1.1
  by_cases h₀ : 0 ≤ x₀ ∧ x₀ ≤ gi M t₀ 0
  · by_cases hn : ∃ i₀ : Nat, (i₀ : Int) < gi M (t₀ + 3) 0 ∧ gi M (gr M (t₀ + 3 + 1) i₀) 0 < x₀ ∧ x₀ ≤ gi M (gr M (t₀ + 3 + 1) i₀) 0 + gi M (gr M (t₀ + 3 + 1) i₀) 2 - 1
    · exact mh_W_T (ti_setHeader2 hl I₀ h₀ hn) (by decide) I₀ (fun R c₀ => wr_setHeader2 hl c₀ kg)
    · exact mh_W_N (ti_setHeader0 hl I₀ h₀ hn) I₀ ho (fun N c₀ ho => wr_setHeader0 hl c₀ kg ho)
  · exact mh_W_T (ti_setHeader1 hl I₀ h₀) (by decide) I₀ (fun R c₀ => wr_setHeader1 hl c₀ kg)
theorem tw_sort {D : mg_D} {l : Launch} (hl : l.stackTraces = false) {M : mg_M} {g₀ m₀ t₀ u₀ : Nat} {o : Nat} {x₀ y₀ : Int} (I₀ : mh_INV M g₀ m₀ t₀ u₀) (ho : kd M o = 10 ∧ ln M o = 1) (hy : y₀ = 0 ∨ y₀ = 1) : mh_W D l 228 191 [.inl x₀, .inl y₀] M g₀ m₀ o := by
  have kg : kd M g₀ = 6 := (mh_gF_of I₀.1).1.1
  by_cases h₀ : 0 ≤ x₀ ∧ x₀ < gi M t₀ 1
  · by_cases hn : ∃ i₀ : Nat, (i₀ : Int) < gi M (t₀ + 3) 0 ∧ 1 < gi M (gr M (t₀ + 3 + 1) i₀) 2 ∧ gi M (gr M (t₀ + 3 + 1) i₀) 0 ≤ gi M t₀ 0 - 1 ∧ gi M t₀ 2 ≤ gi M (gr M (t₀ + 3 + 1) i₀) 0 + gi M (gr M (t₀ + 3 + 1) i₀) 2 - 1
    · exact mh_W_T (ti_sort2 hl I₀ h₀ hn) (by decide) I₀ (fun R c₀ => wr_sort2 hl c₀ kg)
    · exact mh_W_N (ti_sort0 hl I₀ h₀ hy hn) I₀ ho (fun N c₀ ho => wr_sort0 hl c₀ kg ho)
  · exact mh_W_T (ti_sort1 hl I₀ h₀) (by decide) I₀ (fun R c₀ => wr_sort1 hl c₀ kg)
theorem tw_widthOf {D : mg_D} {l : Launch} (hl : l.stackTraces = false) {M : mg_M} {g₀ m₀ t₀ u₀ : Nat} {o : Nat} {c₀ : Int} (I₀ : mh_INV M g₀ m₀ t₀ u₀) (ho : kd M o = 10 ∧ ln M o = 1) : mh_W D l 229 193 [.inl c₀] M g₀ m₀ o := by
  have kg : kd M g₀ = 6 := (mh_gF_of I₀.1).1.1
  by_cases h₀ : 0 ≤ c₀ ∧ c₀ < gi M t₀ 1
  · exact mh_W_N (ti_widthOf0 hl I₀ h₀) I₀ ho (fun N c₀ ho => wr_widthOf0 hl c₀ kg ho)
  · exact mh_W_T (ti_widthOf1 hl I₀ h₀) (by decide) I₀ (fun R c₀ => wr_widthOf1 hl c₀ kg)
theorem tw_heightOf {D : mg_D} {l : Launch} (hl : l.stackTraces = false) {M : mg_M} {g₀ m₀ t₀ u₀ : Nat} {o : Nat} {c₀ : Int} (I₀ : mh_INV M g₀ m₀ t₀ u₀) (ho : kd M o = 10 ∧ ln M o = 1) : mh_W D l 230 194 [.inl c₀] M g₀ m₀ o := by
  have kg : kd M g₀ = 6 := (mh_gF_of I₀.1).1.1
  by_cases h₀ : 0 ≤ c₀ ∧ c₀ < gi M t₀ 0
  · exact mh_W_N (ti_heightOf0 hl I₀ h₀) I₀ ho (fun N c₀ ho => wr_heightOf0 hl c₀ kg ho)
  · exact mh_W_T (ti_heightOf1 hl I₀ h₀) (by decide) I₀ (fun R c₀ => wr_heightOf1 hl c₀ kg)
theorem tw_setWidth {D : mg_D} {l : Launch} (hl : l.stackTraces = false) {M : mg_M} {g₀ m₀ t₀ u₀ : Nat} {o : Nat} {c₀ x₀ : Int} (I₀ : mh_INV M g₀ m₀ t₀ u₀) (ho : kd M o = 10 ∧ ln M o = 1) : mh_W D l 231 195 [.inl c₀, .inl x₀] M g₀ m₀ o := by
  have kg : kd M g₀ = 6 := (mh_gF_of I₀.1).1.1
  by_cases h₀ : 0 ≤ c₀ ∧ c₀ < gi M t₀ 1
  · by_cases hx : 10 ≤ x₀ ∧ x₀ ≤ 200
    · exact mh_W_N (ti_setWidth0 hl I₀ h₀ hx) I₀ ho (fun N c₀ ho => wr_setWidth0 hl c₀ kg ho)
    · exact mh_W_T (ti_setWidth2 hl I₀ h₀ hx) (by decide) I₀ (fun R c₀ => wr_setWidth2 hl c₀ kg)
  · exact mh_W_T (ti_setWidth1 hl I₀ h₀) (by decide) I₀ (fun R c₀ => wr_setWidth1 hl c₀ kg)
theorem tw_setHeight {D : mg_D} {l : Launch} (hl : l.stackTraces = false) {M : mg_M} {g₀ m₀ t₀ u₀ : Nat} {o : Nat} {c₀ x₀ : Int} (I₀ : mh_INV M g₀ m₀ t₀ u₀) (ho : kd M o = 10 ∧ ln M o = 1) : mh_W D l 232 196 [.inl c₀, .inl x₀] M g₀ m₀ o := by
  have kg : kd M g₀ = 6 := (mh_gF_of I₀.1).1.1
  by_cases h₀ : 0 ≤ c₀ ∧ c₀ < gi M t₀ 0
  · by_cases hx : 5 ≤ x₀ ∧ x₀ ≤ 100
    · exact mh_W_N (ti_setHeight0 hl I₀ h₀ hx) I₀ ho (fun N c₀ ho => wr_setHeight0 hl c₀ kg ho)
    · exact mh_W_T (ti_setHeight2 hl I₀ h₀ hx) (by decide) I₀ (fun R c₀ => wr_setHeight2 hl c₀ kg)
  · exact mh_W_T (ti_setHeight1 hl I₀ h₀) (by decide) I₀ (fun R c₀ => wr_setHeight1 hl c₀ kg)
theorem tw_drag {D : mg_D} {l : Launch} (hl : l.stackTraces = false) {M : mg_M} {g₀ m₀ t₀ u₀ : Nat} {o : Nat} {c₀ x₀ : Int} (I₀ : mh_INV M g₀ m₀ t₀ u₀) (ho : kd M o = 10 ∧ ln M o = 1) (xb : -2147483648 ≤ x₀ ∧ x₀ < 2147483648) : mh_W D l 233 197 [.inl c₀, .inl x₀] M g₀ m₀ o := by
  have kg : kd M g₀ = 6 := (mh_gF_of I₀.1).1.1
  by_cases h₀ : 0 ≤ c₀ ∧ c₀ + 1 < gi M t₀ 1
  · by_cases h2 : (10 ≤ gi M (t₀ + 2) c₀.toNat + x₀ ∧ gi M (t₀ + 2) c₀.toNat + x₀ ≤ 200) ∧ (10 ≤ gi M (t₀ + 2) (c₀ + 1).toNat - x₀ ∧ gi M (t₀ + 2) (c₀ + 1).toNat - x₀ ≤ 200)
    · exact mh_W_N (ti_drag0 hl I₀ h₀ h2) I₀ ho (fun N c₀ ho => wr_drag0 hl c₀ kg ho)
    · exact mh_W_T (ti_drag2 hl I₀ h₀ xb h2) (by decide) I₀ (fun R c₀ => wr_drag2 hl c₀ kg)
  · exact mh_W_T (ti_drag1 hl I₀ h₀) (by decide) I₀ (fun R c₀ => wr_drag1 hl c₀ kg)
theorem tw_even {D : mg_D} {l : Launch} (hl : l.stackTraces = false) {M : mg_M} {g₀ m₀ t₀ u₀ : Nat} {o : Nat} {c₀ x₀ : Int} (I₀ : mh_INV M g₀ m₀ t₀ u₀) (ho : kd M o = 10 ∧ ln M o = 1) : mh_W D l 234 198 [.inl c₀, .inl x₀] M g₀ m₀ o := by
  have kg : kd M g₀ = 6 := (mh_gF_of I₀.1).1.1
  by_cases h₀ : (0 ≤ c₀ ∧ c₀ < gi M t₀ 1) ∧ (0 ≤ x₀ ∧ x₀ < gi M t₀ 1)
  · by_cases h2 : x₀ ≤ c₀
    · exact mh_W_T (ti_even2 hl I₀ h₀ h2) (by decide) I₀ (fun R c₀ => wr_even2 hl c₀ kg)
    · exact mh_W_N (ti_even0 hl I₀ (by omega)) I₀ ho (fun N c₀ ho => wr_even0 hl c₀ kg ho)
  · exact mh_W_T (ti_even1 hl I₀ h₀) (by decide) I₀ (fun R c₀ => wr_even1 hl c₀ kg)
theorem tw_cellAt {D : mg_D} {l : Launch} (hl : l.stackTraces = false) {M : mg_M} {g₀ m₀ t₀ u₀ : Nat} {o : Nat} {x₀ y₀ : Int} (I₀ : mh_INV M g₀ m₀ t₀ u₀) (ho : kd M o = 10 ∧ ln M o = 1) : mh_W D l 236 200 [.inl x₀, .inl y₀] M g₀ m₀ o := by
  have kg : kd M g₀ = 6 := (mh_gF_of I₀.1).1.1
  obtain ⟨c₀, hc₀⟩ := mh_line_ex M (t₀ + 2) (gi M t₀ 1) x₀
  obtain ⟨r₀, hr⟩ := mh_line_ex M (t₀ + 1) (gi M t₀ 0) y₀
  by_cases h₀ : c₀ = -1 ∨ r₀ = -1
  · exact mh_W_T (ti_cellAt1 hl I₀ hc₀ hr h₀) (by decide) I₀ (fun R c₀ => wr_cellAt1 hl c₀ kg)
  · exact mh_W_N (ti_cellAt0 hl I₀ hc₀ hr (by omega)) I₀ ho (fun N c₀ ho => wr_cellAt0 hl c₀ kg ho)
theorem tw_split {D : mg_D} {l : Launch} (hl : l.stackTraces = false) {M : mg_M} {g₀ m₀ t₀ u₀ : Nat} {o : Nat} {r₀ c₀ k₀ : Int} (I₀ : mh_INV M g₀ m₀ t₀ u₀) (ho : kd M o = 10 ∧ ln M o = 1) : mh_W D l 224 175 [.inl r₀, .inl c₀, .inl k₀] M g₀ m₀ o := by
  have kg : kd M g₀ = 6 := (mh_gF_of I₀.1).1.1
  by_cases h₀ : mh_rg (gi M t₀ 0) (gi M t₀ 1) r₀ c₀
  · by_cases hk : k₀ = 115 ∨ k₀ = 114 ∨ k₀ = 99
    · rcases hk with rfl | rfl | rfl
      · by_cases h3 : gi M (mh_co M t₀ r₀ c₀) 2 * gi M (mh_co M t₀ r₀ c₀) 3 = 1
        · exact mh_W_T (ti_split3 hl I₀ h₀ (by omega) h3) (by decide) I₀ (fun R c₀ => wr_split3 hl c₀ kg)
        · exact mh_W_N (ti_split0_115 hl I₀ h₀ h3) I₀ ho (fun N c₀ ho => wr_split0 hl c₀ kg ho)
      · by_cases h3 : gi M (mh_co M t₀ r₀ c₀) 2 * 1 = 1
        · exact mh_W_T (ti_split3 hl I₀ h₀ (by omega) h3) (by decide) I₀ (fun R c₀ => wr_split3 hl c₀ kg)
        · exact mh_W_N (ti_split0_114 hl I₀ h₀ h3) I₀ ho (fun N c₀ ho => wr_split0 hl c₀ kg ho)
      · by_cases h3 : 1 * gi M (mh_co M t₀ r₀ c₀) 3 = 1
        · exact mh_W_T (ti_split3 hl I₀ h₀ (by omega) h3) (by decide) I₀ (fun R c₀ => wr_split3 hl c₀ kg)
        · exact mh_W_N (ti_split0_99 hl I₀ h₀ h3) I₀ ho (fun N c₀ ho => wr_split0 hl c₀ kg ho)
    · exact mh_W_T (ti_split2 hl I₀ h₀ (by omega)) (by decide) I₀ (fun R c₀ => wr_split2 hl c₀ kg)
  · exact mh_W_T (ti_split1 hl I₀ h₀) (by decide) I₀ (fun R c₀ => wr_split1 hl c₀ kg)
theorem tw_paste {D : mg_D} {l : Launch} (hl : l.stackTraces = false) {M : mg_M} {g₀ m₀ t₀ u₀ : Nat} {o : Nat} {r₀ c₀ x₀ y₀ : Int} (I₀ : mh_INV M g₀ m₀ t₀ u₀) (ho : kd M o = 10 ∧ ln M o = 1) : mh_W D l 226 184 [.inl r₀, .inl c₀, .inl x₀, .inl y₀] M g₀ m₀ o := by
  have kg : kd M g₀ = 6 := (mh_gF_of I₀.1).1.1
  by_cases h₀ : mh_rg (gi M t₀ 0) (gi M t₀ 1) r₀ c₀
  · by_cases hx : (1 ≤ x₀ ∧ x₀ ≤ 4) ∧ (1 ≤ y₀ ∧ y₀ ≤ 4)
    · rcases I₀.2.2.2.2.2.2.2.2 with b₀ | b₀
      · exact mh_W_T (ti_paste3 hl I₀ h₀ hx b₀.1) (by decide) I₀ (fun R c₀ => wr_paste3 hl c₀ kg)
      · have hU : gi M (g₀ + 261) 0 = gi M m₀ 25 ∧ gi M (g₀ + 261) 1 = gi M m₀ 26 ∧ 1 ≤ gi M m₀ 25 ∧ 1 ≤ gi M m₀ 26 := ⟨b₀.1.1, b₀.1.2.1, b₀.2.1.1.1, b₀.2.1.2.1⟩
        by_cases hf : r₀ + x₀ * gi M m₀ 25 ≤ gi M t₀ 0 ∧ c₀ + y₀ * gi M m₀ 26 ≤ gi M t₀ 1
        · by_cases hbad : ¬ mh_cc M t₀ r₀ (r₀ + x₀ * gi M m₀ 25 - 1) c₀ (c₀ + y₀ * gi M m₀ 26 - 1) ∨ ∃ i₀ : Int, (0 ≤ i₀ ∧ i₀ < x₀) ∧ ∃ j₀ : Nat, (j₀ : Int) < gi M (g₀ + 261 + 1) 0 ∧ gi M (gr M (g₀ + 261 + 1 + 1) j₀) 0 < gi M t₀ 2 - r₀ - i₀ * gi M m₀ 25 ∧ gi M t₀ 2 - r₀ - i₀ * gi M m₀ 25 ≤ gi M (gr M (g₀ + 261 + 1 + 1) j₀) 0 + gi M (gr M (g₀ + 261 + 1 + 1) j₀) 2 - 1
          · exact mh_W_T (ti_paste4 hl I₀ h₀ hx hU hf hbad) (by decide) I₀ (fun R c₀ => wr_paste4 hl c₀ kg)
          · exact mh_W_N (ti_paste0 hl I₀ h₀ hx hU hf (Classical.byContradiction (fun w₀ => hbad (Or.inl w₀))) (fun w₀ => hbad (Or.inr w₀))) I₀ ho (fun N c₀ ho => wr_paste0 hl c₀ kg ho)
        · exact mh_W_T (ti_paste3b hl I₀ h₀ hx hU hf) (by decide) I₀ (fun R c₀ => wr_paste3 hl c₀ kg)
    · exact mh_W_T (ti_paste2 hl I₀ h₀ hx) (by decide) I₀ (fun R c₀ => wr_paste2 hl c₀ kg)
  · exact mh_W_T (ti_paste1 hl I₀ h₀) (by decide) I₀ (fun R c₀ => wr_paste1 hl c₀ kg)
