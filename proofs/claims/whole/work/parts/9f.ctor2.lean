theorem mh_cL_lo {Z₀ N : mg_M} {c₀ : Nat} (h₀ : mg_cL Z₀ c₀) (e₀ : ∀ a₀, c₀ ≤ a₀ → a₀ < c₀ + 123 → kd N a₀ = kd Z₀ a₀ ∧ ln N a₀ = ln Z₀ a₀ ∧ (∀ k₀, gr N a₀ k₀ = gr Z₀ a₀ k₀) ∧ ∀ k₀, gi N a₀ k₀ = gi Z₀ a₀ k₀) : mg_cL N c₀ := by
  obtain ⟨h1, h2, h3, h4, h5, h6, h7, h8, h9⟩ := h₀
  have e0₀ := e₀ c₀ (by omega) (by omega)
  have e1₀ := e₀ (c₀ + 1) (by omega) (by omega)
  have e2₀ := e₀ (c₀ + 2) (by omega) (by omega)
  refine ⟨by rw [e0₀.1]; exact h1, by rw [e0₀.2.2.1]; exact h2, by rw [e0₀.2.2.1]; exact h3, by rw [e1₀.1]; exact h4, by rw [e1₀.2.1]; exact h5, by rw [e2₀.1]; exact h6, by rw [e0₀.2.2.2]; exact h7, fun i₀ hi => ?_, fun i₀ j₀ hi hj => ?_⟩
  · have g₀ := h8 i₀ hi
    rw [e1₀.2.2.1, (e₀ (gr Z₀ (c₀ + 1) i₀) (by omega) (by omega)).1]
    exact g₀
  · rw [e1₀.2.2.1, e1₀.2.2.1]
    exact h9 i₀ j₀ hi hj
/-- a₀ table₀ under₀ construction: the arrays₀ of A₀ (field₀, place₀, length₀) stand, and the list of cells₀, if q₀ -/
def mh_tp (M Z₀ : mg_M) (t₀ n₀ : Nat) (A₀ : List (Nat × Nat × Nat)) (q₀ : Bool) : Prop := (nx Z₀ = t₀ + n₀ ∧ 1 ≤ n₀ ∧ kd Z₀ t₀ = 5 ∧ mm_lo M Z₀ t₀) ∧ (∀ k₀, gi Z₀ t₀ k₀ = if k₀ < 2 then 4 else 0) ∧ (∀ e₀ ∈ A₀, gr Z₀ t₀ e₀.1 = t₀ + e₀.2.1 ∧ 1 ≤ e₀.2.1 ∧ e₀.2.1 < n₀ ∧ kd Z₀ (t₀ + e₀.2.1) = 8 ∧ ln Z₀ (t₀ + e₀.2.1) = e₀.2.2) ∧ (q₀ = true → 126 ≤ n₀ ∧ gr Z₀ t₀ 5 = t₀ + 3 ∧ mg_cL Z₀ (t₀ + 3) ∧ gi Z₀ (t₀ + 3) 0 = 0)
theorem mh_tp1 {M Z₀ : mg_M} {t₀ n₀ m₀ s₀ : Nat} {A₀ : List (Nat × Nat × Nat)} {q₀ : Bool} (h₀ : mh_tp M Z₀ t₀ n₀ A₀ q₀) (hs : s₀ ≠ 5) (hA : ∀ e₀ ∈ A₀, e₀.1 ≠ s₀) : mh_tp M (sr (al Z₀ 8 m₀) t₀ s₀ (nx Z₀)) t₀ (n₀ + 1) ((s₀, n₀, m₀) :: A₀) q₀ := by
  obtain ⟨⟨h1, h0, h2, h3⟩, h4, h5, h6⟩ := h₀
  have lo := @mm_lo_al Z₀ 8 m₀
  refine ⟨⟨?_, by omega, ?_, ?_⟩, fun k₀ => ?_, fun e₀ he => ?_, fun hq => ?_⟩
  · rw [nx_sr, nx_al]; omega
  · rw [kd_sr, kd_al, if_neg (by omega)]; exact h2
  · exact mm_lo_sr (mm_lo_tr h3 (mm_lo_le lo (by omega))) (by omega)
  · rw [gi_sr, gi_al, if_neg (by omega)]; exact h4 k₀
  · rcases List.mem_cons.1 he with x₀ | x₀
    · rw [x₀]
      show gr _ t₀ s₀ = t₀ + n₀ ∧ 1 ≤ n₀ ∧ n₀ < n₀ + 1 ∧ kd _ (t₀ + n₀) = 8 ∧ ln _ (t₀ + n₀) = m₀
      refine ⟨?_, h0, by omega, ?_, ?_⟩
      · rw [gr_sr, if_pos ⟨rfl, rfl⟩]; exact h1
      · rw [kd_sr, kd_al, if_pos h1.symm]
      · rw [ln_sr, ln_al, if_pos h1.symm]
    · have g₀ := h5 e₀ x₀
      have ne₀ := hA e₀ x₀
      refine ⟨?_, g₀.2.1, by omega, ?_, ?_⟩
      · rw [gr_sr, if_neg (fun w₀ => ne₀ w₀.2), gr_al, if_neg (by omega)]; exact g₀.1
      · rw [kd_sr, kd_al, if_neg (by omega)]; exact g₀.2.2.2.1
      · rw [ln_sr, ln_al, if_neg (by omega)]; exact g₀.2.2.2.2
  · have g₀ := h6 hq
    refine ⟨by omega, ?_, mh_cL_lo g₀.2.2.1 (fun a₀ h1 h2 => ?_), ?_⟩
    · rw [gr_sr, if_neg (fun w₀ => hs w₀.2.symm), gr_al, if_neg (by omega)]; exact g₀.2.1
    · have w₀ := lo a₀ (by omega)
      refine ⟨w₀.1, w₀.2.1, fun k₀ => ?_, w₀.2.2.2.1⟩
      rw [gr_sr, if_neg (by omega)]
      exact w₀.2.2.1 k₀
    · rw [gi_sr, gi_al, if_neg (by omega)]; exact g₀.2.2.2
theorem mh_tpL {M Z₀ X₀ : mg_M} {t₀ : Nat} {A₀ : List (Nat × Nat × Nat)} (h₀ : mh_tp M Z₀ t₀ 3 A₀ false) (hA : ∀ e₀ ∈ A₀, e₀.1 ≠ 5) (li : mh_li (al Z₀ 4 0) X₀ (t₀ + 3) 120) : mh_tp M (sr X₀ t₀ 5 (t₀ + 3)) t₀ 126 A₀ true := by
  obtain ⟨⟨h1, h0, h2, h3⟩, h4, h5, h6⟩ := h₀
  have cl₀ := mh_li_cL li
  obtain ⟨⟨l1, l2⟩, l3, l4, l5⟩ := li
  have lo : mm_lo Z₀ X₀ (t₀ + 3) := mm_lo_tr (mm_lo_le mm_lo_al (by omega)) l2
  refine ⟨⟨?_, by omega, ?_, ?_⟩, fun k₀ => ?_, fun e₀ he => ?_, fun _ => ⟨by omega, ?_, mh_cL_lo cl₀ (fun a₀ h1 h2 => ⟨rfl, rfl, fun k₀ => ?_, fun k₀ => rfl⟩), ?_⟩⟩
  · rw [nx_sr]; omega
  · rw [kd_sr, (lo t₀ (by omega)).1]; exact h2
  · exact mm_lo_sr (mm_lo_tr h3 (mm_lo_le lo (by omega))) (by omega)
  · rw [gi_sr, (lo t₀ (by omega)).2.2.2.1]; exact h4 k₀
  · have g₀ := h5 e₀ he
    have ne₀ := hA e₀ he
    have w₀ := lo t₀ (by omega)
    have w2₀ := lo (t₀ + e₀.2.1) (by omega)
    refine ⟨?_, g₀.2.1, by omega, ?_, ?_⟩
    · rw [gr_sr, if_neg (fun w₀ => ne₀ w₀.2), w₀.2.2.1]; exact g₀.1
    · rw [kd_sr, w2₀.1]; exact g₀.2.2.2.1
    · rw [ln_sr, w2₀.2.1]; exact g₀.2.2.2.2
  · rw [gr_sr, if_pos ⟨rfl, rfl⟩]
  · rw [gr_sr, if_neg (by omega)]
  · rw [gi_sr]; exact l4 0
/-- a₀ new₀ table₀ -/
def mh_T0 (M N : mg_M) (t₀ : Nat) : Prop := (nx N = t₀ + 129 ∧ mm_lo M N t₀) ∧ (mh_tl N t₀ ∧ mh_nb N t₀) ∧ (gi N t₀ 0 = 4 ∧ gi N t₀ 1 = 4 ∧ gi N t₀ 2 = 0) ∧ (∀ p₀ q₀, mh_rg 4 4 p₀ q₀ → (gi N (mh_co N t₀ p₀ q₀) 0 = p₀ ∧ gi N (mh_co N t₀ p₀ q₀) 1 = q₀ ∧ gi N (mh_co N t₀ p₀ q₀) 2 = 1 ∧ gi N (mh_co N t₀ p₀ q₀) 3 = 1) ∧ gi N (mh_co N t₀ p₀ q₀) 4 = 0 ∧ gi N (mh_co N t₀ p₀ q₀) 5 = 0) ∧ (∀ k₀ : Int, 0 ≤ k₀ → k₀ < 4 → gi N (t₀ + 2) k₀.toNat = 50) ∧ ∀ k₀ : Int, 0 ≤ k₀ → k₀ < 4 → gi N (t₀ + 1) k₀.toNat = 20
theorem mh_fi_f {a₀ n₀ : Nat} {v₀ : Int} {M : mg_M} {S : Nat → Nat → Prop} (s₀ : ∀ k₀, S a₀ k₀) : mm_f S M (mh_fi a₀ v₀ M n₀) := mm_f_fx mh_fi_fx s₀
theorem mh_T0_of {D : mg_D} {l : Launch} (hl : l.stackTraces = false) {M Z₀ Y : mg_M} {t₀ : Nat} {A₀ : List (Nat × Nat × Nat)} (h₀ : mh_tp M Z₀ t₀ 129 A₀ true) (hA : A₀ = [(8, 128, 12), (7, 127, 12), (6, 126, 120), (4, 2, 10), (3, 1, 12)]) (hY : Y = mh_fi (t₀ + 2) 50 (mh_fi (t₀ + 1) 20 Z₀ 12) 10) : mg_Mt D l 46 [.inr (.inl t₀)] Y (fun v₀ N => v₀ = none ∧ mh_T0 M N t₀) mg_no := by
  obtain ⟨⟨h1, h0, h2, h3⟩, h4, h5, h6⟩ := h₀
  have g₀ := h6 rfl
  rw [hA] at h5
  have a8 := h5 (8, 128, 12) (by simp)
  have a7 := h5 (7, 127, 12) (by simp)
  have a6 := h5 (6, 126, 120) (by simp)
  have a4 := h5 (4, 2, 10) (by simp)
  have a3 := h5 (3, 1, 12) (by simp)
  have f₀ : mm_f (fun a₀ _ => a₀ = t₀ + 1 ∨ a₀ = t₀ + 2) Z₀ Y := by rw [hY]; exact mm_f_tr (mh_fi_f (fun _ => Or.inl rfl)) (mh_fi_f (fun _ => Or.inr rfl))
  have v1₀ : ∀ k₀ : Nat, k₀ < 12 → gi Y (t₀ + 1) k₀ = 20 := by
    intro k₀ hk
    rw [hY, mh_fi_fx.2.2.2.2.2.2 (t₀ + 1) k₀ (by omega), mh_fi_at, if_pos hk]
  have v2 : ∀ k₀ : Nat, k₀ < 10 → gi Y (t₀ + 2) k₀ = 50 := by
    intro k₀ hk
    rw [hY, mh_fi_at, if_pos hk]
  have tY : ∀ k₀, gi Y t₀ k₀ = if k₀ < 2 then 4 else 0 := fun k₀ => (mm_f_gi f₀ t₀ k₀ (by omega)).trans (h4 k₀)
  have sz₀ : gi Y (t₀ + 3) 0 = (0 : Nat) := (mm_f_gi f₀ (t₀ + 3) 0 (by omega)).trans g₀.2.2.2
  have clY : mg_cL Y (t₀ + 3) := mh_fr_cL g₀.2.2.1 f₀.1 f₀.2.1 f₀.2.2.1 (mm_f_gi f₀ (t₀ + 3) 0 (by omega))
  have y0 : gi Y t₀ 0 = 4 := by rw [tY, if_pos (by omega)]
  have y1 : gi Y t₀ 1 = 4 := by rw [tY, if_pos (by omega)]
  have y2 : gi Y t₀ 2 = 0 := by rw [tY, if_neg (by omega)]
  have tb₀ : mg_tb Y t₀ := by
    have kk := f₀.1
    have ll := f₀.2.1
    have rr := f₀.2.2.1
    unfold mg_tb
    simp only [kk, ll, rr]
    exact ⟨⟨h2, a3.1, a4.1, g₀.2.1, a6.1, a7.1, a8.1⟩, ⟨⟨a3.2.2.2.1, a3.2.2.2.2⟩, ⟨a4.2.2.2.1, a4.2.2.2.2⟩, ⟨a6.2.2.2.1, a6.2.2.2.2⟩, ⟨a7.2.2.2.1, a7.2.2.2.2⟩, a8.2.2.2.1, a8.2.2.2.2⟩, by omega⟩
  refine mg_MtN (cX4_settleS (M := Y) (n0₀ := 0) (T := fun p₀ _ => p₀) (L₀ := fun _ q₀ => q₀) (H₀ := fun _ _ => 1) (W₀ := fun _ _ => 1) (cn := fun _ _ => 0) (sy := fun _ _ => 0) (wd := fun _ => 50) (ht := fun _ => 20) hl (mh_fw_of (mm_f_rfl (S := fun _ _ => False)) (fun _ _ w₀ => w₀.elim)) tb₀ clY sz₀ ⟨y0, y1, y2⟩ (fun i₀ hi => absurd hi (Nat.not_lt_zero i₀)) (fun i₀ j₀ hi => by omega) (fun p₀ q₀ _ => Or.inr ⟨fun i₀ hi => absurd hi (Nat.not_lt_zero i₀), ⟨rfl, rfl, rfl, rfl⟩, rfl, rfl⟩) (fun k₀ k0₀ k1₀ => v2 _ (by omega)) (fun k₀ k0₀ k1₀ => v1₀ _ (by omega))) ?_
  rintro v₀ N ⟨q₀, fw, tn₀, s₀, sq, w₀, hh⟩
  have n2₀ := f₀.2.2.2.1
  refine ⟨q₀, ⟨by have := fw.2.2.2.1; omega, ?_⟩, tn₀, s₀, sq, w₀, hh⟩
  · intro a₀ ha₀
    obtain ⟨p1₀, p2₀, p3₀, p4₀, p5₀, p6₀⟩ := h3 a₀ ha₀
    obtain ⟨q1₀, q2₀, q3₀, q4₀, q5₀, q6₀, q7₀⟩ := fw
    exact ⟨(q1₀ a₀).trans ((f₀.1 a₀).trans p1₀), (q2₀ a₀).trans ((f₀.2.1 a₀).trans p2₀), fun k₀ => ((q3₀ a₀ k₀).resolve_left (by omega)).trans ((f₀.2.2.1 a₀ k₀).trans (p3₀ k₀)), fun k₀ => ((q7₀ a₀ k₀).resolve_left (by omega)).trans ((mm_f_gi f₀ a₀ k₀ (by omega)).trans (p4₀ k₀)), fun k₀ => (q5₀ a₀ k₀).trans ((f₀.2.2.2.2.1 a₀ k₀).trans (p5₀ k₀)), fun k₀ => (q6₀ a₀ k₀).trans ((f₀.2.2.2.2.2.1 a₀ k₀).trans (p6₀ k₀))⟩
set_option maxRecDepth 100000 in
theorem cX4_init {D : mg_D} {l : Launch} (hl : l.stackTraces = false) {M : mg_M} {t₀ : Nat} (k5₀ : kd M t₀ = 5) (hn : nx M = t₀ + 1) (hz : ∀ k₀, gi M t₀ k₀ = 0) : mg_Mt D l 38 [.inr (.inl t₀)] M (fun v₀ N => v₀ = none ∧ mh_T0 M N t₀) mg_no := by
  refine mg_of2 hl ok_X4_init al_X4_init rfl (fun K hK₀ => ?_)
  have i0₀ : ∀ Z₀, Z₀ = si (si M t₀ 0 4) t₀ 1 4 → mh_tp M Z₀ t₀ 1 [] false := by
    intro Z₀ hZ
    rw [hZ]
    refine ⟨⟨hn, by omega, k5₀, mm_lo_si (mm_lo_si mm_lo_rfl (by omega)) (by omega)⟩, fun k₀ => ?_, by simp, by simp⟩
    rw [gi_si, gi_si, hz]
    (repeat' split) <;> first | rfl | omega
  refine hK₀ _ _ _ _ _ ?_
  (conv => whnf)
  refine And.intro k5₀ ?_
  (conv => whnf)
  refine And.intro (by rw [kd_si]; exact k5₀) ?_
  (conv => whnf)
  generalize hZ0 : si (si M t₀ 0 4) t₀ 1 4 = Z0
  have i0₀ := i0₀ Z0 hZ0.symm
  clear hZ0
  refine And.intro (by omega) ?_
  (conv => whnf)
  refine And.intro (by rw [kd_al, if_neg (by rw [i0₀.1.1]; omega)]; exact i0₀.1.2.2.1) ?_
  (conv => whnf)
  refine And.intro (by rw [i0₀.1.1]; omega) ?_
  have i1₀ := mh_tp1 (m₀ := 12) (s₀ := 3) i0₀ (by omega) (by simp)
  change mh_tp M (sr (al Z0 8 (Int.toNat 12)) t₀ 3 (nx Z0)) t₀ 2 [(3, 1, 12)] false at i1₀
  generalize hZ1 : sr (al Z0 8 (Int.toNat 12)) t₀ 3 (nx Z0) = Z1 at *
  clear hZ1 i0₀
  (conv => whnf)
  refine And.intro (by omega) ?_
  (conv => whnf)
  refine And.intro (by rw [kd_al, if_neg (by rw [i1₀.1.1]; omega)]; exact i1₀.1.2.2.1) ?_
  (conv => whnf)
  refine And.intro (by rw [i1₀.1.1]; omega) ?_
  have i2₀ := mh_tp1 (m₀ := 10) (s₀ := 4) i1₀ (by omega) (by simp)
  change mh_tp M (sr (al Z1 8 (Int.toNat 10)) t₀ 4 (nx Z1)) t₀ 3 [(4, 2, 10), (3, 1, 12)] false at i2₀
  generalize hZ2 : sr (al Z1 8 (Int.toNat 10)) t₀ 4 (nx Z1) = Z2 at *
  clear hZ2 i1₀
  (conv => whnf)
  refine And.intro (by omega) ?_
  have tz : nx Z2 = t₀ + 3 := i2₀.1.1
  have li := @cX3_init D l hl (al Z2 4 0) (t₀ + 3) (by rw [kd_al, if_pos tz.symm]) (by rw [nx_al, tz]) (fun k₀ => by rw [gi_al, if_pos tz.symm])
  (conv => whnf)
  rw [tz]
  refine And.intro (by omega) ?_
  (conv => whnf)
  refine Exists.intro _ (Exists.intro _ (And.intro (li) (And.intro ?_ (fun _ _ h₀ => h₀.elim))))
  rintro _ X₀ ⟨rfl, l1⟩
  have i3₀ := mh_tpL i2₀ (by simp) l1
  have kx : kd X₀ t₀ = 5 := i3₀.1.2.2.1
  clear li l1 i2₀
  (conv => whnf)
  refine And.intro kx ?_
  (conv => whnf)
  refine And.intro (by omega) ?_
  generalize hZ3 : sr X₀ t₀ 5 (t₀ + 3) = Z3 at *
  clear hZ3 kx
  (conv => whnf)
  refine And.intro (by omega) ?_
  (conv => whnf)
  refine And.intro (by rw [kd_al, if_neg (by rw [i3₀.1.1]; omega)]; exact i3₀.1.2.2.1) ?_
  (conv => whnf)
  refine And.intro (by rw [i3₀.1.1]; omega) ?_
  have i4₀ := mh_tp1 (m₀ := 120) (s₀ := 6) i3₀ (by omega) (by simp)
  change mh_tp M (sr (al Z3 8 (Int.toNat 120)) t₀ 6 (nx Z3)) t₀ 127 [(6, 126, 120), (4, 2, 10), (3, 1, 12)] true at i4₀
  generalize hZ4 : sr (al Z3 8 (Int.toNat 120)) t₀ 6 (nx Z3) = Z4 at *
  clear hZ4 i3₀
  (conv => whnf)
  refine And.intro (by omega) ?_
  (conv => whnf)
  refine And.intro (by rw [kd_al, if_neg (by rw [i4₀.1.1]; omega)]; exact i4₀.1.2.2.1) ?_
  (conv => whnf)
  refine And.intro (by rw [i4₀.1.1]; omega) ?_
  have i5₀ := mh_tp1 (m₀ := 12) (s₀ := 7) i4₀ (by omega) (by simp)
  change mh_tp M (sr (al Z4 8 (Int.toNat 12)) t₀ 7 (nx Z4)) t₀ 128 [(7, 127, 12), (6, 126, 120), (4, 2, 10), (3, 1, 12)] true at i5₀
  generalize hZ5 : sr (al Z4 8 (Int.toNat 12)) t₀ 7 (nx Z4) = Z5 at *
  clear hZ5 i4₀
  (conv => whnf)
  refine And.intro (by omega) ?_
  (conv => whnf)
  refine And.intro (by rw [kd_al, if_neg (by rw [i5₀.1.1]; omega)]; exact i5₀.1.2.2.1) ?_
  (conv => whnf)
  refine And.intro (by rw [i5₀.1.1]; omega) ?_
  have i6₀ := mh_tp1 (m₀ := 12) (s₀ := 8) i5₀ (by omega) (by simp)
  change mh_tp M (sr (al Z5 8 (Int.toNat 12)) t₀ 8 (nx Z5)) t₀ 129 [(8, 128, 12), (7, 127, 12), (6, 126, 120), (4, 2, 10), (3, 1, 12)] true at i6₀
  generalize hZ6 : sr (al Z5 8 (Int.toNat 12)) t₀ 8 (nx Z5) = Z6 at *
  clear hZ6 i5₀
  have a4 := i6₀.2.2.1 (4, 2, 10) (by simp)
  have a3 := i6₀.2.2.1 (3, 1, 12) (by simp)
  have g3₀ : gr Z6 t₀ 3 = t₀ + 1 := a3.1
  have g4 : gr Z6 t₀ 4 = t₀ + 2 := a4.1
  have k3₀ : kd Z6 (t₀ + 1) = 8 := a3.2.2.2.1
  have k4₀ : kd Z6 (t₀ + 2) = 8 := a4.2.2.2.1
  have l3 : ln Z6 (t₀ + 1) = 12 := a3.2.2.2.2
  have l4 : ln Z6 (t₀ + 2) = 10 := a4.2.2.2.2
  have kx : kd Z6 t₀ = 5 := i6₀.1.2.2.1
  have g3n : gr Z6 t₀ 3 ≠ 0 := by omega
  have F1₀ := @cJ7_fill D l hl Z6 (t₀ + 1) 20 k3₀ (by omega)
  rw [l3] at F1₀
  have fx := @mh_fi_fx (t₀ + 1) 12 20 Z6
  have ST₀ := mh_T0_of (D := D) hl i6₀ rfl rfl
  generalize mh_fi (t₀ + 1) 20 Z6 12 = Y1 at *
  have kx1 : kd Y1 t₀ = 5 := (fx.1 t₀).trans kx
  have g41 : gr Y1 t₀ 4 = t₀ + 2 := (fx.2.2.1 t₀ 4).trans g4
  have g4n : gr Y1 t₀ 4 ≠ 0 := by omega
  have F2 := @cJ7_fill D l hl Y1 (t₀ + 2) 50 ((fx.1 _).trans k4₀) (by rw [fx.2.1]; omega)
  rw [fx.2.1, l4] at F2
  have fx2 := @mh_fi_fx (t₀ + 2) 10 50 Y1
  generalize mh_fi (t₀ + 2) 50 Y1 10 = Y2 at *
  have kx2 : kd Y2 t₀ = 5 := (fx2.1 t₀).trans kx1
  clear i6₀ a4 a3 fx fx2
  (repeat' (((conv => whnf); first | (show (_ : Option mg_V) = _ ∧ _; assumption) | (show K _ _ _ _ _; assumption) | (show mm_th _ _ _ _; assumption) | refine And.intro (by first | assumption | omega | (simp only [true_and, kd_si, ln_si, gr_si]; first | done | assumption | omega)) ?_ | (refine And.intro (fun _ => ?_) (fun _ => ?_) <;> first | (exfalso; omega) | skip) | intro _ | fail)))
  all_goals ((conv => whnf); try rw [g3₀])
  (refine Exists.intro _ (Exists.intro _ (And.intro (F1₀) (And.intro ?_ (fun _ _ h₀ => h₀.elim)))); rintro _ _ ⟨rfl, e₀⟩; have e2₀ := e₀.symm; clear e₀; subst e2₀)
  (repeat' (((conv => whnf); first | (show (_ : Option mg_V) = _ ∧ _; assumption) | (show K _ _ _ _ _; assumption) | (show mm_th _ _ _ _; assumption) | refine And.intro (by first | assumption | omega | (simp only [true_and, kd_si, ln_si, gr_si]; first | done | assumption | omega)) ?_ | (refine And.intro (fun _ => ?_) (fun _ => ?_) <;> first | (exfalso; omega) | skip) | intro _ | fail)))
  all_goals ((conv => whnf); try rw [g41])
  (refine Exists.intro _ (Exists.intro _ (And.intro (F2) (And.intro ?_ (fun _ _ h₀ => h₀.elim)))); rintro _ _ ⟨rfl, e₀⟩; have e2₀ := e₀.symm; clear e₀; subst e2₀)
  (repeat' (((conv => whnf); first | (show (_ : Option mg_V) = _ ∧ _; assumption) | (show K _ _ _ _ _; assumption) | (show mm_th _ _ _ _; assumption) | refine And.intro (by first | assumption | omega | (simp only [true_and, kd_si, ln_si, gr_si]; first | done | assumption | omega)) ?_ | (refine And.intro (fun _ => ?_) (fun _ => ?_) <;> first | (exfalso; omega) | skip) | intro _ | fail)))
  all_goals ((conv => whnf); skip)
  refine Exists.intro _ (Exists.intro _ (And.intro (ST₀) (And.intro ?_ (fun _ _ h₀ => h₀.elim))))
  rintro _ N ⟨rfl, Q1₀⟩
  have Q₀ := And.intro (Eq.refl (none : Option mg_V)) Q1₀
  (repeat' (((conv => whnf); first | (show (_ : Option mg_V) = _ ∧ _; assumption) | (show K _ _ _ _ _; assumption) | (show mm_th _ _ _ _; assumption) | refine And.intro (by first | assumption | omega | (simp only [true_and, kd_si, ln_si, gr_si]; first | done | assumption | omega)) ?_ | (refine And.intro (fun _ => ?_) (fun _ => ?_) <;> first | (exfalso; omega) | skip) | intro _ | fail)))
def mh_B0 (M N : mg_M) (k₀ : Nat) : Prop := (nx N = k₀ + 124 ∧ mm_lo M N k₀) ∧ (kd N k₀ = 2 ∧ gr N k₀ 2 = k₀ + 1 ∧ mg_cL N (k₀ + 1)) ∧ (gi N k₀ 0 = 0 ∧ gi N k₀ 1 = 0 ∧ gi N (k₀ + 1) 0 = 0)
set_option maxRecDepth 100000 in
theorem cX1_init {D : mg_D} {l : Launch} (hl : l.stackTraces = false) {M : mg_M} {k₀ : Nat} (k2₀ : kd M k₀ = 2) (hn : nx M = k₀ + 1) (hz : ∀ j₀, gi M k₀ j₀ = 0) : mg_Mt D l 34 [.inr (.inl k₀)] M (fun v₀ N => v₀ = none ∧ mh_B0 M N k₀) mg_no := by
  refine mg_of2 hl ok_X1_init al_X1_init rfl (fun K hK₀ => ?_)
  have li := @cX3_init D l hl (al M 4 0) (k₀ + 1) (by rw [kd_al, if_pos hn.symm]) (by rw [nx_al, hn]) (fun k₀ => by rw [gi_al, if_pos hn.symm])
  refine hK₀ _ _ _ _ _ ?_
  (repeat' (((conv => whnf); first | (show (_ : Option mg_V) = _ ∧ _; assumption) | (show K _ _ _ _ _; assumption) | (show mm_th _ _ _ _; assumption) | refine And.intro (by first | assumption | omega | (simp only [true_and, kd_si, ln_si, gr_si]; first | done | assumption | omega)) ?_ | (refine And.intro (fun _ => ?_) (fun _ => ?_) <;> first | (exfalso; omega) | skip) | intro _ | fail)))
  all_goals ((conv => whnf); rw [hn])
  refine Exists.intro _ (Exists.intro _ (And.intro (li) (And.intro ?_ (fun _ _ h₀ => h₀.elim))))
  rintro _ X₀ ⟨rfl, l1⟩
  have lo := mm_lo_tr (mm_lo_le (@mm_lo_al M 4 0) (by omega)) l1.1.2
  have kx : kd X₀ k₀ = 2 := (lo k₀ (by omega)).1.trans k2₀
  have cl₀ := mh_li_cL l1
  have Q₀ : (none : Option mg_V) = none ∧ mh_B0 M (sr X₀ k₀ 2 (k₀ + 1)) k₀ := by
    refine ⟨rfl, ⟨by rw [nx_sr]; have := l1.1.1; omega, mm_lo_sr (mm_lo_le lo (by omega)) (by omega)⟩, ⟨kx, by rw [gr_sr, if_pos ⟨rfl, rfl⟩], mh_cL_lo cl₀ (fun a₀ h1 h2 => ⟨rfl, rfl, fun j₀ => ?_, fun j₀ => rfl⟩)⟩, ?_, ?_, l1.2.2.1 0⟩
    · rw [gr_sr, if_neg (by omega)]
    · rw [gi_sr, (lo k₀ (by omega)).2.2.2.1]; exact hz 0
    · rw [gi_sr, (lo k₀ (by omega)).2.2.2.1]; exact hz 1
  clear li l1 lo cl₀ hz
  (repeat' (((conv => whnf); first | (show (_ : Option mg_V) = _ ∧ _; assumption) | (show K _ _ _ _ _; assumption) | (show mm_th _ _ _ _; assumption) | refine And.intro (by first | assumption | omega | (simp only [true_and, kd_si, ln_si, gr_si]; first | done | assumption | omega)) ?_ | (refine And.intro (fun _ => ?_) (fun _ => ?_) <;> first | (exfalso; omega) | skip) | intro _ | fail)))
