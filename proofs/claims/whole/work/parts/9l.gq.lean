/-! MergeGrid's questions -/
def mh_K (M : mg_M) (g₀ t₀ u₀ : Nat) : Prop := (mh_G0 M g₀ t₀ ∧ gr M g₀ 1 = u₀ ∧ gr M g₀ 3 = g₀ + 259 ∧ gr M g₀ 4 = g₀ + 260 ∧ gr M g₀ 5 = g₀ + 261) ∧ (kd M (g₀ + 259) = 1 ∧ kd M (g₀ + 260) = 1 ∧ kd M (g₀ + 261) = 2 ∧ gr M (g₀ + 261) 2 = g₀ + 261 + 1 ∧ mg_cL M (g₀ + 261 + 1)) ∧ ((t₀ = g₀ + 1 ∧ u₀ = g₀ + 130) ∨ (t₀ = g₀ + 130 ∧ u₀ = g₀ + 1)) ∧ (mh_tl M t₀ ∧ mh_nb M t₀) ∧ (mg_tb M u₀ ∧ mg_cL M (u₀ + 3)) ∧ (1 ≤ gi M t₀ 0 ∧ 1 ≤ gi M t₀ 1) ∧ (0 ≤ gi M t₀ 2 ∧ gi M t₀ 2 ≤ gi M t₀ 0) ∧ mh_ar M t₀ (g₀ + 259)
def mh_V (M : mg_M) (t₀ : Nat) : Prop := (∀ i₀ : Nat, (i₀ : Int) < gi M (t₀ + 3) 0 → 0 ≤ gi M (gr M (t₀ + 3 + 1) i₀) 4 ∧ gi M (gr M (t₀ + 3 + 1) i₀) 4 ≤ 999) ∧ (∀ k₀ : Nat, (k₀ : Int) < gi M t₀ 1 → 10 ≤ gi M (t₀ + 2) k₀ ∧ gi M (t₀ + 2) k₀ ≤ 200) ∧ ∀ k₀ : Nat, (k₀ : Int) < gi M t₀ 0 → 5 ≤ gi M (t₀ + 1) k₀ ∧ gi M (t₀ + 1) k₀ ≤ 100
set_option maxRecDepth 100000 in
theorem cX5_rows {D : mg_D} {l : Launch} (hl : l.stackTraces = false) {M : mg_M} {g₀ t₀ u₀ : Nat} (K9 : mh_K M g₀ t₀ u₀) : mg_Mt D l 72 [.inr (.inl g₀)] M (fun v₀ N => v₀ = some (.inl (gi M t₀ 0)) ∧ N = M) mg_no := by
  refine mg_of2 hl ok_X5_rows al_X5_rows rfl (fun K hK₀ => ?_)
  obtain ⟨⟨G, g1, g3₀, g4, g5₀⟩, ⟨ka, kb, kk, kg, ck⟩, pl, ⟨tl, nb⟩, ⟨tbu, clu⟩, rb⟩ := K9
  have k6₀ := G.1
  have g0 := G.2.1
  have kt := G.2.2.1
  have tn₀ := G.2.2.2
  have g0n : gr M g₀ 0 ≠ 0 := by omega
  have k0₀ : kd M (gr M g₀ 0) = 5 := by rw [g0]; exact kt
  have cl₀ := tl.2.1
  have bb := tl.1.2.2
  have s5 : gr M t₀ 5 = t₀ + 3 := tl.1.1.2.2.2.1
  have s3₀ : gr M t₀ 3 = t₀ + 1 := tl.1.1.2.1
  have s4₀ : gr M t₀ 4 = t₀ + 2 := tl.1.1.2.2.1
  have t5₀ : gr M (gr M g₀ 0) 5 = t₀ + 3 := by rw [g0]; exact s5
  have t5n : gr M (gr M g₀ 0) 5 ≠ 0 := by omega
  have kc₀ : kd M (gr M (gr M g₀ 0) 5) = 4 := by rw [t5₀]; exact cl₀.1
  have t3₀ : gr M (gr M g₀ 0) 3 = t₀ + 1 := by rw [g0]; exact s3₀
  have t3n : gr M (gr M g₀ 0) 3 ≠ 0 := by omega
  have kh : kd M (gr M (gr M g₀ 0) 3) = 8 := by rw [t3₀]; exact tl.1.2.1.1.1
  have lh : ln M (gr M (gr M g₀ 0) 3) = 12 := by rw [t3₀]; exact tl.1.2.1.1.2
  have t4₀ : gr M (gr M g₀ 0) 4 = t₀ + 2 := by rw [g0]; exact s4₀
  have t4n : gr M (gr M g₀ 0) 4 ≠ 0 := by omega
  have kw : kd M (gr M (gr M g₀ 0) 4) = 8 := by rw [t4₀]; exact tl.1.2.1.2.1.1
  have lw : ln M (gr M (gr M g₀ 0) 4) = 10 := by rw [t4₀]; exact tl.1.2.1.2.1.2
  have g3n : gr M g₀ 3 ≠ 0 := by omega
  have k3₀ : kd M (gr M g₀ 3) = 1 := by rw [g3₀]; exact ka
  have g4n : gr M g₀ 4 ≠ 0 := by omega
  have k4₀ : kd M (gr M g₀ 4) = 1 := by rw [g4]; exact kb
  have g5n : gr M g₀ 5 ≠ 0 := by omega
  have k5₀ : kd M (gr M g₀ 5) = 2 := by rw [g5₀]; exact kk
  have Q₀ : some (Sum.inl (gi M (gr M g₀ 0) 0) : mg_V) = some (.inl (gi M t₀ 0)) ∧ M = M := ⟨by rw [g0], rfl⟩
  clear G tl nb tbu clu ck cl₀
  refine hK₀ _ _ _ _ _ ?_
  (repeat' (((conv => whnf); first | (show (_ : Option mg_V) = _ ∧ _; assumption) | (show K _ _ _ _ _; assumption) | (show mm_th _ _ _ _; assumption) | refine And.intro (by first | assumption | omega | (simp only [true_and]; first | done | assumption | omega)) ?_ | (refine And.intro (fun _ => ?_) (fun _ => ?_) <;> first | (exfalso; omega) | skip) | intro _ | fail)))
set_option maxRecDepth 100000 in
theorem cX5_columns {D : mg_D} {l : Launch} (hl : l.stackTraces = false) {M : mg_M} {g₀ t₀ u₀ : Nat} (K9 : mh_K M g₀ t₀ u₀) : mg_Mt D l 73 [.inr (.inl g₀)] M (fun v₀ N => v₀ = some (.inl (gi M t₀ 1)) ∧ N = M) mg_no := by
  refine mg_of2 hl ok_X5_columns al_X5_columns rfl (fun K hK₀ => ?_)
  obtain ⟨⟨G, g1, g3₀, g4, g5₀⟩, ⟨ka, kb, kk, kg, ck⟩, pl, ⟨tl, nb⟩, ⟨tbu, clu⟩, rb⟩ := K9
  have k6₀ := G.1
  have g0 := G.2.1
  have kt := G.2.2.1
  have tn₀ := G.2.2.2
  have g0n : gr M g₀ 0 ≠ 0 := by omega
  have k0₀ : kd M (gr M g₀ 0) = 5 := by rw [g0]; exact kt
  have cl₀ := tl.2.1
  have bb := tl.1.2.2
  have s5 : gr M t₀ 5 = t₀ + 3 := tl.1.1.2.2.2.1
  have s3₀ : gr M t₀ 3 = t₀ + 1 := tl.1.1.2.1
  have s4₀ : gr M t₀ 4 = t₀ + 2 := tl.1.1.2.2.1
  have t5₀ : gr M (gr M g₀ 0) 5 = t₀ + 3 := by rw [g0]; exact s5
  have t5n : gr M (gr M g₀ 0) 5 ≠ 0 := by omega
  have kc₀ : kd M (gr M (gr M g₀ 0) 5) = 4 := by rw [t5₀]; exact cl₀.1
  have t3₀ : gr M (gr M g₀ 0) 3 = t₀ + 1 := by rw [g0]; exact s3₀
  have t3n : gr M (gr M g₀ 0) 3 ≠ 0 := by omega
  have kh : kd M (gr M (gr M g₀ 0) 3) = 8 := by rw [t3₀]; exact tl.1.2.1.1.1
  have lh : ln M (gr M (gr M g₀ 0) 3) = 12 := by rw [t3₀]; exact tl.1.2.1.1.2
  have t4₀ : gr M (gr M g₀ 0) 4 = t₀ + 2 := by rw [g0]; exact s4₀
  have t4n : gr M (gr M g₀ 0) 4 ≠ 0 := by omega
  have kw : kd M (gr M (gr M g₀ 0) 4) = 8 := by rw [t4₀]; exact tl.1.2.1.2.1.1
  have lw : ln M (gr M (gr M g₀ 0) 4) = 10 := by rw [t4₀]; exact tl.1.2.1.2.1.2
  have g3n : gr M g₀ 3 ≠ 0 := by omega
  have k3₀ : kd M (gr M g₀ 3) = 1 := by rw [g3₀]; exact ka
  have g4n : gr M g₀ 4 ≠ 0 := by omega
  have k4₀ : kd M (gr M g₀ 4) = 1 := by rw [g4]; exact kb
  have g5n : gr M g₀ 5 ≠ 0 := by omega
  have k5₀ : kd M (gr M g₀ 5) = 2 := by rw [g5₀]; exact kk
  have Q₀ : some (Sum.inl (gi M (gr M g₀ 0) 1) : mg_V) = some (.inl (gi M t₀ 1)) ∧ M = M := ⟨by rw [g0], rfl⟩
  clear G tl nb tbu clu ck cl₀
  refine hK₀ _ _ _ _ _ ?_
  (repeat' (((conv => whnf); first | (show (_ : Option mg_V) = _ ∧ _; assumption) | (show K _ _ _ _ _; assumption) | (show mm_th _ _ _ _; assumption) | refine And.intro (by first | assumption | omega | (simp only [true_and]; first | done | assumption | omega)) ?_ | (refine And.intro (fun _ => ?_) (fun _ => ?_) <;> first | (exfalso; omega) | skip) | intro _ | fail)))
set_option maxRecDepth 100000 in
theorem cX5_cellCount {D : mg_D} {l : Launch} (hl : l.stackTraces = false) {M : mg_M} {g₀ t₀ u₀ : Nat} (K9 : mh_K M g₀ t₀ u₀) : mg_Mt D l 74 [.inr (.inl g₀)] M (fun v₀ N => v₀ = some (.inl (gi M (t₀ + 3) 0)) ∧ N = M) mg_no := by
  refine mg_of2 hl ok_X5_cellCount al_X5_cellCount rfl (fun K hK₀ => ?_)
  obtain ⟨⟨G, g1, g3₀, g4, g5₀⟩, ⟨ka, kb, kk, kg, ck⟩, pl, ⟨tl, nb⟩, ⟨tbu, clu⟩, rb⟩ := K9
  have k6₀ := G.1
  have g0 := G.2.1
  have kt := G.2.2.1
  have tn₀ := G.2.2.2
  have g0n : gr M g₀ 0 ≠ 0 := by omega
  have k0₀ : kd M (gr M g₀ 0) = 5 := by rw [g0]; exact kt
  have cl₀ := tl.2.1
  have bb := tl.1.2.2
  have s5 : gr M t₀ 5 = t₀ + 3 := tl.1.1.2.2.2.1
  have s3₀ : gr M t₀ 3 = t₀ + 1 := tl.1.1.2.1
  have s4₀ : gr M t₀ 4 = t₀ + 2 := tl.1.1.2.2.1
  have t5₀ : gr M (gr M g₀ 0) 5 = t₀ + 3 := by rw [g0]; exact s5
  have t5n : gr M (gr M g₀ 0) 5 ≠ 0 := by omega
  have kc₀ : kd M (gr M (gr M g₀ 0) 5) = 4 := by rw [t5₀]; exact cl₀.1
  have t3₀ : gr M (gr M g₀ 0) 3 = t₀ + 1 := by rw [g0]; exact s3₀
  have t3n : gr M (gr M g₀ 0) 3 ≠ 0 := by omega
  have kh : kd M (gr M (gr M g₀ 0) 3) = 8 := by rw [t3₀]; exact tl.1.2.1.1.1
  have lh : ln M (gr M (gr M g₀ 0) 3) = 12 := by rw [t3₀]; exact tl.1.2.1.1.2
  have t4₀ : gr M (gr M g₀ 0) 4 = t₀ + 2 := by rw [g0]; exact s4₀
  have t4n : gr M (gr M g₀ 0) 4 ≠ 0 := by omega
  have kw : kd M (gr M (gr M g₀ 0) 4) = 8 := by rw [t4₀]; exact tl.1.2.1.2.1.1
  have lw : ln M (gr M (gr M g₀ 0) 4) = 10 := by rw [t4₀]; exact tl.1.2.1.2.1.2
  have g3n : gr M g₀ 3 ≠ 0 := by omega
  have k3₀ : kd M (gr M g₀ 3) = 1 := by rw [g3₀]; exact ka
  have g4n : gr M g₀ 4 ≠ 0 := by omega
  have k4₀ : kd M (gr M g₀ 4) = 1 := by rw [g4]; exact kb
  have g5n : gr M g₀ 5 ≠ 0 := by omega
  have k5₀ : kd M (gr M g₀ 5) = 2 := by rw [g5₀]; exact kk
  have Q₀ : some (Sum.inl (gi M (gr M (gr M g₀ 0) 5) 0) : mg_V) = some (.inl (gi M (t₀ + 3) 0)) ∧ M = M := ⟨by rw [t5₀], rfl⟩
  clear G tl nb tbu clu ck cl₀
  refine hK₀ _ _ _ _ _ ?_
  (repeat' (((conv => whnf); first | (show (_ : Option mg_V) = _ ∧ _; assumption) | (show K _ _ _ _ _; assumption) | (show mm_th _ _ _ _; assumption) | refine And.intro (by first | assumption | omega | (simp only [true_and]; first | done | assumption | omega)) ?_ | (refine And.intro (fun _ => ?_) (fun _ => ?_) <;> first | (exfalso; omega) | skip) | intro _ | fail)))
set_option maxRecDepth 100000 in
theorem cX5_header {D : mg_D} {l : Launch} (hl : l.stackTraces = false) {M : mg_M} {g₀ t₀ u₀ : Nat} (K9 : mh_K M g₀ t₀ u₀) : mg_Mt D l 99 [.inr (.inl g₀)] M (fun v₀ N => v₀ = some (.inl (gi M t₀ 2)) ∧ N = M) mg_no := by
  refine mg_of2 hl ok_X5_header al_X5_header rfl (fun K hK₀ => ?_)
  obtain ⟨⟨G, g1, g3₀, g4, g5₀⟩, ⟨ka, kb, kk, kg, ck⟩, pl, ⟨tl, nb⟩, ⟨tbu, clu⟩, rb⟩ := K9
  have k6₀ := G.1
  have g0 := G.2.1
  have kt := G.2.2.1
  have tn₀ := G.2.2.2
  have g0n : gr M g₀ 0 ≠ 0 := by omega
  have k0₀ : kd M (gr M g₀ 0) = 5 := by rw [g0]; exact kt
  have cl₀ := tl.2.1
  have bb := tl.1.2.2
  have s5 : gr M t₀ 5 = t₀ + 3 := tl.1.1.2.2.2.1
  have s3₀ : gr M t₀ 3 = t₀ + 1 := tl.1.1.2.1
  have s4₀ : gr M t₀ 4 = t₀ + 2 := tl.1.1.2.2.1
  have t5₀ : gr M (gr M g₀ 0) 5 = t₀ + 3 := by rw [g0]; exact s5
  have t5n : gr M (gr M g₀ 0) 5 ≠ 0 := by omega
  have kc₀ : kd M (gr M (gr M g₀ 0) 5) = 4 := by rw [t5₀]; exact cl₀.1
  have t3₀ : gr M (gr M g₀ 0) 3 = t₀ + 1 := by rw [g0]; exact s3₀
  have t3n : gr M (gr M g₀ 0) 3 ≠ 0 := by omega
  have kh : kd M (gr M (gr M g₀ 0) 3) = 8 := by rw [t3₀]; exact tl.1.2.1.1.1
  have lh : ln M (gr M (gr M g₀ 0) 3) = 12 := by rw [t3₀]; exact tl.1.2.1.1.2
  have t4₀ : gr M (gr M g₀ 0) 4 = t₀ + 2 := by rw [g0]; exact s4₀
  have t4n : gr M (gr M g₀ 0) 4 ≠ 0 := by omega
  have kw : kd M (gr M (gr M g₀ 0) 4) = 8 := by rw [t4₀]; exact tl.1.2.1.2.1.1
  have lw : ln M (gr M (gr M g₀ 0) 4) = 10 := by rw [t4₀]; exact tl.1.2.1.2.1.2
  have g3n : gr M g₀ 3 ≠ 0 := by omega
  have k3₀ : kd M (gr M g₀ 3) = 1 := by rw [g3₀]; exact ka
  have g4n : gr M g₀ 4 ≠ 0 := by omega
  have k4₀ : kd M (gr M g₀ 4) = 1 := by rw [g4]; exact kb
  have g5n : gr M g₀ 5 ≠ 0 := by omega
  have k5₀ : kd M (gr M g₀ 5) = 2 := by rw [g5₀]; exact kk
  have Q₀ : some (Sum.inl (gi M (gr M g₀ 0) 2) : mg_V) = some (.inl (gi M t₀ 2)) ∧ M = M := ⟨by rw [g0], rfl⟩
  clear G tl nb tbu clu ck cl₀
  refine hK₀ _ _ _ _ _ ?_
  (repeat' (((conv => whnf); first | (show (_ : Option mg_V) = _ ∧ _; assumption) | (show K _ _ _ _ _; assumption) | (show mm_th _ _ _ _; assumption) | refine And.intro (by first | assumption | omega | (simp only [true_and]; first | done | assumption | omega)) ?_ | (refine And.intro (fun _ => ?_) (fun _ => ?_) <;> first | (exfalso; omega) | skip) | intro _ | fail)))
set_option maxRecDepth 100000 in
theorem cX5_topOf0 {D : mg_D} {l : Launch} (hl : l.stackTraces = false) {M : mg_M} {g₀ t₀ u₀ : Nat} {r₀ c₀ : Int} (K9 : mh_K M g₀ t₀ u₀) (h₀ : mh_rg (gi M t₀ 0) (gi M t₀ 1) r₀ c₀) : mg_Mt D l 81 [.inr (.inl g₀), .inl r₀, .inl c₀] M (fun v₀ N => v₀ = some (.inl (gi M (mh_co M t₀ r₀ c₀) 0)) ∧ N = M) mg_no := by
  refine mg_of2 hl ok_X5_topOf al_X5_topOf rfl (fun K hK₀ => ?_)
  obtain ⟨⟨G, g1, g3₀, g4, g5₀⟩, ⟨ka, kb, kk, kg, ck⟩, pl, ⟨tl, nb⟩, ⟨tbu, clu⟩, rb⟩ := K9
  have k6₀ := G.1
  have g0 := G.2.1
  have kt := G.2.2.1
  have tn₀ := G.2.2.2
  have g0n : gr M g₀ 0 ≠ 0 := by omega
  have k0₀ : kd M (gr M g₀ 0) = 5 := by rw [g0]; exact kt
  have cl₀ := tl.2.1
  have bb := tl.1.2.2
  have s5 : gr M t₀ 5 = t₀ + 3 := tl.1.1.2.2.2.1
  have s3₀ : gr M t₀ 3 = t₀ + 1 := tl.1.1.2.1
  have s4₀ : gr M t₀ 4 = t₀ + 2 := tl.1.1.2.2.1
  have t5₀ : gr M (gr M g₀ 0) 5 = t₀ + 3 := by rw [g0]; exact s5
  have t5n : gr M (gr M g₀ 0) 5 ≠ 0 := by omega
  have kc₀ : kd M (gr M (gr M g₀ 0) 5) = 4 := by rw [t5₀]; exact cl₀.1
  have t3₀ : gr M (gr M g₀ 0) 3 = t₀ + 1 := by rw [g0]; exact s3₀
  have t3n : gr M (gr M g₀ 0) 3 ≠ 0 := by omega
  have kh : kd M (gr M (gr M g₀ 0) 3) = 8 := by rw [t3₀]; exact tl.1.2.1.1.1
  have lh : ln M (gr M (gr M g₀ 0) 3) = 12 := by rw [t3₀]; exact tl.1.2.1.1.2
  have t4₀ : gr M (gr M g₀ 0) 4 = t₀ + 2 := by rw [g0]; exact s4₀
  have t4n : gr M (gr M g₀ 0) 4 ≠ 0 := by omega
  have kw : kd M (gr M (gr M g₀ 0) 4) = 8 := by rw [t4₀]; exact tl.1.2.1.2.1.1
  have lw : ln M (gr M (gr M g₀ 0) 4) = 10 := by rw [t4₀]; exact tl.1.2.1.2.1.2
  have g3n : gr M g₀ 3 ≠ 0 := by omega
  have k3₀ : kd M (gr M g₀ 3) = 1 := by rw [g3₀]; exact ka
  have g4n : gr M g₀ 4 ≠ 0 := by omega
  have k4₀ : kd M (gr M g₀ 4) = 1 := by rw [g4]; exact kb
  have g5n : gr M g₀ 5 ≠ 0 := by omega
  have k5₀ : kd M (gr M g₀ 5) = 2 := by rw [g5₀]; exact kk
  have c1₀ := @cX5_checkSquare0 D l hl M g₀ t₀ r₀ c₀ G h₀
  have c2₀ := @cX4_cellAt D l hl M t₀ r₀ c₀ tl h₀.1 h₀.2 (nb r₀ c₀ h₀.1.1 h₀.1.2 h₀.2.1 h₀.2.2)
  have sm₀ := (mh_co_sm tl nb h₀.1 h₀.2).1
  have Q₀ : some (Sum.inl (gi M (mh_co M t₀ r₀ c₀) 0) : mg_V) = some (.inl (gi M (mh_co M t₀ r₀ c₀) 0)) ∧ M = M := ⟨rfl, rfl⟩
  clear G tl nb tbu clu ck cl₀
  refine hK₀ _ _ _ _ _ ?_
  (repeat' (((conv => whnf); first | (show (_ : Option mg_V) = _ ∧ _; assumption) | (show K _ _ _ _ _; assumption) | (show mm_th _ _ _ _; assumption) | refine And.intro (by first | assumption | omega | (simp only [true_and]; first | done | assumption | omega)) ?_ | (refine And.intro (fun _ => ?_) (fun _ => ?_) <;> first | (exfalso; omega) | skip) | intro _ | fail)))
  all_goals (try ((conv => whnf); (refine Exists.intro _ (Exists.intro _ (And.intro (c1₀) (And.intro ?_ (fun _ _ h₀ => h₀.elim)))); rintro _ _ ⟨rfl, e₀⟩; have e2₀ := e₀.symm; clear e₀; subst e2₀); (repeat' (((conv => whnf); first | (show (_ : Option mg_V) = _ ∧ _; assumption) | (show K _ _ _ _ _; assumption) | (show mm_th _ _ _ _; assumption) | refine And.intro (by first | assumption | omega | (simp only [true_and]; first | done | assumption | omega)) ?_ | (refine And.intro (fun _ => ?_) (fun _ => ?_) <;> first | (exfalso; omega) | skip) | intro _ | fail)))))
  all_goals ((conv => whnf); (try rw [g0]); (try rw [s5]); (try rw [s3₀]); (try rw [s4₀]); (try rw [g3₀]); (try rw [g4]); (try rw [g5₀]))
  (refine Exists.intro _ (Exists.intro _ (And.intro (c2₀) (And.intro ?_ (fun _ _ h₀ => h₀.elim)))); rintro _ _ ⟨rfl, e₀⟩; have e2₀ := e₀.symm; clear e₀; subst e2₀)
  (repeat' (((conv => whnf); first | (show (_ : Option mg_V) = _ ∧ _; assumption) | (show K _ _ _ _ _; assumption) | (show mm_th _ _ _ _; assumption) | refine And.intro (by first | assumption | omega | (simp only [true_and]; first | done | assumption | omega)) ?_ | (refine And.intro (fun _ => ?_) (fun _ => ?_) <;> first | (exfalso; omega) | skip) | intro _ | fail)))
set_option maxRecDepth 100000 in
theorem cX5_topOf1 {D : mg_D} {l : Launch} (hl : l.stackTraces = false) {M : mg_M} {g₀ t₀ u₀ : Nat} {r₀ c₀ : Int} (K9 : mh_K M g₀ t₀ u₀) (h₀ : ¬ mh_rg (gi M t₀ 0) (gi M t₀ 1) r₀ c₀) : mg_Mt D l 81 [.inr (.inl g₀), .inl r₀, .inl c₀] M mh_nN (mh_tX 1 M) := by
  refine mg_of2 hl ok_X5_topOf al_X5_topOf rfl (fun K hK₀ => ?_)
  obtain ⟨⟨G, g1, g3₀, g4, g5₀⟩, ⟨ka, kb, kk, kg, ck⟩, pl, ⟨tl, nb⟩, ⟨tbu, clu⟩, rb⟩ := K9
  have k6₀ := G.1
  have g0 := G.2.1
  have kt := G.2.2.1
  have tn₀ := G.2.2.2
  have g0n : gr M g₀ 0 ≠ 0 := by omega
  have k0₀ : kd M (gr M g₀ 0) = 5 := by rw [g0]; exact kt
  have cl₀ := tl.2.1
  have bb := tl.1.2.2
  have s5 : gr M t₀ 5 = t₀ + 3 := tl.1.1.2.2.2.1
  have s3₀ : gr M t₀ 3 = t₀ + 1 := tl.1.1.2.1
  have s4₀ : gr M t₀ 4 = t₀ + 2 := tl.1.1.2.2.1
  have t5₀ : gr M (gr M g₀ 0) 5 = t₀ + 3 := by rw [g0]; exact s5
  have t5n : gr M (gr M g₀ 0) 5 ≠ 0 := by omega
  have kc₀ : kd M (gr M (gr M g₀ 0) 5) = 4 := by rw [t5₀]; exact cl₀.1
  have t3₀ : gr M (gr M g₀ 0) 3 = t₀ + 1 := by rw [g0]; exact s3₀
  have t3n : gr M (gr M g₀ 0) 3 ≠ 0 := by omega
  have kh : kd M (gr M (gr M g₀ 0) 3) = 8 := by rw [t3₀]; exact tl.1.2.1.1.1
  have lh : ln M (gr M (gr M g₀ 0) 3) = 12 := by rw [t3₀]; exact tl.1.2.1.1.2
  have t4₀ : gr M (gr M g₀ 0) 4 = t₀ + 2 := by rw [g0]; exact s4₀
  have t4n : gr M (gr M g₀ 0) 4 ≠ 0 := by omega
  have kw : kd M (gr M (gr M g₀ 0) 4) = 8 := by rw [t4₀]; exact tl.1.2.1.2.1.1
  have lw : ln M (gr M (gr M g₀ 0) 4) = 10 := by rw [t4₀]; exact tl.1.2.1.2.1.2
  have g3n : gr M g₀ 3 ≠ 0 := by omega
  have k3₀ : kd M (gr M g₀ 3) = 1 := by rw [g3₀]; exact ka
  have g4n : gr M g₀ 4 ≠ 0 := by omega
  have k4₀ : kd M (gr M g₀ 4) = 1 := by rw [g4]; exact kb
  have g5n : gr M g₀ 5 ≠ 0 := by omega
  have k5₀ : kd M (gr M g₀ 5) = 2 := by rw [g5₀]; exact kk
  have c1₀ := @cX5_checkSquare1 D l hl M g₀ t₀ r₀ c₀ G h₀
  clear G tl nb tbu clu ck cl₀
  refine hK₀ _ _ _ _ _ ?_
  (repeat' (((conv => whnf); first | (show (_ : Option mg_V) = _ ∧ _; assumption) | (show K _ _ _ _ _; assumption) | (show mm_th _ _ _ _; assumption) | refine And.intro (by first | assumption | omega | (simp only [true_and]; first | done | assumption | omega)) ?_ | (refine And.intro (fun _ => ?_) (fun _ => ?_) <;> first | (exfalso; omega) | skip) | intro _ | fail)))
  all_goals ((conv => whnf); skip)
  (refine Exists.intro _ (Exists.intro _ (And.intro (c1₀) (And.intro (fun _ _ h₀ => h₀.elim) ?_))); rintro _ _ ⟨rfl, n9, hn9, rfl⟩; (conv => whnf); first | exact ⟨rfl, n9, hn9, rfl⟩ | exact ⟨n9, hn9, rfl⟩)
set_option maxRecDepth 100000 in
theorem cX5_leftOf0 {D : mg_D} {l : Launch} (hl : l.stackTraces = false) {M : mg_M} {g₀ t₀ u₀ : Nat} {r₀ c₀ : Int} (K9 : mh_K M g₀ t₀ u₀) (h₀ : mh_rg (gi M t₀ 0) (gi M t₀ 1) r₀ c₀) : mg_Mt D l 82 [.inr (.inl g₀), .inl r₀, .inl c₀] M (fun v₀ N => v₀ = some (.inl (gi M (mh_co M t₀ r₀ c₀) 1)) ∧ N = M) mg_no := by
  refine mg_of2 hl ok_X5_leftOf al_X5_leftOf rfl (fun K hK₀ => ?_)
  obtain ⟨⟨G, g1, g3₀, g4, g5₀⟩, ⟨ka, kb, kk, kg, ck⟩, pl, ⟨tl, nb⟩, ⟨tbu, clu⟩, rb⟩ := K9
  have k6₀ := G.1
  have g0 := G.2.1
  have kt := G.2.2.1
  have tn₀ := G.2.2.2
  have g0n : gr M g₀ 0 ≠ 0 := by omega
  have k0₀ : kd M (gr M g₀ 0) = 5 := by rw [g0]; exact kt
  have cl₀ := tl.2.1
  have bb := tl.1.2.2
  have s5 : gr M t₀ 5 = t₀ + 3 := tl.1.1.2.2.2.1
  have s3₀ : gr M t₀ 3 = t₀ + 1 := tl.1.1.2.1
  have s4₀ : gr M t₀ 4 = t₀ + 2 := tl.1.1.2.2.1
  have t5₀ : gr M (gr M g₀ 0) 5 = t₀ + 3 := by rw [g0]; exact s5
  have t5n : gr M (gr M g₀ 0) 5 ≠ 0 := by omega
  have kc₀ : kd M (gr M (gr M g₀ 0) 5) = 4 := by rw [t5₀]; exact cl₀.1
  have t3₀ : gr M (gr M g₀ 0) 3 = t₀ + 1 := by rw [g0]; exact s3₀
  have t3n : gr M (gr M g₀ 0) 3 ≠ 0 := by omega
  have kh : kd M (gr M (gr M g₀ 0) 3) = 8 := by rw [t3₀]; exact tl.1.2.1.1.1
  have lh : ln M (gr M (gr M g₀ 0) 3) = 12 := by rw [t3₀]; exact tl.1.2.1.1.2
  have t4₀ : gr M (gr M g₀ 0) 4 = t₀ + 2 := by rw [g0]; exact s4₀
  have t4n : gr M (gr M g₀ 0) 4 ≠ 0 := by omega
  have kw : kd M (gr M (gr M g₀ 0) 4) = 8 := by rw [t4₀]; exact tl.1.2.1.2.1.1
  have lw : ln M (gr M (gr M g₀ 0) 4) = 10 := by rw [t4₀]; exact tl.1.2.1.2.1.2
  have g3n : gr M g₀ 3 ≠ 0 := by omega
  have k3₀ : kd M (gr M g₀ 3) = 1 := by rw [g3₀]; exact ka
  have g4n : gr M g₀ 4 ≠ 0 := by omega
  have k4₀ : kd M (gr M g₀ 4) = 1 := by rw [g4]; exact kb
  have g5n : gr M g₀ 5 ≠ 0 := by omega
  have k5₀ : kd M (gr M g₀ 5) = 2 := by rw [g5₀]; exact kk
  have c1₀ := @cX5_checkSquare0 D l hl M g₀ t₀ r₀ c₀ G h₀
  have c2₀ := @cX4_cellAt D l hl M t₀ r₀ c₀ tl h₀.1 h₀.2 (nb r₀ c₀ h₀.1.1 h₀.1.2 h₀.2.1 h₀.2.2)
  have sm₀ := (mh_co_sm tl nb h₀.1 h₀.2).1
  have Q₀ : some (Sum.inl (gi M (mh_co M t₀ r₀ c₀) 1) : mg_V) = some (.inl (gi M (mh_co M t₀ r₀ c₀) 1)) ∧ M = M := ⟨rfl, rfl⟩
  clear G tl nb tbu clu ck cl₀
  refine hK₀ _ _ _ _ _ ?_
  (repeat' (((conv => whnf); first | (show (_ : Option mg_V) = _ ∧ _; assumption) | (show K _ _ _ _ _; assumption) | (show mm_th _ _ _ _; assumption) | refine And.intro (by first | assumption | omega | (simp only [true_and]; first | done | assumption | omega)) ?_ | (refine And.intro (fun _ => ?_) (fun _ => ?_) <;> first | (exfalso; omega) | skip) | intro _ | fail)))
  all_goals (try ((conv => whnf); (refine Exists.intro _ (Exists.intro _ (And.intro (c1₀) (And.intro ?_ (fun _ _ h₀ => h₀.elim)))); rintro _ _ ⟨rfl, e₀⟩; have e2₀ := e₀.symm; clear e₀; subst e2₀); (repeat' (((conv => whnf); first | (show (_ : Option mg_V) = _ ∧ _; assumption) | (show K _ _ _ _ _; assumption) | (show mm_th _ _ _ _; assumption) | refine And.intro (by first | assumption | omega | (simp only [true_and]; first | done | assumption | omega)) ?_ | (refine And.intro (fun _ => ?_) (fun _ => ?_) <;> first | (exfalso; omega) | skip) | intro _ | fail)))))
  all_goals ((conv => whnf); (try rw [g0]); (try rw [s5]); (try rw [s3₀]); (try rw [s4₀]); (try rw [g3₀]); (try rw [g4]); (try rw [g5₀]))
  (refine Exists.intro _ (Exists.intro _ (And.intro (c2₀) (And.intro ?_ (fun _ _ h₀ => h₀.elim)))); rintro _ _ ⟨rfl, e₀⟩; have e2₀ := e₀.symm; clear e₀; subst e2₀)
  (repeat' (((conv => whnf); first | (show (_ : Option mg_V) = _ ∧ _; assumption) | (show K _ _ _ _ _; assumption) | (show mm_th _ _ _ _; assumption) | refine And.intro (by first | assumption | omega | (simp only [true_and]; first | done | assumption | omega)) ?_ | (refine And.intro (fun _ => ?_) (fun _ => ?_) <;> first | (exfalso; omega) | skip) | intro _ | fail)))
set_option maxRecDepth 100000 in
theorem cX5_leftOf1 {D : mg_D} {l : Launch} (hl : l.stackTraces = false) {M : mg_M} {g₀ t₀ u₀ : Nat} {r₀ c₀ : Int} (K9 : mh_K M g₀ t₀ u₀) (h₀ : ¬ mh_rg (gi M t₀ 0) (gi M t₀ 1) r₀ c₀) : mg_Mt D l 82 [.inr (.inl g₀), .inl r₀, .inl c₀] M mh_nN (mh_tX 1 M) := by
  refine mg_of2 hl ok_X5_leftOf al_X5_leftOf rfl (fun K hK₀ => ?_)
  obtain ⟨⟨G, g1, g3₀, g4, g5₀⟩, ⟨ka, kb, kk, kg, ck⟩, pl, ⟨tl, nb⟩, ⟨tbu, clu⟩, rb⟩ := K9
  have k6₀ := G.1
  have g0 := G.2.1
  have kt := G.2.2.1
  have tn₀ := G.2.2.2
  have g0n : gr M g₀ 0 ≠ 0 := by omega
  have k0₀ : kd M (gr M g₀ 0) = 5 := by rw [g0]; exact kt
  have cl₀ := tl.2.1
  have bb := tl.1.2.2
  have s5 : gr M t₀ 5 = t₀ + 3 := tl.1.1.2.2.2.1
  have s3₀ : gr M t₀ 3 = t₀ + 1 := tl.1.1.2.1
  have s4₀ : gr M t₀ 4 = t₀ + 2 := tl.1.1.2.2.1
  have t5₀ : gr M (gr M g₀ 0) 5 = t₀ + 3 := by rw [g0]; exact s5
  have t5n : gr M (gr M g₀ 0) 5 ≠ 0 := by omega
  have kc₀ : kd M (gr M (gr M g₀ 0) 5) = 4 := by rw [t5₀]; exact cl₀.1
  have t3₀ : gr M (gr M g₀ 0) 3 = t₀ + 1 := by rw [g0]; exact s3₀
  have t3n : gr M (gr M g₀ 0) 3 ≠ 0 := by omega
  have kh : kd M (gr M (gr M g₀ 0) 3) = 8 := by rw [t3₀]; exact tl.1.2.1.1.1
  have lh : ln M (gr M (gr M g₀ 0) 3) = 12 := by rw [t3₀]; exact tl.1.2.1.1.2
  have t4₀ : gr M (gr M g₀ 0) 4 = t₀ + 2 := by rw [g0]; exact s4₀
  have t4n : gr M (gr M g₀ 0) 4 ≠ 0 := by omega
  have kw : kd M (gr M (gr M g₀ 0) 4) = 8 := by rw [t4₀]; exact tl.1.2.1.2.1.1
  have lw : ln M (gr M (gr M g₀ 0) 4) = 10 := by rw [t4₀]; exact tl.1.2.1.2.1.2
  have g3n : gr M g₀ 3 ≠ 0 := by omega
  have k3₀ : kd M (gr M g₀ 3) = 1 := by rw [g3₀]; exact ka
  have g4n : gr M g₀ 4 ≠ 0 := by omega
  have k4₀ : kd M (gr M g₀ 4) = 1 := by rw [g4]; exact kb
  have g5n : gr M g₀ 5 ≠ 0 := by omega
  have k5₀ : kd M (gr M g₀ 5) = 2 := by rw [g5₀]; exact kk
  have c1₀ := @cX5_checkSquare1 D l hl M g₀ t₀ r₀ c₀ G h₀
  clear G tl nb tbu clu ck cl₀
  refine hK₀ _ _ _ _ _ ?_
  (repeat' (((conv => whnf); first | (show (_ : Option mg_V) = _ ∧ _; assumption) | (show K _ _ _ _ _; assumption) | (show mm_th _ _ _ _; assumption) | refine And.intro (by first | assumption | omega | (simp only [true_and]; first | done | assumption | omega)) ?_ | (refine And.intro (fun _ => ?_) (fun _ => ?_) <;> first | (exfalso; omega) | skip) | intro _ | fail)))
  all_goals ((conv => whnf); skip)
  (refine Exists.intro _ (Exists.intro _ (And.intro (c1₀) (And.intro (fun _ _ h₀ => h₀.elim) ?_))); rintro _ _ ⟨rfl, n9, hn9, rfl⟩; (conv => whnf); first | exact ⟨rfl, n9, hn9, rfl⟩ | exact ⟨n9, hn9, rfl⟩)
set_option maxRecDepth 100000 in
theorem cX5_rowsOf0 {D : mg_D} {l : Launch} (hl : l.stackTraces = false) {M : mg_M} {g₀ t₀ u₀ : Nat} {r₀ c₀ : Int} (K9 : mh_K M g₀ t₀ u₀) (h₀ : mh_rg (gi M t₀ 0) (gi M t₀ 1) r₀ c₀) : mg_Mt D l 83 [.inr (.inl g₀), .inl r₀, .inl c₀] M (fun v₀ N => v₀ = some (.inl (gi M (mh_co M t₀ r₀ c₀) 2)) ∧ N = M) mg_no := by
  refine mg_of2 hl ok_X5_rowsOf al_X5_rowsOf rfl (fun K hK₀ => ?_)
  obtain ⟨⟨G, g1, g3₀, g4, g5₀⟩, ⟨ka, kb, kk, kg, ck⟩, pl, ⟨tl, nb⟩, ⟨tbu, clu⟩, rb⟩ := K9
  have k6₀ := G.1
  have g0 := G.2.1
  have kt := G.2.2.1
  have tn₀ := G.2.2.2
  have g0n : gr M g₀ 0 ≠ 0 := by omega
  have k0₀ : kd M (gr M g₀ 0) = 5 := by rw [g0]; exact kt
  have cl₀ := tl.2.1
  have bb := tl.1.2.2
  have s5 : gr M t₀ 5 = t₀ + 3 := tl.1.1.2.2.2.1
  have s3₀ : gr M t₀ 3 = t₀ + 1 := tl.1.1.2.1
  have s4₀ : gr M t₀ 4 = t₀ + 2 := tl.1.1.2.2.1
  have t5₀ : gr M (gr M g₀ 0) 5 = t₀ + 3 := by rw [g0]; exact s5
  have t5n : gr M (gr M g₀ 0) 5 ≠ 0 := by omega
  have kc₀ : kd M (gr M (gr M g₀ 0) 5) = 4 := by rw [t5₀]; exact cl₀.1
  have t3₀ : gr M (gr M g₀ 0) 3 = t₀ + 1 := by rw [g0]; exact s3₀
  have t3n : gr M (gr M g₀ 0) 3 ≠ 0 := by omega
  have kh : kd M (gr M (gr M g₀ 0) 3) = 8 := by rw [t3₀]; exact tl.1.2.1.1.1
  have lh : ln M (gr M (gr M g₀ 0) 3) = 12 := by rw [t3₀]; exact tl.1.2.1.1.2
  have t4₀ : gr M (gr M g₀ 0) 4 = t₀ + 2 := by rw [g0]; exact s4₀
  have t4n : gr M (gr M g₀ 0) 4 ≠ 0 := by omega
  have kw : kd M (gr M (gr M g₀ 0) 4) = 8 := by rw [t4₀]; exact tl.1.2.1.2.1.1
  have lw : ln M (gr M (gr M g₀ 0) 4) = 10 := by rw [t4₀]; exact tl.1.2.1.2.1.2
  have g3n : gr M g₀ 3 ≠ 0 := by omega
  have k3₀ : kd M (gr M g₀ 3) = 1 := by rw [g3₀]; exact ka
  have g4n : gr M g₀ 4 ≠ 0 := by omega
  have k4₀ : kd M (gr M g₀ 4) = 1 := by rw [g4]; exact kb
  have g5n : gr M g₀ 5 ≠ 0 := by omega
  have k5₀ : kd M (gr M g₀ 5) = 2 := by rw [g5₀]; exact kk
  have c1₀ := @cX5_checkSquare0 D l hl M g₀ t₀ r₀ c₀ G h₀
  have c2₀ := @cX4_cellAt D l hl M t₀ r₀ c₀ tl h₀.1 h₀.2 (nb r₀ c₀ h₀.1.1 h₀.1.2 h₀.2.1 h₀.2.2)
  have sm₀ := (mh_co_sm tl nb h₀.1 h₀.2).1
  have Q₀ : some (Sum.inl (gi M (mh_co M t₀ r₀ c₀) 2) : mg_V) = some (.inl (gi M (mh_co M t₀ r₀ c₀) 2)) ∧ M = M := ⟨rfl, rfl⟩
  clear G tl nb tbu clu ck cl₀
  refine hK₀ _ _ _ _ _ ?_
  (repeat' (((conv => whnf); first | (show (_ : Option mg_V) = _ ∧ _; assumption) | (show K _ _ _ _ _; assumption) | (show mm_th _ _ _ _; assumption) | refine And.intro (by first | assumption | omega | (simp only [true_and]; first | done | assumption | omega)) ?_ | (refine And.intro (fun _ => ?_) (fun _ => ?_) <;> first | (exfalso; omega) | skip) | intro _ | fail)))
  all_goals (try ((conv => whnf); (refine Exists.intro _ (Exists.intro _ (And.intro (c1₀) (And.intro ?_ (fun _ _ h₀ => h₀.elim)))); rintro _ _ ⟨rfl, e₀⟩; have e2₀ := e₀.symm; clear e₀; subst e2₀); (repeat' (((conv => whnf); first | (show (_ : Option mg_V) = _ ∧ _; assumption) | (show K _ _ _ _ _; assumption) | (show mm_th _ _ _ _; assumption) | refine And.intro (by first | assumption | omega | (simp only [true_and]; first | done | assumption | omega)) ?_ | (refine And.intro (fun _ => ?_) (fun _ => ?_) <;> first | (exfalso; omega) | skip) | intro _ | fail)))))
  all_goals ((conv => whnf); (try rw [g0]); (try rw [s5]); (try rw [s3₀]); (try rw [s4₀]); (try rw [g3₀]); (try rw [g4]); (try rw [g5₀]))
  (refine Exists.intro _ (Exists.intro _ (And.intro (c2₀) (And.intro ?_ (fun _ _ h₀ => h₀.elim)))); rintro _ _ ⟨rfl, e₀⟩; have e2₀ := e₀.symm; clear e₀; subst e2₀)
  (repeat' (((conv => whnf); first | (show (_ : Option mg_V) = _ ∧ _; assumption) | (show K _ _ _ _ _; assumption) | (show mm_th _ _ _ _; assumption) | refine And.intro (by first | assumption | omega | (simp only [true_and]; first | done | assumption | omega)) ?_ | (refine And.intro (fun _ => ?_) (fun _ => ?_) <;> first | (exfalso; omega) | skip) | intro _ | fail)))
set_option maxRecDepth 100000 in
theorem cX5_rowsOf1 {D : mg_D} {l : Launch} (hl : l.stackTraces = false) {M : mg_M} {g₀ t₀ u₀ : Nat} {r₀ c₀ : Int} (K9 : mh_K M g₀ t₀ u₀) (h₀ : ¬ mh_rg (gi M t₀ 0) (gi M t₀ 1) r₀ c₀) : mg_Mt D l 83 [.inr (.inl g₀), .inl r₀, .inl c₀] M mh_nN (mh_tX 1 M) := by
  refine mg_of2 hl ok_X5_rowsOf al_X5_rowsOf rfl (fun K hK₀ => ?_)
  obtain ⟨⟨G, g1, g3₀, g4, g5₀⟩, ⟨ka, kb, kk, kg, ck⟩, pl, ⟨tl, nb⟩, ⟨tbu, clu⟩, rb⟩ := K9
  have k6₀ := G.1
  have g0 := G.2.1
  have kt := G.2.2.1
  have tn₀ := G.2.2.2
  have g0n : gr M g₀ 0 ≠ 0 := by omega
  have k0₀ : kd M (gr M g₀ 0) = 5 := by rw [g0]; exact kt
  have cl₀ := tl.2.1
  have bb := tl.1.2.2
  have s5 : gr M t₀ 5 = t₀ + 3 := tl.1.1.2.2.2.1
  have s3₀ : gr M t₀ 3 = t₀ + 1 := tl.1.1.2.1
  have s4₀ : gr M t₀ 4 = t₀ + 2 := tl.1.1.2.2.1
  have t5₀ : gr M (gr M g₀ 0) 5 = t₀ + 3 := by rw [g0]; exact s5
  have t5n : gr M (gr M g₀ 0) 5 ≠ 0 := by omega
  have kc₀ : kd M (gr M (gr M g₀ 0) 5) = 4 := by rw [t5₀]; exact cl₀.1
  have t3₀ : gr M (gr M g₀ 0) 3 = t₀ + 1 := by rw [g0]; exact s3₀
  have t3n : gr M (gr M g₀ 0) 3 ≠ 0 := by omega
  have kh : kd M (gr M (gr M g₀ 0) 3) = 8 := by rw [t3₀]; exact tl.1.2.1.1.1
  have lh : ln M (gr M (gr M g₀ 0) 3) = 12 := by rw [t3₀]; exact tl.1.2.1.1.2
  have t4₀ : gr M (gr M g₀ 0) 4 = t₀ + 2 := by rw [g0]; exact s4₀
  have t4n : gr M (gr M g₀ 0) 4 ≠ 0 := by omega
  have kw : kd M (gr M (gr M g₀ 0) 4) = 8 := by rw [t4₀]; exact tl.1.2.1.2.1.1
  have lw : ln M (gr M (gr M g₀ 0) 4) = 10 := by rw [t4₀]; exact tl.1.2.1.2.1.2
  have g3n : gr M g₀ 3 ≠ 0 := by omega
  have k3₀ : kd M (gr M g₀ 3) = 1 := by rw [g3₀]; exact ka
  have g4n : gr M g₀ 4 ≠ 0 := by omega
  have k4₀ : kd M (gr M g₀ 4) = 1 := by rw [g4]; exact kb
  have g5n : gr M g₀ 5 ≠ 0 := by omega
  have k5₀ : kd M (gr M g₀ 5) = 2 := by rw [g5₀]; exact kk
  have c1₀ := @cX5_checkSquare1 D l hl M g₀ t₀ r₀ c₀ G h₀
  clear G tl nb tbu clu ck cl₀
  refine hK₀ _ _ _ _ _ ?_
  (repeat' (((conv => whnf); first | (show (_ : Option mg_V) = _ ∧ _; assumption) | (show K _ _ _ _ _; assumption) | (show mm_th _ _ _ _; assumption) | refine And.intro (by first | assumption | omega | (simp only [true_and]; first | done | assumption | omega)) ?_ | (refine And.intro (fun _ => ?_) (fun _ => ?_) <;> first | (exfalso; omega) | skip) | intro _ | fail)))
  all_goals ((conv => whnf); skip)
  (refine Exists.intro _ (Exists.intro _ (And.intro (c1₀) (And.intro (fun _ _ h₀ => h₀.elim) ?_))); rintro _ _ ⟨rfl, n9, hn9, rfl⟩; (conv => whnf); first | exact ⟨rfl, n9, hn9, rfl⟩ | exact ⟨n9, hn9, rfl⟩)
set_option maxRecDepth 100000 in
theorem cX5_columnsOf0 {D : mg_D} {l : Launch} (hl : l.stackTraces = false) {M : mg_M} {g₀ t₀ u₀ : Nat} {r₀ c₀ : Int} (K9 : mh_K M g₀ t₀ u₀) (h₀ : mh_rg (gi M t₀ 0) (gi M t₀ 1) r₀ c₀) : mg_Mt D l 84 [.inr (.inl g₀), .inl r₀, .inl c₀] M (fun v₀ N => v₀ = some (.inl (gi M (mh_co M t₀ r₀ c₀) 3)) ∧ N = M) mg_no := by
  refine mg_of2 hl ok_X5_columnsOf al_X5_columnsOf rfl (fun K hK₀ => ?_)
  obtain ⟨⟨G, g1, g3₀, g4, g5₀⟩, ⟨ka, kb, kk, kg, ck⟩, pl, ⟨tl, nb⟩, ⟨tbu, clu⟩, rb⟩ := K9
  have k6₀ := G.1
  have g0 := G.2.1
  have kt := G.2.2.1
  have tn₀ := G.2.2.2
  have g0n : gr M g₀ 0 ≠ 0 := by omega
  have k0₀ : kd M (gr M g₀ 0) = 5 := by rw [g0]; exact kt
  have cl₀ := tl.2.1
  have bb := tl.1.2.2
  have s5 : gr M t₀ 5 = t₀ + 3 := tl.1.1.2.2.2.1
  have s3₀ : gr M t₀ 3 = t₀ + 1 := tl.1.1.2.1
  have s4₀ : gr M t₀ 4 = t₀ + 2 := tl.1.1.2.2.1
  have t5₀ : gr M (gr M g₀ 0) 5 = t₀ + 3 := by rw [g0]; exact s5
  have t5n : gr M (gr M g₀ 0) 5 ≠ 0 := by omega
  have kc₀ : kd M (gr M (gr M g₀ 0) 5) = 4 := by rw [t5₀]; exact cl₀.1
  have t3₀ : gr M (gr M g₀ 0) 3 = t₀ + 1 := by rw [g0]; exact s3₀
  have t3n : gr M (gr M g₀ 0) 3 ≠ 0 := by omega
  have kh : kd M (gr M (gr M g₀ 0) 3) = 8 := by rw [t3₀]; exact tl.1.2.1.1.1
  have lh : ln M (gr M (gr M g₀ 0) 3) = 12 := by rw [t3₀]; exact tl.1.2.1.1.2
  have t4₀ : gr M (gr M g₀ 0) 4 = t₀ + 2 := by rw [g0]; exact s4₀
  have t4n : gr M (gr M g₀ 0) 4 ≠ 0 := by omega
  have kw : kd M (gr M (gr M g₀ 0) 4) = 8 := by rw [t4₀]; exact tl.1.2.1.2.1.1
  have lw : ln M (gr M (gr M g₀ 0) 4) = 10 := by rw [t4₀]; exact tl.1.2.1.2.1.2
  have g3n : gr M g₀ 3 ≠ 0 := by omega
  have k3₀ : kd M (gr M g₀ 3) = 1 := by rw [g3₀]; exact ka
  have g4n : gr M g₀ 4 ≠ 0 := by omega
  have k4₀ : kd M (gr M g₀ 4) = 1 := by rw [g4]; exact kb
  have g5n : gr M g₀ 5 ≠ 0 := by omega
  have k5₀ : kd M (gr M g₀ 5) = 2 := by rw [g5₀]; exact kk
  have c1₀ := @cX5_checkSquare0 D l hl M g₀ t₀ r₀ c₀ G h₀
  have c2₀ := @cX4_cellAt D l hl M t₀ r₀ c₀ tl h₀.1 h₀.2 (nb r₀ c₀ h₀.1.1 h₀.1.2 h₀.2.1 h₀.2.2)
  have sm₀ := (mh_co_sm tl nb h₀.1 h₀.2).1
  have Q₀ : some (Sum.inl (gi M (mh_co M t₀ r₀ c₀) 3) : mg_V) = some (.inl (gi M (mh_co M t₀ r₀ c₀) 3)) ∧ M = M := ⟨rfl, rfl⟩
  clear G tl nb tbu clu ck cl₀
  refine hK₀ _ _ _ _ _ ?_
  (repeat' (((conv => whnf); first | (show (_ : Option mg_V) = _ ∧ _; assumption) | (show K _ _ _ _ _; assumption) | (show mm_th _ _ _ _; assumption) | refine And.intro (by first | assumption | omega | (simp only [true_and]; first | done | assumption | omega)) ?_ | (refine And.intro (fun _ => ?_) (fun _ => ?_) <;> first | (exfalso; omega) | skip) | intro _ | fail)))
  all_goals (try ((conv => whnf); (refine Exists.intro _ (Exists.intro _ (And.intro (c1₀) (And.intro ?_ (fun _ _ h₀ => h₀.elim)))); rintro _ _ ⟨rfl, e₀⟩; have e2₀ := e₀.symm; clear e₀; subst e2₀); (repeat' (((conv => whnf); first | (show (_ : Option mg_V) = _ ∧ _; assumption) | (show K _ _ _ _ _; assumption) | (show mm_th _ _ _ _; assumption) | refine And.intro (by first | assumption | omega | (simp only [true_and]; first | done | assumption | omega)) ?_ | (refine And.intro (fun _ => ?_) (fun _ => ?_) <;> first | (exfalso; omega) | skip) | intro _ | fail)))))
  all_goals ((conv => whnf); (try rw [g0]); (try rw [s5]); (try rw [s3₀]); (try rw [s4₀]); (try rw [g3₀]); (try rw [g4]); (try rw [g5₀]))
  (refine Exists.intro _ (Exists.intro _ (And.intro (c2₀) (And.intro ?_ (fun _ _ h₀ => h₀.elim)))); rintro _ _ ⟨rfl, e₀⟩; have e2₀ := e₀.symm; clear e₀; subst e2₀)
  (repeat' (((conv => whnf); first | (show (_ : Option mg_V) = _ ∧ _; assumption) | (show K _ _ _ _ _; assumption) | (show mm_th _ _ _ _; assumption) | refine And.intro (by first | assumption | omega | (simp only [true_and]; first | done | assumption | omega)) ?_ | (refine And.intro (fun _ => ?_) (fun _ => ?_) <;> first | (exfalso; omega) | skip) | intro _ | fail)))
set_option maxRecDepth 100000 in
theorem cX5_columnsOf1 {D : mg_D} {l : Launch} (hl : l.stackTraces = false) {M : mg_M} {g₀ t₀ u₀ : Nat} {r₀ c₀ : Int} (K9 : mh_K M g₀ t₀ u₀) (h₀ : ¬ mh_rg (gi M t₀ 0) (gi M t₀ 1) r₀ c₀) : mg_Mt D l 84 [.inr (.inl g₀), .inl r₀, .inl c₀] M mh_nN (mh_tX 1 M) := by
  refine mg_of2 hl ok_X5_columnsOf al_X5_columnsOf rfl (fun K hK₀ => ?_)
  obtain ⟨⟨G, g1, g3₀, g4, g5₀⟩, ⟨ka, kb, kk, kg, ck⟩, pl, ⟨tl, nb⟩, ⟨tbu, clu⟩, rb⟩ := K9
  have k6₀ := G.1
  have g0 := G.2.1
  have kt := G.2.2.1
  have tn₀ := G.2.2.2
  have g0n : gr M g₀ 0 ≠ 0 := by omega
  have k0₀ : kd M (gr M g₀ 0) = 5 := by rw [g0]; exact kt
  have cl₀ := tl.2.1
  have bb := tl.1.2.2
  have s5 : gr M t₀ 5 = t₀ + 3 := tl.1.1.2.2.2.1
  have s3₀ : gr M t₀ 3 = t₀ + 1 := tl.1.1.2.1
  have s4₀ : gr M t₀ 4 = t₀ + 2 := tl.1.1.2.2.1
  have t5₀ : gr M (gr M g₀ 0) 5 = t₀ + 3 := by rw [g0]; exact s5
  have t5n : gr M (gr M g₀ 0) 5 ≠ 0 := by omega
  have kc₀ : kd M (gr M (gr M g₀ 0) 5) = 4 := by rw [t5₀]; exact cl₀.1
  have t3₀ : gr M (gr M g₀ 0) 3 = t₀ + 1 := by rw [g0]; exact s3₀
  have t3n : gr M (gr M g₀ 0) 3 ≠ 0 := by omega
  have kh : kd M (gr M (gr M g₀ 0) 3) = 8 := by rw [t3₀]; exact tl.1.2.1.1.1
  have lh : ln M (gr M (gr M g₀ 0) 3) = 12 := by rw [t3₀]; exact tl.1.2.1.1.2
  have t4₀ : gr M (gr M g₀ 0) 4 = t₀ + 2 := by rw [g0]; exact s4₀
  have t4n : gr M (gr M g₀ 0) 4 ≠ 0 := by omega
  have kw : kd M (gr M (gr M g₀ 0) 4) = 8 := by rw [t4₀]; exact tl.1.2.1.2.1.1
  have lw : ln M (gr M (gr M g₀ 0) 4) = 10 := by rw [t4₀]; exact tl.1.2.1.2.1.2
  have g3n : gr M g₀ 3 ≠ 0 := by omega
  have k3₀ : kd M (gr M g₀ 3) = 1 := by rw [g3₀]; exact ka
  have g4n : gr M g₀ 4 ≠ 0 := by omega
  have k4₀ : kd M (gr M g₀ 4) = 1 := by rw [g4]; exact kb
  have g5n : gr M g₀ 5 ≠ 0 := by omega
  have k5₀ : kd M (gr M g₀ 5) = 2 := by rw [g5₀]; exact kk
  have c1₀ := @cX5_checkSquare1 D l hl M g₀ t₀ r₀ c₀ G h₀
  clear G tl nb tbu clu ck cl₀
  refine hK₀ _ _ _ _ _ ?_
  (repeat' (((conv => whnf); first | (show (_ : Option mg_V) = _ ∧ _; assumption) | (show K _ _ _ _ _; assumption) | (show mm_th _ _ _ _; assumption) | refine And.intro (by first | assumption | omega | (simp only [true_and]; first | done | assumption | omega)) ?_ | (refine And.intro (fun _ => ?_) (fun _ => ?_) <;> first | (exfalso; omega) | skip) | intro _ | fail)))
  all_goals ((conv => whnf); skip)
  (refine Exists.intro _ (Exists.intro _ (And.intro (c1₀) (And.intro (fun _ _ h₀ => h₀.elim) ?_))); rintro _ _ ⟨rfl, n9, hn9, rfl⟩; (conv => whnf); first | exact ⟨rfl, n9, hn9, rfl⟩ | exact ⟨n9, hn9, rfl⟩)
set_option maxRecDepth 100000 in
theorem cX5_contentAt0 {D : mg_D} {l : Launch} (hl : l.stackTraces = false) {M : mg_M} {g₀ t₀ u₀ : Nat} {r₀ c₀ : Int} (K9 : mh_K M g₀ t₀ u₀) (h₀ : mh_rg (gi M t₀ 0) (gi M t₀ 1) r₀ c₀) : mg_Mt D l 85 [.inr (.inl g₀), .inl r₀, .inl c₀] M (fun v₀ N => v₀ = some (.inl (gi M (mh_co M t₀ r₀ c₀) 4)) ∧ N = M) mg_no := by
  refine mg_of2 hl ok_X5_contentAt al_X5_contentAt rfl (fun K hK₀ => ?_)
  obtain ⟨⟨G, g1, g3₀, g4, g5₀⟩, ⟨ka, kb, kk, kg, ck⟩, pl, ⟨tl, nb⟩, ⟨tbu, clu⟩, rb⟩ := K9
  have k6₀ := G.1
  have g0 := G.2.1
  have kt := G.2.2.1
  have tn₀ := G.2.2.2
  have g0n : gr M g₀ 0 ≠ 0 := by omega
  have k0₀ : kd M (gr M g₀ 0) = 5 := by rw [g0]; exact kt
  have cl₀ := tl.2.1
  have bb := tl.1.2.2
  have s5 : gr M t₀ 5 = t₀ + 3 := tl.1.1.2.2.2.1
  have s3₀ : gr M t₀ 3 = t₀ + 1 := tl.1.1.2.1
  have s4₀ : gr M t₀ 4 = t₀ + 2 := tl.1.1.2.2.1
  have t5₀ : gr M (gr M g₀ 0) 5 = t₀ + 3 := by rw [g0]; exact s5
  have t5n : gr M (gr M g₀ 0) 5 ≠ 0 := by omega
  have kc₀ : kd M (gr M (gr M g₀ 0) 5) = 4 := by rw [t5₀]; exact cl₀.1
  have t3₀ : gr M (gr M g₀ 0) 3 = t₀ + 1 := by rw [g0]; exact s3₀
  have t3n : gr M (gr M g₀ 0) 3 ≠ 0 := by omega
  have kh : kd M (gr M (gr M g₀ 0) 3) = 8 := by rw [t3₀]; exact tl.1.2.1.1.1
  have lh : ln M (gr M (gr M g₀ 0) 3) = 12 := by rw [t3₀]; exact tl.1.2.1.1.2
  have t4₀ : gr M (gr M g₀ 0) 4 = t₀ + 2 := by rw [g0]; exact s4₀
  have t4n : gr M (gr M g₀ 0) 4 ≠ 0 := by omega
  have kw : kd M (gr M (gr M g₀ 0) 4) = 8 := by rw [t4₀]; exact tl.1.2.1.2.1.1
  have lw : ln M (gr M (gr M g₀ 0) 4) = 10 := by rw [t4₀]; exact tl.1.2.1.2.1.2
  have g3n : gr M g₀ 3 ≠ 0 := by omega
  have k3₀ : kd M (gr M g₀ 3) = 1 := by rw [g3₀]; exact ka
  have g4n : gr M g₀ 4 ≠ 0 := by omega
  have k4₀ : kd M (gr M g₀ 4) = 1 := by rw [g4]; exact kb
  have g5n : gr M g₀ 5 ≠ 0 := by omega
  have k5₀ : kd M (gr M g₀ 5) = 2 := by rw [g5₀]; exact kk
  have c1₀ := @cX5_checkSquare0 D l hl M g₀ t₀ r₀ c₀ G h₀
  have c2₀ := @cX4_cellAt D l hl M t₀ r₀ c₀ tl h₀.1 h₀.2 (nb r₀ c₀ h₀.1.1 h₀.1.2 h₀.2.1 h₀.2.2)
  have sm₀ := (mh_co_sm tl nb h₀.1 h₀.2).1
  have Q₀ : some (Sum.inl (gi M (mh_co M t₀ r₀ c₀) 4) : mg_V) = some (.inl (gi M (mh_co M t₀ r₀ c₀) 4)) ∧ M = M := ⟨rfl, rfl⟩
  clear G tl nb tbu clu ck cl₀
  refine hK₀ _ _ _ _ _ ?_
  (repeat' (((conv => whnf); first | (show (_ : Option mg_V) = _ ∧ _; assumption) | (show K _ _ _ _ _; assumption) | (show mm_th _ _ _ _; assumption) | refine And.intro (by first | assumption | omega | (simp only [true_and]; first | done | assumption | omega)) ?_ | (refine And.intro (fun _ => ?_) (fun _ => ?_) <;> first | (exfalso; omega) | skip) | intro _ | fail)))
  all_goals (try ((conv => whnf); (refine Exists.intro _ (Exists.intro _ (And.intro (c1₀) (And.intro ?_ (fun _ _ h₀ => h₀.elim)))); rintro _ _ ⟨rfl, e₀⟩; have e2₀ := e₀.symm; clear e₀; subst e2₀); (repeat' (((conv => whnf); first | (show (_ : Option mg_V) = _ ∧ _; assumption) | (show K _ _ _ _ _; assumption) | (show mm_th _ _ _ _; assumption) | refine And.intro (by first | assumption | omega | (simp only [true_and]; first | done | assumption | omega)) ?_ | (refine And.intro (fun _ => ?_) (fun _ => ?_) <;> first | (exfalso; omega) | skip) | intro _ | fail)))))
  all_goals ((conv => whnf); (try rw [g0]); (try rw [s5]); (try rw [s3₀]); (try rw [s4₀]); (try rw [g3₀]); (try rw [g4]); (try rw [g5₀]))
  (refine Exists.intro _ (Exists.intro _ (And.intro (c2₀) (And.intro ?_ (fun _ _ h₀ => h₀.elim)))); rintro _ _ ⟨rfl, e₀⟩; have e2₀ := e₀.symm; clear e₀; subst e2₀)
  (repeat' (((conv => whnf); first | (show (_ : Option mg_V) = _ ∧ _; assumption) | (show K _ _ _ _ _; assumption) | (show mm_th _ _ _ _; assumption) | refine And.intro (by first | assumption | omega | (simp only [true_and]; first | done | assumption | omega)) ?_ | (refine And.intro (fun _ => ?_) (fun _ => ?_) <;> first | (exfalso; omega) | skip) | intro _ | fail)))
set_option maxRecDepth 100000 in
theorem cX5_contentAt1 {D : mg_D} {l : Launch} (hl : l.stackTraces = false) {M : mg_M} {g₀ t₀ u₀ : Nat} {r₀ c₀ : Int} (K9 : mh_K M g₀ t₀ u₀) (h₀ : ¬ mh_rg (gi M t₀ 0) (gi M t₀ 1) r₀ c₀) : mg_Mt D l 85 [.inr (.inl g₀), .inl r₀, .inl c₀] M mh_nN (mh_tX 1 M) := by
  refine mg_of2 hl ok_X5_contentAt al_X5_contentAt rfl (fun K hK₀ => ?_)
  obtain ⟨⟨G, g1, g3₀, g4, g5₀⟩, ⟨ka, kb, kk, kg, ck⟩, pl, ⟨tl, nb⟩, ⟨tbu, clu⟩, rb⟩ := K9
  have k6₀ := G.1
  have g0 := G.2.1
  have kt := G.2.2.1
  have tn₀ := G.2.2.2
  have g0n : gr M g₀ 0 ≠ 0 := by omega
  have k0₀ : kd M (gr M g₀ 0) = 5 := by rw [g0]; exact kt
  have cl₀ := tl.2.1
  have bb := tl.1.2.2
  have s5 : gr M t₀ 5 = t₀ + 3 := tl.1.1.2.2.2.1
  have s3₀ : gr M t₀ 3 = t₀ + 1 := tl.1.1.2.1
  have s4₀ : gr M t₀ 4 = t₀ + 2 := tl.1.1.2.2.1
  have t5₀ : gr M (gr M g₀ 0) 5 = t₀ + 3 := by rw [g0]; exact s5
  have t5n : gr M (gr M g₀ 0) 5 ≠ 0 := by omega
  have kc₀ : kd M (gr M (gr M g₀ 0) 5) = 4 := by rw [t5₀]; exact cl₀.1
  have t3₀ : gr M (gr M g₀ 0) 3 = t₀ + 1 := by rw [g0]; exact s3₀
  have t3n : gr M (gr M g₀ 0) 3 ≠ 0 := by omega
  have kh : kd M (gr M (gr M g₀ 0) 3) = 8 := by rw [t3₀]; exact tl.1.2.1.1.1
  have lh : ln M (gr M (gr M g₀ 0) 3) = 12 := by rw [t3₀]; exact tl.1.2.1.1.2
  have t4₀ : gr M (gr M g₀ 0) 4 = t₀ + 2 := by rw [g0]; exact s4₀
  have t4n : gr M (gr M g₀ 0) 4 ≠ 0 := by omega
  have kw : kd M (gr M (gr M g₀ 0) 4) = 8 := by rw [t4₀]; exact tl.1.2.1.2.1.1
  have lw : ln M (gr M (gr M g₀ 0) 4) = 10 := by rw [t4₀]; exact tl.1.2.1.2.1.2
  have g3n : gr M g₀ 3 ≠ 0 := by omega
  have k3₀ : kd M (gr M g₀ 3) = 1 := by rw [g3₀]; exact ka
  have g4n : gr M g₀ 4 ≠ 0 := by omega
  have k4₀ : kd M (gr M g₀ 4) = 1 := by rw [g4]; exact kb
  have g5n : gr M g₀ 5 ≠ 0 := by omega
  have k5₀ : kd M (gr M g₀ 5) = 2 := by rw [g5₀]; exact kk
  have c1₀ := @cX5_checkSquare1 D l hl M g₀ t₀ r₀ c₀ G h₀
  clear G tl nb tbu clu ck cl₀
  refine hK₀ _ _ _ _ _ ?_
  (repeat' (((conv => whnf); first | (show (_ : Option mg_V) = _ ∧ _; assumption) | (show K _ _ _ _ _; assumption) | (show mm_th _ _ _ _; assumption) | refine And.intro (by first | assumption | omega | (simp only [true_and]; first | done | assumption | omega)) ?_ | (refine And.intro (fun _ => ?_) (fun _ => ?_) <;> first | (exfalso; omega) | skip) | intro _ | fail)))
  all_goals ((conv => whnf); skip)
  (refine Exists.intro _ (Exists.intro _ (And.intro (c1₀) (And.intro (fun _ _ h₀ => h₀.elim) ?_))); rintro _ _ ⟨rfl, n9, hn9, rfl⟩; (conv => whnf); first | exact ⟨rfl, n9, hn9, rfl⟩ | exact ⟨n9, hn9, rfl⟩)
set_option maxRecDepth 100000 in
theorem cX5_styleAt0 {D : mg_D} {l : Launch} (hl : l.stackTraces = false) {M : mg_M} {g₀ t₀ u₀ : Nat} {r₀ c₀ : Int} (K9 : mh_K M g₀ t₀ u₀) (h₀ : mh_rg (gi M t₀ 0) (gi M t₀ 1) r₀ c₀) : mg_Mt D l 86 [.inr (.inl g₀), .inl r₀, .inl c₀] M (fun v₀ N => v₀ = some (.inl (gi M (mh_co M t₀ r₀ c₀) 5)) ∧ N = M) mg_no := by
  refine mg_of2 hl ok_X5_styleAt al_X5_styleAt rfl (fun K hK₀ => ?_)
  obtain ⟨⟨G, g1, g3₀, g4, g5₀⟩, ⟨ka, kb, kk, kg, ck⟩, pl, ⟨tl, nb⟩, ⟨tbu, clu⟩, rb⟩ := K9
  have k6₀ := G.1
  have g0 := G.2.1
  have kt := G.2.2.1
  have tn₀ := G.2.2.2
  have g0n : gr M g₀ 0 ≠ 0 := by omega
  have k0₀ : kd M (gr M g₀ 0) = 5 := by rw [g0]; exact kt
  have cl₀ := tl.2.1
  have bb := tl.1.2.2
  have s5 : gr M t₀ 5 = t₀ + 3 := tl.1.1.2.2.2.1
  have s3₀ : gr M t₀ 3 = t₀ + 1 := tl.1.1.2.1
  have s4₀ : gr M t₀ 4 = t₀ + 2 := tl.1.1.2.2.1
  have t5₀ : gr M (gr M g₀ 0) 5 = t₀ + 3 := by rw [g0]; exact s5
  have t5n : gr M (gr M g₀ 0) 5 ≠ 0 := by omega
  have kc₀ : kd M (gr M (gr M g₀ 0) 5) = 4 := by rw [t5₀]; exact cl₀.1
  have t3₀ : gr M (gr M g₀ 0) 3 = t₀ + 1 := by rw [g0]; exact s3₀
  have t3n : gr M (gr M g₀ 0) 3 ≠ 0 := by omega
  have kh : kd M (gr M (gr M g₀ 0) 3) = 8 := by rw [t3₀]; exact tl.1.2.1.1.1
  have lh : ln M (gr M (gr M g₀ 0) 3) = 12 := by rw [t3₀]; exact tl.1.2.1.1.2
  have t4₀ : gr M (gr M g₀ 0) 4 = t₀ + 2 := by rw [g0]; exact s4₀
  have t4n : gr M (gr M g₀ 0) 4 ≠ 0 := by omega
  have kw : kd M (gr M (gr M g₀ 0) 4) = 8 := by rw [t4₀]; exact tl.1.2.1.2.1.1
  have lw : ln M (gr M (gr M g₀ 0) 4) = 10 := by rw [t4₀]; exact tl.1.2.1.2.1.2
  have g3n : gr M g₀ 3 ≠ 0 := by omega
  have k3₀ : kd M (gr M g₀ 3) = 1 := by rw [g3₀]; exact ka
  have g4n : gr M g₀ 4 ≠ 0 := by omega
  have k4₀ : kd M (gr M g₀ 4) = 1 := by rw [g4]; exact kb
  have g5n : gr M g₀ 5 ≠ 0 := by omega
  have k5₀ : kd M (gr M g₀ 5) = 2 := by rw [g5₀]; exact kk
  have c1₀ := @cX5_checkSquare0 D l hl M g₀ t₀ r₀ c₀ G h₀
  have c2₀ := @cX4_cellAt D l hl M t₀ r₀ c₀ tl h₀.1 h₀.2 (nb r₀ c₀ h₀.1.1 h₀.1.2 h₀.2.1 h₀.2.2)
  have sm₀ := (mh_co_sm tl nb h₀.1 h₀.2).1
  have Q₀ : some (Sum.inl (gi M (mh_co M t₀ r₀ c₀) 5) : mg_V) = some (.inl (gi M (mh_co M t₀ r₀ c₀) 5)) ∧ M = M := ⟨rfl, rfl⟩
  clear G tl nb tbu clu ck cl₀
  refine hK₀ _ _ _ _ _ ?_
  (repeat' (((conv => whnf); first | (show (_ : Option mg_V) = _ ∧ _; assumption) | (show K _ _ _ _ _; assumption) | (show mm_th _ _ _ _; assumption) | refine And.intro (by first | assumption | omega | (simp only [true_and]; first | done | assumption | omega)) ?_ | (refine And.intro (fun _ => ?_) (fun _ => ?_) <;> first | (exfalso; omega) | skip) | intro _ | fail)))
  all_goals (try ((conv => whnf); (refine Exists.intro _ (Exists.intro _ (And.intro (c1₀) (And.intro ?_ (fun _ _ h₀ => h₀.elim)))); rintro _ _ ⟨rfl, e₀⟩; have e2₀ := e₀.symm; clear e₀; subst e2₀); (repeat' (((conv => whnf); first | (show (_ : Option mg_V) = _ ∧ _; assumption) | (show K _ _ _ _ _; assumption) | (show mm_th _ _ _ _; assumption) | refine And.intro (by first | assumption | omega | (simp only [true_and]; first | done | assumption | omega)) ?_ | (refine And.intro (fun _ => ?_) (fun _ => ?_) <;> first | (exfalso; omega) | skip) | intro _ | fail)))))
  all_goals ((conv => whnf); (try rw [g0]); (try rw [s5]); (try rw [s3₀]); (try rw [s4₀]); (try rw [g3₀]); (try rw [g4]); (try rw [g5₀]))
  (refine Exists.intro _ (Exists.intro _ (And.intro (c2₀) (And.intro ?_ (fun _ _ h₀ => h₀.elim)))); rintro _ _ ⟨rfl, e₀⟩; have e2₀ := e₀.symm; clear e₀; subst e2₀)
  (repeat' (((conv => whnf); first | (show (_ : Option mg_V) = _ ∧ _; assumption) | (show K _ _ _ _ _; assumption) | (show mm_th _ _ _ _; assumption) | refine And.intro (by first | assumption | omega | (simp only [true_and]; first | done | assumption | omega)) ?_ | (refine And.intro (fun _ => ?_) (fun _ => ?_) <;> first | (exfalso; omega) | skip) | intro _ | fail)))
set_option maxRecDepth 100000 in
theorem cX5_styleAt1 {D : mg_D} {l : Launch} (hl : l.stackTraces = false) {M : mg_M} {g₀ t₀ u₀ : Nat} {r₀ c₀ : Int} (K9 : mh_K M g₀ t₀ u₀) (h₀ : ¬ mh_rg (gi M t₀ 0) (gi M t₀ 1) r₀ c₀) : mg_Mt D l 86 [.inr (.inl g₀), .inl r₀, .inl c₀] M mh_nN (mh_tX 1 M) := by
  refine mg_of2 hl ok_X5_styleAt al_X5_styleAt rfl (fun K hK₀ => ?_)
  obtain ⟨⟨G, g1, g3₀, g4, g5₀⟩, ⟨ka, kb, kk, kg, ck⟩, pl, ⟨tl, nb⟩, ⟨tbu, clu⟩, rb⟩ := K9
  have k6₀ := G.1
  have g0 := G.2.1
  have kt := G.2.2.1
  have tn₀ := G.2.2.2
  have g0n : gr M g₀ 0 ≠ 0 := by omega
  have k0₀ : kd M (gr M g₀ 0) = 5 := by rw [g0]; exact kt
  have cl₀ := tl.2.1
  have bb := tl.1.2.2
  have s5 : gr M t₀ 5 = t₀ + 3 := tl.1.1.2.2.2.1
  have s3₀ : gr M t₀ 3 = t₀ + 1 := tl.1.1.2.1
  have s4₀ : gr M t₀ 4 = t₀ + 2 := tl.1.1.2.2.1
  have t5₀ : gr M (gr M g₀ 0) 5 = t₀ + 3 := by rw [g0]; exact s5
  have t5n : gr M (gr M g₀ 0) 5 ≠ 0 := by omega
  have kc₀ : kd M (gr M (gr M g₀ 0) 5) = 4 := by rw [t5₀]; exact cl₀.1
  have t3₀ : gr M (gr M g₀ 0) 3 = t₀ + 1 := by rw [g0]; exact s3₀
  have t3n : gr M (gr M g₀ 0) 3 ≠ 0 := by omega
  have kh : kd M (gr M (gr M g₀ 0) 3) = 8 := by rw [t3₀]; exact tl.1.2.1.1.1
  have lh : ln M (gr M (gr M g₀ 0) 3) = 12 := by rw [t3₀]; exact tl.1.2.1.1.2
  have t4₀ : gr M (gr M g₀ 0) 4 = t₀ + 2 := by rw [g0]; exact s4₀
  have t4n : gr M (gr M g₀ 0) 4 ≠ 0 := by omega
  have kw : kd M (gr M (gr M g₀ 0) 4) = 8 := by rw [t4₀]; exact tl.1.2.1.2.1.1
  have lw : ln M (gr M (gr M g₀ 0) 4) = 10 := by rw [t4₀]; exact tl.1.2.1.2.1.2
  have g3n : gr M g₀ 3 ≠ 0 := by omega
  have k3₀ : kd M (gr M g₀ 3) = 1 := by rw [g3₀]; exact ka
  have g4n : gr M g₀ 4 ≠ 0 := by omega
  have k4₀ : kd M (gr M g₀ 4) = 1 := by rw [g4]; exact kb
  have g5n : gr M g₀ 5 ≠ 0 := by omega
  have k5₀ : kd M (gr M g₀ 5) = 2 := by rw [g5₀]; exact kk
  have c1₀ := @cX5_checkSquare1 D l hl M g₀ t₀ r₀ c₀ G h₀
  clear G tl nb tbu clu ck cl₀
  refine hK₀ _ _ _ _ _ ?_
  (repeat' (((conv => whnf); first | (show (_ : Option mg_V) = _ ∧ _; assumption) | (show K _ _ _ _ _; assumption) | (show mm_th _ _ _ _; assumption) | refine And.intro (by first | assumption | omega | (simp only [true_and]; first | done | assumption | omega)) ?_ | (refine And.intro (fun _ => ?_) (fun _ => ?_) <;> first | (exfalso; omega) | skip) | intro _ | fail)))
  all_goals ((conv => whnf); skip)
  (refine Exists.intro _ (Exists.intro _ (And.intro (c1₀) (And.intro (fun _ _ h₀ => h₀.elim) ?_))); rintro _ _ ⟨rfl, n9, hn9, rfl⟩; (conv => whnf); first | exact ⟨rfl, n9, hn9, rfl⟩ | exact ⟨n9, hn9, rfl⟩)
set_option maxRecDepth 100000 in
theorem cX5_widthOf0 {D : mg_D} {l : Launch} (hl : l.stackTraces = false) {M : mg_M} {g₀ t₀ u₀ : Nat} {c₀ : Int} (K9 : mh_K M g₀ t₀ u₀) (h₀ : 0 ≤ c₀ ∧ c₀ < gi M t₀ 1) : mg_Mt D l 101 [.inr (.inl g₀), .inl c₀] M (fun v₀ N => v₀ = some (.inl (gi M (t₀ + 2) c₀.toNat)) ∧ N = M) mg_no := by
  refine mg_of2 hl ok_X5_widthOf al_X5_widthOf rfl (fun K hK₀ => ?_)
  obtain ⟨⟨G, g1, g3₀, g4, g5₀⟩, ⟨ka, kb, kk, kg, ck⟩, pl, ⟨tl, nb⟩, ⟨tbu, clu⟩, rb⟩ := K9
  have k6₀ := G.1
  have g0 := G.2.1
  have kt := G.2.2.1
  have tn₀ := G.2.2.2
  have g0n : gr M g₀ 0 ≠ 0 := by omega
  have k0₀ : kd M (gr M g₀ 0) = 5 := by rw [g0]; exact kt
  have cl₀ := tl.2.1
  have bb := tl.1.2.2
  have s5 : gr M t₀ 5 = t₀ + 3 := tl.1.1.2.2.2.1
  have s3₀ : gr M t₀ 3 = t₀ + 1 := tl.1.1.2.1
  have s4₀ : gr M t₀ 4 = t₀ + 2 := tl.1.1.2.2.1
  have t5₀ : gr M (gr M g₀ 0) 5 = t₀ + 3 := by rw [g0]; exact s5
  have t5n : gr M (gr M g₀ 0) 5 ≠ 0 := by omega
  have kc₀ : kd M (gr M (gr M g₀ 0) 5) = 4 := by rw [t5₀]; exact cl₀.1
  have t3₀ : gr M (gr M g₀ 0) 3 = t₀ + 1 := by rw [g0]; exact s3₀
  have t3n : gr M (gr M g₀ 0) 3 ≠ 0 := by omega
  have kh : kd M (gr M (gr M g₀ 0) 3) = 8 := by rw [t3₀]; exact tl.1.2.1.1.1
  have lh : ln M (gr M (gr M g₀ 0) 3) = 12 := by rw [t3₀]; exact tl.1.2.1.1.2
  have t4₀ : gr M (gr M g₀ 0) 4 = t₀ + 2 := by rw [g0]; exact s4₀
  have t4n : gr M (gr M g₀ 0) 4 ≠ 0 := by omega
  have kw : kd M (gr M (gr M g₀ 0) 4) = 8 := by rw [t4₀]; exact tl.1.2.1.2.1.1
  have lw : ln M (gr M (gr M g₀ 0) 4) = 10 := by rw [t4₀]; exact tl.1.2.1.2.1.2
  have g3n : gr M g₀ 3 ≠ 0 := by omega
  have k3₀ : kd M (gr M g₀ 3) = 1 := by rw [g3₀]; exact ka
  have g4n : gr M g₀ 4 ≠ 0 := by omega
  have k4₀ : kd M (gr M g₀ 4) = 1 := by rw [g4]; exact kb
  have g5n : gr M g₀ 5 ≠ 0 := by omega
  have k5₀ : kd M (gr M g₀ 5) = 2 := by rw [g5₀]; exact kk
  have c1₀ := @cX5_checkColumn0 D l hl M g₀ t₀ c₀ G h₀
  have Q₀ : some (Sum.inl (gi M (gr M (gr M g₀ 0) 4) c₀.toNat) : mg_V) = some (.inl (gi M (t₀ + 2) c₀.toNat)) ∧ M = M := ⟨by rw [t4₀], rfl⟩
  clear G tl nb tbu clu ck cl₀
  refine hK₀ _ _ _ _ _ ?_
  (repeat' (((conv => whnf); first | (show (_ : Option mg_V) = _ ∧ _; assumption) | (show K _ _ _ _ _; assumption) | (show mm_th _ _ _ _; assumption) | refine And.intro (by first | assumption | omega | (simp only [true_and]; first | done | assumption | omega)) ?_ | (refine And.intro (fun _ => ?_) (fun _ => ?_) <;> first | (exfalso; omega) | skip) | intro _ | fail)))
  all_goals (try ((conv => whnf); (refine Exists.intro _ (Exists.intro _ (And.intro (c1₀) (And.intro ?_ (fun _ _ h₀ => h₀.elim)))); rintro _ _ ⟨rfl, e₀⟩; have e2₀ := e₀.symm; clear e₀; subst e2₀); (repeat' (((conv => whnf); first | (show (_ : Option mg_V) = _ ∧ _; assumption) | (show K _ _ _ _ _; assumption) | (show mm_th _ _ _ _; assumption) | refine And.intro (by first | assumption | omega | (simp only [true_and]; first | done | assumption | omega)) ?_ | (refine And.intro (fun _ => ?_) (fun _ => ?_) <;> first | (exfalso; omega) | skip) | intro _ | fail)))))
set_option maxRecDepth 100000 in
theorem cX5_widthOf1 {D : mg_D} {l : Launch} (hl : l.stackTraces = false) {M : mg_M} {g₀ t₀ u₀ : Nat} {c₀ : Int} (K9 : mh_K M g₀ t₀ u₀) (h₀ : ¬ (0 ≤ c₀ ∧ c₀ < gi M t₀ 1)) : mg_Mt D l 101 [.inr (.inl g₀), .inl c₀] M mh_nN (mh_tX 1 M) := by
  refine mg_of2 hl ok_X5_widthOf al_X5_widthOf rfl (fun K hK₀ => ?_)
  obtain ⟨⟨G, g1, g3₀, g4, g5₀⟩, ⟨ka, kb, kk, kg, ck⟩, pl, ⟨tl, nb⟩, ⟨tbu, clu⟩, rb⟩ := K9
  have k6₀ := G.1
  have g0 := G.2.1
  have kt := G.2.2.1
  have tn₀ := G.2.2.2
  have g0n : gr M g₀ 0 ≠ 0 := by omega
  have k0₀ : kd M (gr M g₀ 0) = 5 := by rw [g0]; exact kt
  have cl₀ := tl.2.1
  have bb := tl.1.2.2
  have s5 : gr M t₀ 5 = t₀ + 3 := tl.1.1.2.2.2.1
  have s3₀ : gr M t₀ 3 = t₀ + 1 := tl.1.1.2.1
  have s4₀ : gr M t₀ 4 = t₀ + 2 := tl.1.1.2.2.1
  have t5₀ : gr M (gr M g₀ 0) 5 = t₀ + 3 := by rw [g0]; exact s5
  have t5n : gr M (gr M g₀ 0) 5 ≠ 0 := by omega
  have kc₀ : kd M (gr M (gr M g₀ 0) 5) = 4 := by rw [t5₀]; exact cl₀.1
  have t3₀ : gr M (gr M g₀ 0) 3 = t₀ + 1 := by rw [g0]; exact s3₀
  have t3n : gr M (gr M g₀ 0) 3 ≠ 0 := by omega
  have kh : kd M (gr M (gr M g₀ 0) 3) = 8 := by rw [t3₀]; exact tl.1.2.1.1.1
  have lh : ln M (gr M (gr M g₀ 0) 3) = 12 := by rw [t3₀]; exact tl.1.2.1.1.2
  have t4₀ : gr M (gr M g₀ 0) 4 = t₀ + 2 := by rw [g0]; exact s4₀
  have t4n : gr M (gr M g₀ 0) 4 ≠ 0 := by omega
  have kw : kd M (gr M (gr M g₀ 0) 4) = 8 := by rw [t4₀]; exact tl.1.2.1.2.1.1
  have lw : ln M (gr M (gr M g₀ 0) 4) = 10 := by rw [t4₀]; exact tl.1.2.1.2.1.2
  have g3n : gr M g₀ 3 ≠ 0 := by omega
  have k3₀ : kd M (gr M g₀ 3) = 1 := by rw [g3₀]; exact ka
  have g4n : gr M g₀ 4 ≠ 0 := by omega
  have k4₀ : kd M (gr M g₀ 4) = 1 := by rw [g4]; exact kb
  have g5n : gr M g₀ 5 ≠ 0 := by omega
  have k5₀ : kd M (gr M g₀ 5) = 2 := by rw [g5₀]; exact kk
  have c1₀ := @cX5_checkColumn1 D l hl M g₀ t₀ c₀ G h₀
  clear G tl nb tbu clu ck cl₀
  refine hK₀ _ _ _ _ _ ?_
  (repeat' (((conv => whnf); first | (show (_ : Option mg_V) = _ ∧ _; assumption) | (show K _ _ _ _ _; assumption) | (show mm_th _ _ _ _; assumption) | refine And.intro (by first | assumption | omega | (simp only [true_and]; first | done | assumption | omega)) ?_ | (refine And.intro (fun _ => ?_) (fun _ => ?_) <;> first | (exfalso; omega) | skip) | intro _ | fail)))
  all_goals ((conv => whnf); skip)
  (refine Exists.intro _ (Exists.intro _ (And.intro (c1₀) (And.intro (fun _ _ h₀ => h₀.elim) ?_))); rintro _ _ ⟨rfl, n9, hn9, rfl⟩; (conv => whnf); first | exact ⟨rfl, n9, hn9, rfl⟩ | exact ⟨n9, hn9, rfl⟩)
set_option maxRecDepth 100000 in
theorem cX5_heightOf0 {D : mg_D} {l : Launch} (hl : l.stackTraces = false) {M : mg_M} {g₀ t₀ u₀ : Nat} {c₀ : Int} (K9 : mh_K M g₀ t₀ u₀) (h₀ : 0 ≤ c₀ ∧ c₀ < gi M t₀ 0) : mg_Mt D l 102 [.inr (.inl g₀), .inl c₀] M (fun v₀ N => v₀ = some (.inl (gi M (t₀ + 1) c₀.toNat)) ∧ N = M) mg_no := by
  refine mg_of2 hl ok_X5_heightOf al_X5_heightOf rfl (fun K hK₀ => ?_)
  obtain ⟨⟨G, g1, g3₀, g4, g5₀⟩, ⟨ka, kb, kk, kg, ck⟩, pl, ⟨tl, nb⟩, ⟨tbu, clu⟩, rb⟩ := K9
  have k6₀ := G.1
  have g0 := G.2.1
  have kt := G.2.2.1
  have tn₀ := G.2.2.2
  have g0n : gr M g₀ 0 ≠ 0 := by omega
  have k0₀ : kd M (gr M g₀ 0) = 5 := by rw [g0]; exact kt
  have cl₀ := tl.2.1
  have bb := tl.1.2.2
  have s5 : gr M t₀ 5 = t₀ + 3 := tl.1.1.2.2.2.1
  have s3₀ : gr M t₀ 3 = t₀ + 1 := tl.1.1.2.1
  have s4₀ : gr M t₀ 4 = t₀ + 2 := tl.1.1.2.2.1
  have t5₀ : gr M (gr M g₀ 0) 5 = t₀ + 3 := by rw [g0]; exact s5
  have t5n : gr M (gr M g₀ 0) 5 ≠ 0 := by omega
  have kc₀ : kd M (gr M (gr M g₀ 0) 5) = 4 := by rw [t5₀]; exact cl₀.1
  have t3₀ : gr M (gr M g₀ 0) 3 = t₀ + 1 := by rw [g0]; exact s3₀
  have t3n : gr M (gr M g₀ 0) 3 ≠ 0 := by omega
  have kh : kd M (gr M (gr M g₀ 0) 3) = 8 := by rw [t3₀]; exact tl.1.2.1.1.1
  have lh : ln M (gr M (gr M g₀ 0) 3) = 12 := by rw [t3₀]; exact tl.1.2.1.1.2
  have t4₀ : gr M (gr M g₀ 0) 4 = t₀ + 2 := by rw [g0]; exact s4₀
  have t4n : gr M (gr M g₀ 0) 4 ≠ 0 := by omega
  have kw : kd M (gr M (gr M g₀ 0) 4) = 8 := by rw [t4₀]; exact tl.1.2.1.2.1.1
  have lw : ln M (gr M (gr M g₀ 0) 4) = 10 := by rw [t4₀]; exact tl.1.2.1.2.1.2
  have g3n : gr M g₀ 3 ≠ 0 := by omega
  have k3₀ : kd M (gr M g₀ 3) = 1 := by rw [g3₀]; exact ka
  have g4n : gr M g₀ 4 ≠ 0 := by omega
  have k4₀ : kd M (gr M g₀ 4) = 1 := by rw [g4]; exact kb
  have g5n : gr M g₀ 5 ≠ 0 := by omega
  have k5₀ : kd M (gr M g₀ 5) = 2 := by rw [g5₀]; exact kk
  have c1₀ := @cX5_checkRow0 D l hl M g₀ t₀ c₀ G h₀
  have Q₀ : some (Sum.inl (gi M (gr M (gr M g₀ 0) 3) c₀.toNat) : mg_V) = some (.inl (gi M (t₀ + 1) c₀.toNat)) ∧ M = M := ⟨by rw [t3₀], rfl⟩
  clear G tl nb tbu clu ck cl₀
  refine hK₀ _ _ _ _ _ ?_
  (repeat' (((conv => whnf); first | (show (_ : Option mg_V) = _ ∧ _; assumption) | (show K _ _ _ _ _; assumption) | (show mm_th _ _ _ _; assumption) | refine And.intro (by first | assumption | omega | (simp only [true_and]; first | done | assumption | omega)) ?_ | (refine And.intro (fun _ => ?_) (fun _ => ?_) <;> first | (exfalso; omega) | skip) | intro _ | fail)))
  all_goals (try ((conv => whnf); (refine Exists.intro _ (Exists.intro _ (And.intro (c1₀) (And.intro ?_ (fun _ _ h₀ => h₀.elim)))); rintro _ _ ⟨rfl, e₀⟩; have e2₀ := e₀.symm; clear e₀; subst e2₀); (repeat' (((conv => whnf); first | (show (_ : Option mg_V) = _ ∧ _; assumption) | (show K _ _ _ _ _; assumption) | (show mm_th _ _ _ _; assumption) | refine And.intro (by first | assumption | omega | (simp only [true_and]; first | done | assumption | omega)) ?_ | (refine And.intro (fun _ => ?_) (fun _ => ?_) <;> first | (exfalso; omega) | skip) | intro _ | fail)))))
set_option maxRecDepth 100000 in
theorem cX5_heightOf1 {D : mg_D} {l : Launch} (hl : l.stackTraces = false) {M : mg_M} {g₀ t₀ u₀ : Nat} {c₀ : Int} (K9 : mh_K M g₀ t₀ u₀) (h₀ : ¬ (0 ≤ c₀ ∧ c₀ < gi M t₀ 0)) : mg_Mt D l 102 [.inr (.inl g₀), .inl c₀] M mh_nN (mh_tX 1 M) := by
  refine mg_of2 hl ok_X5_heightOf al_X5_heightOf rfl (fun K hK₀ => ?_)
  obtain ⟨⟨G, g1, g3₀, g4, g5₀⟩, ⟨ka, kb, kk, kg, ck⟩, pl, ⟨tl, nb⟩, ⟨tbu, clu⟩, rb⟩ := K9
  have k6₀ := G.1
  have g0 := G.2.1
  have kt := G.2.2.1
  have tn₀ := G.2.2.2
  have g0n : gr M g₀ 0 ≠ 0 := by omega
  have k0₀ : kd M (gr M g₀ 0) = 5 := by rw [g0]; exact kt
  have cl₀ := tl.2.1
  have bb := tl.1.2.2
  have s5 : gr M t₀ 5 = t₀ + 3 := tl.1.1.2.2.2.1
  have s3₀ : gr M t₀ 3 = t₀ + 1 := tl.1.1.2.1
  have s4₀ : gr M t₀ 4 = t₀ + 2 := tl.1.1.2.2.1
  have t5₀ : gr M (gr M g₀ 0) 5 = t₀ + 3 := by rw [g0]; exact s5
  have t5n : gr M (gr M g₀ 0) 5 ≠ 0 := by omega
  have kc₀ : kd M (gr M (gr M g₀ 0) 5) = 4 := by rw [t5₀]; exact cl₀.1
  have t3₀ : gr M (gr M g₀ 0) 3 = t₀ + 1 := by rw [g0]; exact s3₀
  have t3n : gr M (gr M g₀ 0) 3 ≠ 0 := by omega
  have kh : kd M (gr M (gr M g₀ 0) 3) = 8 := by rw [t3₀]; exact tl.1.2.1.1.1
  have lh : ln M (gr M (gr M g₀ 0) 3) = 12 := by rw [t3₀]; exact tl.1.2.1.1.2
  have t4₀ : gr M (gr M g₀ 0) 4 = t₀ + 2 := by rw [g0]; exact s4₀
  have t4n : gr M (gr M g₀ 0) 4 ≠ 0 := by omega
  have kw : kd M (gr M (gr M g₀ 0) 4) = 8 := by rw [t4₀]; exact tl.1.2.1.2.1.1
  have lw : ln M (gr M (gr M g₀ 0) 4) = 10 := by rw [t4₀]; exact tl.1.2.1.2.1.2
  have g3n : gr M g₀ 3 ≠ 0 := by omega
  have k3₀ : kd M (gr M g₀ 3) = 1 := by rw [g3₀]; exact ka
  have g4n : gr M g₀ 4 ≠ 0 := by omega
  have k4₀ : kd M (gr M g₀ 4) = 1 := by rw [g4]; exact kb
  have g5n : gr M g₀ 5 ≠ 0 := by omega
  have k5₀ : kd M (gr M g₀ 5) = 2 := by rw [g5₀]; exact kk
  have c1₀ := @cX5_checkRow1 D l hl M g₀ t₀ c₀ G h₀
  clear G tl nb tbu clu ck cl₀
  refine hK₀ _ _ _ _ _ ?_
  (repeat' (((conv => whnf); first | (show (_ : Option mg_V) = _ ∧ _; assumption) | (show K _ _ _ _ _; assumption) | (show mm_th _ _ _ _; assumption) | refine And.intro (by first | assumption | omega | (simp only [true_and]; first | done | assumption | omega)) ?_ | (refine And.intro (fun _ => ?_) (fun _ => ?_) <;> first | (exfalso; omega) | skip) | intro _ | fail)))
  all_goals ((conv => whnf); skip)
  (refine Exists.intro _ (Exists.intro _ (And.intro (c1₀) (And.intro (fun _ _ h₀ => h₀.elim) ?_))); rintro _ _ ⟨rfl, n9, hn9, rfl⟩; (conv => whnf); first | exact ⟨rfl, n9, hn9, rfl⟩ | exact ⟨n9, hn9, rfl⟩)
set_option maxRecDepth 100000 in
theorem cX5_selected0 {D : mg_D} {l : Launch} (hl : l.stackTraces = false) {M : mg_M} {g₀ t₀ u₀ : Nat} {x₀ : Int} (K9 : mh_K M g₀ t₀ u₀) (h₀ : x₀ = 116 ∨ x₀ = 98 ∨ x₀ = 108 ∨ x₀ = 114) : mg_Mt D l 90 [.inr (.inl g₀), .inl x₀] M (fun v₀ N => v₀ = some (.inl (if x₀ = 116 then gi M (g₀ + 259) 0 else if x₀ = 98 then gi M (g₀ + 259) 2 else if x₀ = 108 then gi M (g₀ + 259) 1 else gi M (g₀ + 259) 3)) ∧ N = M) mg_no := by
  refine mg_of2 hl ok_X5_selected al_X5_selected rfl (fun K hK₀ => ?_)
  obtain ⟨⟨G, g1, g3₀, g4, g5₀⟩, ⟨ka, kb, kk, kg, ck⟩, pl, ⟨tl, nb⟩, ⟨tbu, clu⟩, rb⟩ := K9
  have k6₀ := G.1
  have g0 := G.2.1
  have kt := G.2.2.1
  have tn₀ := G.2.2.2
  have g0n : gr M g₀ 0 ≠ 0 := by omega
  have k0₀ : kd M (gr M g₀ 0) = 5 := by rw [g0]; exact kt
  have cl₀ := tl.2.1
  have bb := tl.1.2.2
  have s5 : gr M t₀ 5 = t₀ + 3 := tl.1.1.2.2.2.1
  have s3₀ : gr M t₀ 3 = t₀ + 1 := tl.1.1.2.1
  have s4₀ : gr M t₀ 4 = t₀ + 2 := tl.1.1.2.2.1
  have t5₀ : gr M (gr M g₀ 0) 5 = t₀ + 3 := by rw [g0]; exact s5
  have t5n : gr M (gr M g₀ 0) 5 ≠ 0 := by omega
  have kc₀ : kd M (gr M (gr M g₀ 0) 5) = 4 := by rw [t5₀]; exact cl₀.1
  have t3₀ : gr M (gr M g₀ 0) 3 = t₀ + 1 := by rw [g0]; exact s3₀
  have t3n : gr M (gr M g₀ 0) 3 ≠ 0 := by omega
  have kh : kd M (gr M (gr M g₀ 0) 3) = 8 := by rw [t3₀]; exact tl.1.2.1.1.1
  have lh : ln M (gr M (gr M g₀ 0) 3) = 12 := by rw [t3₀]; exact tl.1.2.1.1.2
  have t4₀ : gr M (gr M g₀ 0) 4 = t₀ + 2 := by rw [g0]; exact s4₀
  have t4n : gr M (gr M g₀ 0) 4 ≠ 0 := by omega
  have kw : kd M (gr M (gr M g₀ 0) 4) = 8 := by rw [t4₀]; exact tl.1.2.1.2.1.1
  have lw : ln M (gr M (gr M g₀ 0) 4) = 10 := by rw [t4₀]; exact tl.1.2.1.2.1.2
  have g3n : gr M g₀ 3 ≠ 0 := by omega
  have k3₀ : kd M (gr M g₀ 3) = 1 := by rw [g3₀]; exact ka
  have g4n : gr M g₀ 4 ≠ 0 := by omega
  have k4₀ : kd M (gr M g₀ 4) = 1 := by rw [g4]; exact kb
  have g5n : gr M g₀ 5 ≠ 0 := by omega
  have k5₀ : kd M (gr M g₀ 5) = 2 := by rw [g5₀]; exact kk
  clear G tl nb tbu clu ck cl₀
  refine hK₀ _ _ _ _ _ ?_
  (repeat' (((conv => whnf); first | (show (_ : Option mg_V) = _ ∧ _; assumption) | (show K _ _ _ _ _; assumption) | (show mm_th _ _ _ _; assumption) | refine And.intro (by first | assumption | omega | (simp only [true_and]; first | done | assumption | omega)) ?_ | (refine And.intro (fun _ => ?_) (fun _ => ?_) <;> first | (exfalso; omega) | skip) | intro _ | fail)))
  all_goals ((conv => whnf); rw [g3₀]; refine And.intro ?_ rfl; congr 2; (repeat' split) <;> first | rfl | omega)
set_option maxRecDepth 100000 in
theorem cX5_selected1 {D : mg_D} {l : Launch} (hl : l.stackTraces = false) {M : mg_M} {g₀ t₀ u₀ : Nat} {x₀ : Int} (K9 : mh_K M g₀ t₀ u₀) (h₀ : x₀ ≠ 116 ∧ x₀ ≠ 98 ∧ x₀ ≠ 108 ∧ x₀ ≠ 114) : mg_Mt D l 90 [.inr (.inl g₀), .inl x₀] M mh_nN (mh_tX 3 M) := by
  refine mg_of2 hl ok_X5_selected al_X5_selected rfl (fun K hK₀ => ?_)
  obtain ⟨⟨G, g1, g3₀, g4, g5₀⟩, ⟨ka, kb, kk, kg, ck⟩, pl, ⟨tl, nb⟩, ⟨tbu, clu⟩, rb⟩ := K9
  have k6₀ := G.1
  have g0 := G.2.1
  have kt := G.2.2.1
  have tn₀ := G.2.2.2
  have g0n : gr M g₀ 0 ≠ 0 := by omega
  have k0₀ : kd M (gr M g₀ 0) = 5 := by rw [g0]; exact kt
  have cl₀ := tl.2.1
  have bb := tl.1.2.2
  have s5 : gr M t₀ 5 = t₀ + 3 := tl.1.1.2.2.2.1
  have s3₀ : gr M t₀ 3 = t₀ + 1 := tl.1.1.2.1
  have s4₀ : gr M t₀ 4 = t₀ + 2 := tl.1.1.2.2.1
  have t5₀ : gr M (gr M g₀ 0) 5 = t₀ + 3 := by rw [g0]; exact s5
  have t5n : gr M (gr M g₀ 0) 5 ≠ 0 := by omega
  have kc₀ : kd M (gr M (gr M g₀ 0) 5) = 4 := by rw [t5₀]; exact cl₀.1
  have t3₀ : gr M (gr M g₀ 0) 3 = t₀ + 1 := by rw [g0]; exact s3₀
  have t3n : gr M (gr M g₀ 0) 3 ≠ 0 := by omega
  have kh : kd M (gr M (gr M g₀ 0) 3) = 8 := by rw [t3₀]; exact tl.1.2.1.1.1
  have lh : ln M (gr M (gr M g₀ 0) 3) = 12 := by rw [t3₀]; exact tl.1.2.1.1.2
  have t4₀ : gr M (gr M g₀ 0) 4 = t₀ + 2 := by rw [g0]; exact s4₀
  have t4n : gr M (gr M g₀ 0) 4 ≠ 0 := by omega
  have kw : kd M (gr M (gr M g₀ 0) 4) = 8 := by rw [t4₀]; exact tl.1.2.1.2.1.1
  have lw : ln M (gr M (gr M g₀ 0) 4) = 10 := by rw [t4₀]; exact tl.1.2.1.2.1.2
  have g3n : gr M g₀ 3 ≠ 0 := by omega
  have k3₀ : kd M (gr M g₀ 3) = 1 := by rw [g3₀]; exact ka
  have g4n : gr M g₀ 4 ≠ 0 := by omega
  have k4₀ : kd M (gr M g₀ 4) = 1 := by rw [g4]; exact kb
  have g5n : gr M g₀ 5 ≠ 0 := by omega
  have k5₀ : kd M (gr M g₀ 5) = 2 := by rw [g5₀]; exact kk
  clear G tl nb tbu clu ck cl₀
  refine hK₀ _ _ _ _ _ ?_
  (repeat' (((conv => whnf); first | (show (_ : Option mg_V) = _ ∧ _; assumption) | (show K _ _ _ _ _; assumption) | (show mm_th _ _ _ _; assumption) | refine And.intro (by first | assumption | omega | (simp only [true_and]; first | done | assumption | omega)) ?_ | (refine And.intro (fun _ => ?_) (fun _ => ?_) <;> first | (exfalso; omega) | skip) | intro _ | fail)))
  all_goals (first | exact ⟨_, by assumption, rfl⟩ | (exfalso; omega))
set_option maxRecDepth 100000 in
theorem cX5_selectedCells {D : mg_D} {l : Launch} (hl : l.stackTraces = false) {M : mg_M} {g₀ t₀ u₀ : Nat} (K9 : mh_K M g₀ t₀ u₀) : mg_Mt D l 91 [.inr (.inl g₀)] M (fun v₀ N => v₀ = some (.inl (mh_sum (fun i₀ => mh_bi (mh_in M (gr M (t₀ + 3 + 1) i₀) (g₀ + 259))) (gi M (t₀ + 3) 0).toNat)) ∧ N = M) mg_no := by
  refine mg_of2 hl ok_X5_selectedCells al_X5_selectedCells rfl (fun K hK₀ => ?_)
  obtain ⟨⟨G, g1, g3₀, g4, g5₀⟩, ⟨ka, kb, kk, kg, ck⟩, pl, ⟨tl, nb⟩, ⟨tbu, clu⟩, rb⟩ := K9
  have k6₀ := G.1
  have g0 := G.2.1
  have kt := G.2.2.1
  have tn₀ := G.2.2.2
  have g0n : gr M g₀ 0 ≠ 0 := by omega
  have k0₀ : kd M (gr M g₀ 0) = 5 := by rw [g0]; exact kt
  have cl₀ := tl.2.1
  have bb := tl.1.2.2
  have s5 : gr M t₀ 5 = t₀ + 3 := tl.1.1.2.2.2.1
  have s3₀ : gr M t₀ 3 = t₀ + 1 := tl.1.1.2.1
  have s4₀ : gr M t₀ 4 = t₀ + 2 := tl.1.1.2.2.1
  have t5₀ : gr M (gr M g₀ 0) 5 = t₀ + 3 := by rw [g0]; exact s5
  have t5n : gr M (gr M g₀ 0) 5 ≠ 0 := by omega
  have kc₀ : kd M (gr M (gr M g₀ 0) 5) = 4 := by rw [t5₀]; exact cl₀.1
  have t3₀ : gr M (gr M g₀ 0) 3 = t₀ + 1 := by rw [g0]; exact s3₀
  have t3n : gr M (gr M g₀ 0) 3 ≠ 0 := by omega
  have kh : kd M (gr M (gr M g₀ 0) 3) = 8 := by rw [t3₀]; exact tl.1.2.1.1.1
  have lh : ln M (gr M (gr M g₀ 0) 3) = 12 := by rw [t3₀]; exact tl.1.2.1.1.2
  have t4₀ : gr M (gr M g₀ 0) 4 = t₀ + 2 := by rw [g0]; exact s4₀
  have t4n : gr M (gr M g₀ 0) 4 ≠ 0 := by omega
  have kw : kd M (gr M (gr M g₀ 0) 4) = 8 := by rw [t4₀]; exact tl.1.2.1.2.1.1
  have lw : ln M (gr M (gr M g₀ 0) 4) = 10 := by rw [t4₀]; exact tl.1.2.1.2.1.2
  have g3n : gr M g₀ 3 ≠ 0 := by omega
  have k3₀ : kd M (gr M g₀ 3) = 1 := by rw [g3₀]; exact ka
  have g4n : gr M g₀ 4 ≠ 0 := by omega
  have k4₀ : kd M (gr M g₀ 4) = 1 := by rw [g4]; exact kb
  have g5n : gr M g₀ 5 ≠ 0 := by omega
  have k5₀ : kd M (gr M g₀ 5) = 2 := by rw [g5₀]; exact kk
  have c1₀ := @cX3_countIn D l hl M (t₀ + 3) (g₀ + 259) cl₀ (mh_tl_sm tl) ka
  generalize mh_sum (fun i₀ => mh_bi (mh_in M (gr M (t₀ + 3 + 1) i₀) (g₀ + 259))) (gi M (t₀ + 3) 0).toNat = z₀ at *
  have Q₀ : some (Sum.inl z₀ : mg_V) = some (.inl z₀) ∧ M = M := ⟨rfl, rfl⟩
  clear G tl nb tbu clu ck cl₀
  refine hK₀ _ _ _ _ _ ?_
  (repeat' (((conv => whnf); first | (show (_ : Option mg_V) = _ ∧ _; assumption) | (show K _ _ _ _ _; assumption) | (show mm_th _ _ _ _; assumption) | refine And.intro (by first | assumption | omega | (simp only [true_and]; first | done | assumption | omega)) ?_ | (refine And.intro (fun _ => ?_) (fun _ => ?_) <;> first | (exfalso; omega) | skip) | intro _ | fail)))
  all_goals ((conv => whnf); (try rw [g0]); (try rw [s5]); (try rw [s3₀]); (try rw [s4₀]); (try rw [g3₀]); (try rw [g4]); (try rw [g5₀]))
  (refine Exists.intro _ (Exists.intro _ (And.intro (c1₀) (And.intro ?_ (fun _ _ h₀ => h₀.elim)))); rintro _ _ ⟨rfl, e₀⟩; have e2₀ := e₀.symm; clear e₀; subst e2₀)
  (repeat' (((conv => whnf); first | (show (_ : Option mg_V) = _ ∧ _; assumption) | (show K _ _ _ _ _; assumption) | (show mm_th _ _ _ _; assumption) | refine And.intro (by first | assumption | omega | (simp only [true_and]; first | done | assumption | omega)) ?_ | (refine And.intro (fun _ => ?_) (fun _ => ?_) <;> first | (exfalso; omega) | skip) | intro _ | fail)))
set_option maxRecDepth 100000 in
theorem cX5_sum {D : mg_D} {l : Launch} (hl : l.stackTraces = false) {M : mg_M} {g₀ t₀ u₀ : Nat} (K9 : mh_K M g₀ t₀ u₀) (V9 : mh_V M t₀) : mg_Mt D l 110 [.inr (.inl g₀)] M (fun v₀ N => v₀ = some (.inr (.inr (.inl (mh_sum (fun i₀ => (if mh_bi (mh_in M (gr M (t₀ + 3 + 1) i₀) (g₀ + 259)) = 0 then (0 : Int) else gi M (gr M (t₀ + 3 + 1) i₀) 4)) (gi M (t₀ + 3) 0).toNat)))) ∧ N = M) mg_no := by
  refine mg_of2 hl ok_X5_sum al_X5_sum rfl (fun K hK₀ => ?_)
  obtain ⟨⟨G, g1, g3₀, g4, g5₀⟩, ⟨ka, kb, kk, kg, ck⟩, pl, ⟨tl, nb⟩, ⟨tbu, clu⟩, rb⟩ := K9
  have k6₀ := G.1
  have g0 := G.2.1
  have kt := G.2.2.1
  have tn₀ := G.2.2.2
  have g0n : gr M g₀ 0 ≠ 0 := by omega
  have k0₀ : kd M (gr M g₀ 0) = 5 := by rw [g0]; exact kt
  have cl₀ := tl.2.1
  have bb := tl.1.2.2
  have s5 : gr M t₀ 5 = t₀ + 3 := tl.1.1.2.2.2.1
  have s3₀ : gr M t₀ 3 = t₀ + 1 := tl.1.1.2.1
  have s4₀ : gr M t₀ 4 = t₀ + 2 := tl.1.1.2.2.1
  have t5₀ : gr M (gr M g₀ 0) 5 = t₀ + 3 := by rw [g0]; exact s5
  have t5n : gr M (gr M g₀ 0) 5 ≠ 0 := by omega
  have kc₀ : kd M (gr M (gr M g₀ 0) 5) = 4 := by rw [t5₀]; exact cl₀.1
  have t3₀ : gr M (gr M g₀ 0) 3 = t₀ + 1 := by rw [g0]; exact s3₀
  have t3n : gr M (gr M g₀ 0) 3 ≠ 0 := by omega
  have kh : kd M (gr M (gr M g₀ 0) 3) = 8 := by rw [t3₀]; exact tl.1.2.1.1.1
  have lh : ln M (gr M (gr M g₀ 0) 3) = 12 := by rw [t3₀]; exact tl.1.2.1.1.2
  have t4₀ : gr M (gr M g₀ 0) 4 = t₀ + 2 := by rw [g0]; exact s4₀
  have t4n : gr M (gr M g₀ 0) 4 ≠ 0 := by omega
  have kw : kd M (gr M (gr M g₀ 0) 4) = 8 := by rw [t4₀]; exact tl.1.2.1.2.1.1
  have lw : ln M (gr M (gr M g₀ 0) 4) = 10 := by rw [t4₀]; exact tl.1.2.1.2.1.2
  have g3n : gr M g₀ 3 ≠ 0 := by omega
  have k3₀ : kd M (gr M g₀ 3) = 1 := by rw [g3₀]; exact ka
  have g4n : gr M g₀ 4 ≠ 0 := by omega
  have k4₀ : kd M (gr M g₀ 4) = 1 := by rw [g4]; exact kb
  have g5n : gr M g₀ 5 ≠ 0 := by omega
  have k5₀ : kd M (gr M g₀ 5) = 2 := by rw [g5₀]; exact kk
  have c1₀ := @cX3_sumIn D l hl M (t₀ + 3) (g₀ + 259) cl₀ (mh_tl_sm tl) ka V9.1
  generalize mh_sum (fun i₀ => (if mh_bi (mh_in M (gr M (t₀ + 3 + 1) i₀) (g₀ + 259)) = 0 then (0 : Int) else gi M (gr M (t₀ + 3 + 1) i₀) 4)) (gi M (t₀ + 3) 0).toNat = z₀ at *
  have Q₀ : some (Sum.inr (Sum.inr (Sum.inl z₀)) : mg_V) = some (.inr (.inr (.inl z₀))) ∧ M = M := ⟨rfl, rfl⟩
  clear V9
  clear G tl nb tbu clu ck cl₀
  refine hK₀ _ _ _ _ _ ?_
  (repeat' (((conv => whnf); first | (show (_ : Option mg_V) = _ ∧ _; assumption) | (show K _ _ _ _ _; assumption) | (show mm_th _ _ _ _; assumption) | refine And.intro (by first | assumption | omega | (simp only [true_and]; first | done | assumption | omega)) ?_ | (refine And.intro (fun _ => ?_) (fun _ => ?_) <;> first | (exfalso; omega) | skip) | intro _ | fail)))
  all_goals ((conv => whnf); (try rw [g0]); (try rw [s5]); (try rw [s3₀]); (try rw [s4₀]); (try rw [g3₀]); (try rw [g4]); (try rw [g5₀]))
  (refine Exists.intro _ (Exists.intro _ (And.intro (c1₀) (And.intro ?_ (fun _ _ h₀ => h₀.elim)))); rintro _ _ ⟨rfl, e₀⟩; have e2₀ := e₀.symm; clear e₀; subst e2₀)
  (repeat' (((conv => whnf); first | (show (_ : Option mg_V) = _ ∧ _; assumption) | (show K _ _ _ _ _; assumption) | (show mm_th _ _ _ _; assumption) | refine And.intro (by first | assumption | omega | (simp only [true_and]; first | done | assumption | omega)) ?_ | (refine And.intro (fun _ => ?_) (fun _ => ?_) <;> first | (exfalso; omega) | skip) | intro _ | fail)))
set_option maxRecDepth 100000 in
theorem cX5_mean0 {D : mg_D} {l : Launch} (hl : l.stackTraces = false) {M : mg_M} {g₀ t₀ u₀ : Nat} (K9 : mh_K M g₀ t₀ u₀) (V9 : mh_V M t₀) {a₀ b₀ : Int} (ha₀ : mh_sum (fun i₀ => (if mh_bi (mh_in M (gr M (t₀ + 3 + 1) i₀) (g₀ + 259)) = 0 then (0 : Int) else gi M (gr M (t₀ + 3 + 1) i₀) 4)) (gi M (t₀ + 3) 0).toNat = a₀) (hb₀ : mh_sum (fun i₀ => (if mh_bi (mh_in M (gr M (t₀ + 3 + 1) i₀) (g₀ + 259)) = 0 then (0 : Int) else if gi M (gr M (t₀ + 3 + 1) i₀) 4 = 0 then (0 : Int) else 1)) (gi M (t₀ + 3) 0).toNat = b₀) (h₀ : b₀ ≠ 0) (hq : vf_n64 (FP.ddiv (FP.i2d (Int32.ofInt a₀)) (FP.i2d (Int32.ofInt b₀)))) : mg_Mt D l 111 [.inr (.inl g₀)] M (fun v₀ N => v₀ = some (.inr (.inr (.inr (.inl (FP.ddiv (FP.i2d (Int32.ofInt a₀)) (FP.i2d (Int32.ofInt b₀))))))) ∧ N = M) mg_no := by
  refine mg_of2 hl ok_X5_mean al_X5_mean rfl (fun K hK₀ => ?_)
  obtain ⟨⟨G, g1, g3₀, g4, g5₀⟩, ⟨ka, kb, kk, kg, ck⟩, pl, ⟨tl, nb⟩, ⟨tbu, clu⟩, rb⟩ := K9
  have k6₀ := G.1
  have g0 := G.2.1
  have kt := G.2.2.1
  have tn₀ := G.2.2.2
  have g0n : gr M g₀ 0 ≠ 0 := by omega
  have k0₀ : kd M (gr M g₀ 0) = 5 := by rw [g0]; exact kt
  have cl₀ := tl.2.1
  have bb := tl.1.2.2
  have s5 : gr M t₀ 5 = t₀ + 3 := tl.1.1.2.2.2.1
  have s3₀ : gr M t₀ 3 = t₀ + 1 := tl.1.1.2.1
  have s4₀ : gr M t₀ 4 = t₀ + 2 := tl.1.1.2.2.1
  have t5₀ : gr M (gr M g₀ 0) 5 = t₀ + 3 := by rw [g0]; exact s5
  have t5n : gr M (gr M g₀ 0) 5 ≠ 0 := by omega
  have kc₀ : kd M (gr M (gr M g₀ 0) 5) = 4 := by rw [t5₀]; exact cl₀.1
  have t3₀ : gr M (gr M g₀ 0) 3 = t₀ + 1 := by rw [g0]; exact s3₀
  have t3n : gr M (gr M g₀ 0) 3 ≠ 0 := by omega
  have kh : kd M (gr M (gr M g₀ 0) 3) = 8 := by rw [t3₀]; exact tl.1.2.1.1.1
  have lh : ln M (gr M (gr M g₀ 0) 3) = 12 := by rw [t3₀]; exact tl.1.2.1.1.2
  have t4₀ : gr M (gr M g₀ 0) 4 = t₀ + 2 := by rw [g0]; exact s4₀
  have t4n : gr M (gr M g₀ 0) 4 ≠ 0 := by omega
  have kw : kd M (gr M (gr M g₀ 0) 4) = 8 := by rw [t4₀]; exact tl.1.2.1.2.1.1
  have lw : ln M (gr M (gr M g₀ 0) 4) = 10 := by rw [t4₀]; exact tl.1.2.1.2.1.2
  have g3n : gr M g₀ 3 ≠ 0 := by omega
  have k3₀ : kd M (gr M g₀ 3) = 1 := by rw [g3₀]; exact ka
  have g4n : gr M g₀ 4 ≠ 0 := by omega
  have k4₀ : kd M (gr M g₀ 4) = 1 := by rw [g4]; exact kb
  have g5n : gr M g₀ 5 ≠ 0 := by omega
  have k5₀ : kd M (gr M g₀ 5) = 2 := by rw [g5₀]; exact kk
  have c1₀ := @cX3_sumIn D l hl M (t₀ + 3) (g₀ + 259) cl₀ (mh_tl_sm tl) ka V9.1
  have c2₀ := @cX3_filledIn D l hl M (t₀ + 3) (g₀ + 259) cl₀ (mh_tl_sm tl) ka
  rw [ha₀] at c1₀
  rw [hb₀] at c2₀
  have Q₀ : some (Sum.inr (Sum.inr (Sum.inr (Sum.inl (FP.ddiv (FP.i2d (Int32.ofInt a₀)) (FP.i2d (Int32.ofInt b₀)))))) : mg_V) = some (.inr (.inr (.inr (.inl (FP.ddiv (FP.i2d (Int32.ofInt a₀)) (FP.i2d (Int32.ofInt b₀))))))) ∧ M = M := ⟨rfl, rfl⟩
  clear V9 ha₀ hb₀
  clear G tl nb tbu clu ck cl₀
  refine hK₀ _ _ _ _ _ ?_
  (repeat' (((conv => whnf); first | (show (_ : Option mg_V) = _ ∧ _; assumption) | (show K _ _ _ _ _; assumption) | (show mm_th _ _ _ _; assumption) | refine And.intro (by first | assumption | omega | (simp only [true_and]; first | done | assumption | omega)) ?_ | (refine And.intro (fun _ => ?_) (fun _ => ?_) <;> first | (exfalso; omega) | skip) | intro _ | fail)))
  all_goals ((conv => whnf); (try rw [g0]); (try rw [s5]); (try rw [s3₀]); (try rw [s4₀]); (try rw [g3₀]); (try rw [g4]); (try rw [g5₀]))
  (refine Exists.intro _ (Exists.intro _ (And.intro (c2₀) (And.intro ?_ (fun _ _ h₀ => h₀.elim)))); rintro _ _ ⟨rfl, e₀⟩; have e2₀ := e₀.symm; clear e₀; subst e2₀)
  (repeat' (((conv => whnf); first | (show (_ : Option mg_V) = _ ∧ _; assumption) | (show K _ _ _ _ _; assumption) | (show mm_th _ _ _ _; assumption) | refine And.intro (by first | assumption | omega | (simp only [true_and]; first | done | assumption | omega)) ?_ | (refine And.intro (fun _ => ?_) (fun _ => ?_) <;> first | (exfalso; omega) | skip) | intro _ | fail)))
  all_goals ((conv => whnf); (try rw [g0]); (try rw [s5]); (try rw [s3₀]); (try rw [s4₀]); (try rw [g3₀]); (try rw [g4]); (try rw [g5₀]))
  (refine Exists.intro _ (Exists.intro _ (And.intro (c1₀) (And.intro ?_ (fun _ _ h₀ => h₀.elim)))); rintro _ _ ⟨rfl, e₀⟩; have e2₀ := e₀.symm; clear e₀; subst e2₀)
  (repeat' (((conv => whnf); first | (show (_ : Option mg_V) = _ ∧ _; assumption) | (show K _ _ _ _ _; assumption) | (show mm_th _ _ _ _; assumption) | refine And.intro (by first | assumption | omega | (simp only [true_and]; first | done | assumption | omega)) ?_ | (refine And.intro (fun _ => ?_) (fun _ => ?_) <;> first | (exfalso; omega) | skip) | intro _ | fail)))
set_option maxRecDepth 100000 in
theorem cX5_mean1 {D : mg_D} {l : Launch} (hl : l.stackTraces = false) {M : mg_M} {g₀ t₀ u₀ : Nat} (K9 : mh_K M g₀ t₀ u₀) (hb₀ : mh_sum (fun i₀ => (if mh_bi (mh_in M (gr M (t₀ + 3 + 1) i₀) (g₀ + 259)) = 0 then (0 : Int) else if gi M (gr M (t₀ + 3 + 1) i₀) 4 = 0 then (0 : Int) else 1)) (gi M (t₀ + 3) 0).toNat = 0) : mg_Mt D l 111 [.inr (.inl g₀)] M mh_nN (mh_tX 6 M) := by
  refine mg_of2 hl ok_X5_mean al_X5_mean rfl (fun K hK₀ => ?_)
  obtain ⟨⟨G, g1, g3₀, g4, g5₀⟩, ⟨ka, kb, kk, kg, ck⟩, pl, ⟨tl, nb⟩, ⟨tbu, clu⟩, rb⟩ := K9
  have k6₀ := G.1
  have g0 := G.2.1
  have kt := G.2.2.1
  have tn₀ := G.2.2.2
  have g0n : gr M g₀ 0 ≠ 0 := by omega
  have k0₀ : kd M (gr M g₀ 0) = 5 := by rw [g0]; exact kt
  have cl₀ := tl.2.1
  have bb := tl.1.2.2
  have s5 : gr M t₀ 5 = t₀ + 3 := tl.1.1.2.2.2.1
  have s3₀ : gr M t₀ 3 = t₀ + 1 := tl.1.1.2.1
  have s4₀ : gr M t₀ 4 = t₀ + 2 := tl.1.1.2.2.1
  have t5₀ : gr M (gr M g₀ 0) 5 = t₀ + 3 := by rw [g0]; exact s5
  have t5n : gr M (gr M g₀ 0) 5 ≠ 0 := by omega
  have kc₀ : kd M (gr M (gr M g₀ 0) 5) = 4 := by rw [t5₀]; exact cl₀.1
  have t3₀ : gr M (gr M g₀ 0) 3 = t₀ + 1 := by rw [g0]; exact s3₀
  have t3n : gr M (gr M g₀ 0) 3 ≠ 0 := by omega
  have kh : kd M (gr M (gr M g₀ 0) 3) = 8 := by rw [t3₀]; exact tl.1.2.1.1.1
  have lh : ln M (gr M (gr M g₀ 0) 3) = 12 := by rw [t3₀]; exact tl.1.2.1.1.2
  have t4₀ : gr M (gr M g₀ 0) 4 = t₀ + 2 := by rw [g0]; exact s4₀
  have t4n : gr M (gr M g₀ 0) 4 ≠ 0 := by omega
  have kw : kd M (gr M (gr M g₀ 0) 4) = 8 := by rw [t4₀]; exact tl.1.2.1.2.1.1
  have lw : ln M (gr M (gr M g₀ 0) 4) = 10 := by rw [t4₀]; exact tl.1.2.1.2.1.2
  have g3n : gr M g₀ 3 ≠ 0 := by omega
  have k3₀ : kd M (gr M g₀ 3) = 1 := by rw [g3₀]; exact ka
  have g4n : gr M g₀ 4 ≠ 0 := by omega
  have k4₀ : kd M (gr M g₀ 4) = 1 := by rw [g4]; exact kb
  have g5n : gr M g₀ 5 ≠ 0 := by omega
  have k5₀ : kd M (gr M g₀ 5) = 2 := by rw [g5₀]; exact kk
  have c2₀ := @cX3_filledIn D l hl M (t₀ + 3) (g₀ + 259) cl₀ (mh_tl_sm tl) ka
  rw [hb₀] at c2₀
  clear hb₀
  clear G tl nb tbu clu ck cl₀
  refine hK₀ _ _ _ _ _ ?_
  (repeat' (((conv => whnf); first | (show (_ : Option mg_V) = _ ∧ _; assumption) | (show K _ _ _ _ _; assumption) | (show mm_th _ _ _ _; assumption) | refine And.intro (by first | assumption | omega | (simp only [true_and]; first | done | assumption | omega)) ?_ | (refine And.intro (fun _ => ?_) (fun _ => ?_) <;> first | (exfalso; omega) | skip) | intro _ | fail)))
  all_goals ((conv => whnf); (try rw [g0]); (try rw [s5]); (try rw [s3₀]); (try rw [s4₀]); (try rw [g3₀]); (try rw [g4]); (try rw [g5₀]))
  (refine Exists.intro _ (Exists.intro _ (And.intro (c2₀) (And.intro ?_ (fun _ _ h₀ => h₀.elim)))); rintro _ _ ⟨rfl, e₀⟩; have e2₀ := e₀.symm; clear e₀; subst e2₀)
  (repeat' (((conv => whnf); first | (show (_ : Option mg_V) = _ ∧ _; assumption) | (show K _ _ _ _ _; assumption) | (show mm_th _ _ _ _; assumption) | refine And.intro (by first | assumption | omega | (simp only [true_and]; first | done | assumption | omega)) ?_ | (refine And.intro (fun _ => ?_) (fun _ => ?_) <;> first | (exfalso; omega) | skip) | intro _ | fail)))
  all_goals (first | exact ⟨_, by assumption, rfl⟩ | exact ⟨rfl, _, by assumption, rfl⟩)
set_option maxRecDepth 100000 in
theorem cX5_mergedShare {D : mg_D} {l : Launch} (hl : l.stackTraces = false) {M : mg_M} {g₀ t₀ u₀ : Nat} (K9 : mh_K M g₀ t₀ u₀) {n₀ : Int} (hn : mh_sum (fun i₀ => (if gi M (gr M (t₀ + 3 + 1) i₀) 2 * gi M (gr M (t₀ + 3 + 1) i₀) 3 ≤ 1 then (0 : Int) else gi M (gr M (t₀ + 3 + 1) i₀) 2 * gi M (gr M (t₀ + 3 + 1) i₀) 3)) (gi M (t₀ + 3) 0).toNat = n₀) (hq : vf_n32 (FP.fdiv (FP.i2f (Int32.ofInt n₀)) (FP.i2f (Int32.ofInt (gi M t₀ 0 * gi M t₀ 1))))) : mg_Mt D l 112 [.inr (.inl g₀)] M (fun v₀ N => v₀ = some (.inr (.inr (.inr (.inr (FP.fdiv (FP.i2f (Int32.ofInt n₀)) (FP.i2f (Int32.ofInt (gi M t₀ 0 * gi M t₀ 1)))))))) ∧ N = M) mg_no := by
  refine mg_of2 hl ok_X5_mergedShare al_X5_mergedShare rfl (fun K hK₀ => ?_)
  obtain ⟨⟨G, g1, g3₀, g4, g5₀⟩, ⟨ka, kb, kk, kg, ck⟩, pl, ⟨tl, nb⟩, ⟨tbu, clu⟩, rb⟩ := K9
  have k6₀ := G.1
  have g0 := G.2.1
  have kt := G.2.2.1
  have tn₀ := G.2.2.2
  have g0n : gr M g₀ 0 ≠ 0 := by omega
  have k0₀ : kd M (gr M g₀ 0) = 5 := by rw [g0]; exact kt
  have cl₀ := tl.2.1
  have bb := tl.1.2.2
  have s5 : gr M t₀ 5 = t₀ + 3 := tl.1.1.2.2.2.1
  have s3₀ : gr M t₀ 3 = t₀ + 1 := tl.1.1.2.1
  have s4₀ : gr M t₀ 4 = t₀ + 2 := tl.1.1.2.2.1
  have t5₀ : gr M (gr M g₀ 0) 5 = t₀ + 3 := by rw [g0]; exact s5
  have t5n : gr M (gr M g₀ 0) 5 ≠ 0 := by omega
  have kc₀ : kd M (gr M (gr M g₀ 0) 5) = 4 := by rw [t5₀]; exact cl₀.1
  have t3₀ : gr M (gr M g₀ 0) 3 = t₀ + 1 := by rw [g0]; exact s3₀
  have t3n : gr M (gr M g₀ 0) 3 ≠ 0 := by omega
  have kh : kd M (gr M (gr M g₀ 0) 3) = 8 := by rw [t3₀]; exact tl.1.2.1.1.1
  have lh : ln M (gr M (gr M g₀ 0) 3) = 12 := by rw [t3₀]; exact tl.1.2.1.1.2
  have t4₀ : gr M (gr M g₀ 0) 4 = t₀ + 2 := by rw [g0]; exact s4₀
  have t4n : gr M (gr M g₀ 0) 4 ≠ 0 := by omega
  have kw : kd M (gr M (gr M g₀ 0) 4) = 8 := by rw [t4₀]; exact tl.1.2.1.2.1.1
  have lw : ln M (gr M (gr M g₀ 0) 4) = 10 := by rw [t4₀]; exact tl.1.2.1.2.1.2
  have g3n : gr M g₀ 3 ≠ 0 := by omega
  have k3₀ : kd M (gr M g₀ 3) = 1 := by rw [g3₀]; exact ka
  have g4n : gr M g₀ 4 ≠ 0 := by omega
  have k4₀ : kd M (gr M g₀ 4) = 1 := by rw [g4]; exact kb
  have g5n : gr M g₀ 5 ≠ 0 := by omega
  have k5₀ : kd M (gr M g₀ 5) = 2 := by rw [g5₀]; exact kk
  have c1₀ := @cX3_mergedSquares D l hl M (t₀ + 3) cl₀ (mh_tl_sm tl) (fun i₀ hi => by
    have o := tl.2.2.1 i₀ hi
    unfold mh_ok at o
    have h1 := Int.mul_nonneg (show 0 ≤ gi M (gr M (t₀ + 3 + 1) i₀) 2 by omega) (show 0 ≤ gi M (gr M (t₀ + 3 + 1) i₀) 3 by omega)
    have h2 : gi M (gr M (t₀ + 3 + 1) i₀) 2 * gi M (gr M (t₀ + 3 + 1) i₀) 3 ≤ 12 * 10 := Int.mul_le_mul (by omega) (by omega) (by omega) (by omega)
    omega)
  rw [hn] at c1₀
  have pb : 0 < gi M t₀ 0 * gi M t₀ 1 := Int.mul_pos (by omega) (by omega)
  have pc : gi M t₀ 0 * gi M t₀ 1 ≤ 12 * 10 := Int.mul_le_mul (by omega) (by omega) (by omega) (by omega)
  have pd : gi M (gr M g₀ 0) 0 * gi M (gr M g₀ 0) 1 = gi M t₀ 0 * gi M t₀ 1 := by rw [g0]
  have Q₀ : some (Sum.inr (Sum.inr (Sum.inr (Sum.inr (FP.fdiv (FP.i2f (Int32.ofInt n₀)) (FP.i2f (Int32.ofInt (gi M t₀ 0 * gi M t₀ 1))))))) : mg_V) = some (.inr (.inr (.inr (.inr (FP.fdiv (FP.i2f (Int32.ofInt n₀)) (FP.i2f (Int32.ofInt (gi M t₀ 0 * gi M t₀ 1)))))))) ∧ M = M := ⟨rfl, rfl⟩
  clear hn
  clear G tl nb tbu clu ck cl₀
  refine hK₀ _ _ _ _ _ ?_
  (repeat' (((conv => whnf); first | (show (_ : Option mg_V) = _ ∧ _; assumption) | (show K _ _ _ _ _; assumption) | (show mm_th _ _ _ _; assumption) | refine And.intro (by first | assumption | omega | (simp only [true_and]; first | done | assumption | omega)) ?_ | (refine And.intro (fun _ => ?_) (fun _ => ?_) <;> first | (exfalso; omega) | skip) | intro _ | fail)))
  all_goals ((conv => whnf); (try rw [g0]); (try rw [s5]); (try rw [s3₀]); (try rw [s4₀]); (try rw [g3₀]); (try rw [g4]); (try rw [g5₀]))
  (refine Exists.intro _ (Exists.intro _ (And.intro (c1₀) (And.intro ?_ (fun _ _ h₀ => h₀.elim)))); rintro _ _ ⟨rfl, e₀⟩; have e2₀ := e₀.symm; clear e₀; subst e2₀)
  (repeat' (((conv => whnf); first | (show (_ : Option mg_V) = _ ∧ _; assumption) | (show K _ _ _ _ _; assumption) | (show mm_th _ _ _ _; assumption) | refine And.intro (by first | assumption | omega | (simp only [true_and]; first | done | assumption | omega)) ?_ | (refine And.intro (fun _ => ?_) (fun _ => ?_) <;> first | (exfalso; omega) | skip) | intro _ | fail)))
  all_goals ((conv => whnf); try exact Q₀)
set_option maxRecDepth 100000 in
theorem cX5_isTiled {D : mg_D} {l : Launch} (hl : l.stackTraces = false) {M : mg_M} {g₀ t₀ u₀ : Nat} (K9 : mh_K M g₀ t₀ u₀) : mg_Mt D l 113 [.inr (.inl g₀)] M (fun v₀ N => v₀ = some (.inl (mh_pr (¬ ∃ i₀ : Nat, (i₀ : Int) < gi M (t₀ + 3) 0 ∧ gi M (gr M (t₀ + 3 + 1) i₀) 0 < gi M t₀ 2 ∧ gi M t₀ 2 ≤ gi M (gr M (t₀ + 3 + 1) i₀) 0 + gi M (gr M (t₀ + 3 + 1) i₀) 2 - 1))) ∧ N = M) mg_no := by
  refine mg_of2 hl ok_X5_isTiled al_X5_isTiled rfl (fun K hK₀ => ?_)
  obtain ⟨⟨G, g1, g3₀, g4, g5₀⟩, ⟨ka, kb, kk, kg, ck⟩, pl, ⟨tl, nb⟩, ⟨tbu, clu⟩, rb⟩ := K9
  have k6₀ := G.1
  have g0 := G.2.1
  have kt := G.2.2.1
  have tn₀ := G.2.2.2
  have g0n : gr M g₀ 0 ≠ 0 := by omega
  have k0₀ : kd M (gr M g₀ 0) = 5 := by rw [g0]; exact kt
  have cl₀ := tl.2.1
  have bb := tl.1.2.2
  have s5 : gr M t₀ 5 = t₀ + 3 := tl.1.1.2.2.2.1
  have s3₀ : gr M t₀ 3 = t₀ + 1 := tl.1.1.2.1
  have s4₀ : gr M t₀ 4 = t₀ + 2 := tl.1.1.2.2.1
  have t5₀ : gr M (gr M g₀ 0) 5 = t₀ + 3 := by rw [g0]; exact s5
  have t5n : gr M (gr M g₀ 0) 5 ≠ 0 := by omega
  have kc₀ : kd M (gr M (gr M g₀ 0) 5) = 4 := by rw [t5₀]; exact cl₀.1
  have t3₀ : gr M (gr M g₀ 0) 3 = t₀ + 1 := by rw [g0]; exact s3₀
  have t3n : gr M (gr M g₀ 0) 3 ≠ 0 := by omega
  have kh : kd M (gr M (gr M g₀ 0) 3) = 8 := by rw [t3₀]; exact tl.1.2.1.1.1
  have lh : ln M (gr M (gr M g₀ 0) 3) = 12 := by rw [t3₀]; exact tl.1.2.1.1.2
  have t4₀ : gr M (gr M g₀ 0) 4 = t₀ + 2 := by rw [g0]; exact s4₀
  have t4n : gr M (gr M g₀ 0) 4 ≠ 0 := by omega
  have kw : kd M (gr M (gr M g₀ 0) 4) = 8 := by rw [t4₀]; exact tl.1.2.1.2.1.1
  have lw : ln M (gr M (gr M g₀ 0) 4) = 10 := by rw [t4₀]; exact tl.1.2.1.2.1.2
  have g3n : gr M g₀ 3 ≠ 0 := by omega
  have k3₀ : kd M (gr M g₀ 3) = 1 := by rw [g3₀]; exact ka
  have g4n : gr M g₀ 4 ≠ 0 := by omega
  have k4₀ : kd M (gr M g₀ 4) = 1 := by rw [g4]; exact kb
  have g5n : gr M g₀ 5 ≠ 0 := by omega
  have k5₀ : kd M (gr M g₀ 5) = 2 := by rw [g5₀]; exact kk
  have c1₀ := @cX4_isCoveredOnce D l hl M t₀ tl nb
  have c2₀ := @cX3_acrP D l hl M (t₀ + 3) (gi M t₀ 2) cl₀ (mh_tl_sm tl)
  by_cases p₀ : ∃ i₀ : Nat, (i₀ : Int) < gi M (t₀ + 3) 0 ∧ gi M (gr M (t₀ + 3 + 1) i₀) 0 < gi M t₀ 2 ∧ gi M t₀ 2 ≤ gi M (gr M (t₀ + 3 + 1) i₀) 0 + gi M (gr M (t₀ + 3 + 1) i₀) 2 - 1
  · rw [mh_pr1 p₀] at c2₀
    have Q₀ : some (Sum.inl 0 : mg_V) = some (.inl (mh_pr (¬ ∃ i₀ : Nat, (i₀ : Int) < gi M (t₀ + 3) 0 ∧ gi M (gr M (t₀ + 3 + 1) i₀) 0 < gi M t₀ 2 ∧ gi M t₀ 2 ≤ gi M (gr M (t₀ + 3 + 1) i₀) 0 + gi M (gr M (t₀ + 3 + 1) i₀) 2 - 1))) ∧ M = M := ⟨by rw [mh_pr0 (fun w₀ => w₀ p₀)], rfl⟩
    clear p₀
    clear G tl nb tbu clu ck cl₀
    refine hK₀ _ _ _ _ _ ?_
    (repeat' (((conv => whnf); first | (show (_ : Option mg_V) = _ ∧ _; assumption) | (show K _ _ _ _ _; assumption) | (show mm_th _ _ _ _; assumption) | refine And.intro (by first | assumption | omega | (simp only [true_and]; first | done | assumption | omega)) ?_ | (refine And.intro (fun _ => ?_) (fun _ => ?_) <;> first | (exfalso; omega) | skip) | intro _ | fail)))
    all_goals ((conv => whnf); (try rw [g0]); (try rw [s5]); (try rw [s3₀]); (try rw [s4₀]); (try rw [g3₀]); (try rw [g4]); (try rw [g5₀]))
    (refine Exists.intro _ (Exists.intro _ (And.intro (c1₀) (And.intro ?_ (fun _ _ h₀ => h₀.elim)))); rintro _ _ ⟨rfl, e₀⟩; have e2₀ := e₀.symm; clear e₀; subst e2₀)
    (repeat' (((conv => whnf); first | (show (_ : Option mg_V) = _ ∧ _; assumption) | (show K _ _ _ _ _; assumption) | (show mm_th _ _ _ _; assumption) | refine And.intro (by first | assumption | omega | (simp only [true_and]; first | done | assumption | omega)) ?_ | (refine And.intro (fun _ => ?_) (fun _ => ?_) <;> first | (exfalso; omega) | skip) | intro _ | fail)))
    all_goals ((conv => whnf); (try rw [g0]); (try rw [s5]); (try rw [s3₀]); (try rw [s4₀]); (try rw [g3₀]); (try rw [g4]); (try rw [g5₀]))
    (refine Exists.intro _ (Exists.intro _ (And.intro (c2₀) (And.intro ?_ (fun _ _ h₀ => h₀.elim)))); rintro _ _ ⟨rfl, e₀⟩; have e2₀ := e₀.symm; clear e₀; subst e2₀)
    (repeat' (((conv => whnf); first | (show (_ : Option mg_V) = _ ∧ _; assumption) | (show K _ _ _ _ _; assumption) | (show mm_th _ _ _ _; assumption) | refine And.intro (by first | assumption | omega | (simp only [true_and]; first | done | assumption | omega)) ?_ | (refine And.intro (fun _ => ?_) (fun _ => ?_) <;> first | (exfalso; omega) | skip) | intro _ | fail)))
  · rw [mh_pr0 p₀] at c2₀
    have Q₀ : some (Sum.inl 1 : mg_V) = some (.inl (mh_pr (¬ ∃ i₀ : Nat, (i₀ : Int) < gi M (t₀ + 3) 0 ∧ gi M (gr M (t₀ + 3 + 1) i₀) 0 < gi M t₀ 2 ∧ gi M t₀ 2 ≤ gi M (gr M (t₀ + 3 + 1) i₀) 0 + gi M (gr M (t₀ + 3 + 1) i₀) 2 - 1))) ∧ M = M := ⟨by rw [mh_pr1 p₀], rfl⟩
    clear p₀
    clear G tl nb tbu clu ck cl₀
    refine hK₀ _ _ _ _ _ ?_
    (repeat' (((conv => whnf); first | (show (_ : Option mg_V) = _ ∧ _; assumption) | (show K _ _ _ _ _; assumption) | (show mm_th _ _ _ _; assumption) | refine And.intro (by first | assumption | omega | (simp only [true_and]; first | done | assumption | omega)) ?_ | (refine And.intro (fun _ => ?_) (fun _ => ?_) <;> first | (exfalso; omega) | skip) | intro _ | fail)))
    all_goals ((conv => whnf); (try rw [g0]); (try rw [s5]); (try rw [s3₀]); (try rw [s4₀]); (try rw [g3₀]); (try rw [g4]); (try rw [g5₀]))
    (refine Exists.intro _ (Exists.intro _ (And.intro (c1₀) (And.intro ?_ (fun _ _ h₀ => h₀.elim)))); rintro _ _ ⟨rfl, e₀⟩; have e2₀ := e₀.symm; clear e₀; subst e2₀)
    (repeat' (((conv => whnf); first | (show (_ : Option mg_V) = _ ∧ _; assumption) | (show K _ _ _ _ _; assumption) | (show mm_th _ _ _ _; assumption) | refine And.intro (by first | assumption | omega | (simp only [true_and]; first | done | assumption | omega)) ?_ | (refine And.intro (fun _ => ?_) (fun _ => ?_) <;> first | (exfalso; omega) | skip) | intro _ | fail)))
    all_goals ((conv => whnf); (try rw [g0]); (try rw [s5]); (try rw [s3₀]); (try rw [s4₀]); (try rw [g3₀]); (try rw [g4]); (try rw [g5₀]))
    (refine Exists.intro _ (Exists.intro _ (And.intro (c2₀) (And.intro ?_ (fun _ _ h₀ => h₀.elim)))); rintro _ _ ⟨rfl, e₀⟩; have e2₀ := e₀.symm; clear e₀; subst e2₀)
    (repeat' (((conv => whnf); first | (show (_ : Option mg_V) = _ ∧ _; assumption) | (show K _ _ _ _ _; assumption) | (show mm_th _ _ _ _; assumption) | refine And.intro (by first | assumption | omega | (simp only [true_and]; first | done | assumption | omega)) ?_ | (refine And.intro (fun _ => ?_) (fun _ => ?_) <;> first | (exfalso; omega) | skip) | intro _ | fail)))
