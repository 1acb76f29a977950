/-! MergeGrid: drag, even, takeBack, copy₀; throws₀; the constructor -/
set_option maxRecDepth 100000 in
theorem cX5_drag0 {D : mg_D} {l : Launch} (hl : l.stackTraces = false) {M : mg_M} {g₀ t₀ u₀ : Nat} {c₀ x₀ : Int} (K9 : mh_K M g₀ t₀ u₀) (V9 : mh_V M t₀) (h₀ : 0 ≤ c₀ ∧ c₀ + 1 < gi M t₀ 1) (h2 : (10 ≤ gi M (t₀ + 2) c₀.toNat + x₀ ∧ gi M (t₀ + 2) c₀.toNat + x₀ ≤ 200) ∧ (10 ≤ gi M (t₀ + 2) (c₀ + 1).toNat - x₀ ∧ gi M (t₀ + 2) (c₀ + 1).toNat - x₀ ≤ 200)) : mg_Mt D l 105 [.inr (.inl g₀), .inl c₀, .inl x₀] M (fun v₀ N => v₀ = some (.inl (gi M (t₀ + 2) c₀.toNat + x₀)) ∧ ∃ N1, mh_rmb M N1 g₀ t₀ u₀ ∧ N = si (si N1 (t₀ + 2) c₀.toNat (gi M (t₀ + 2) c₀.toNat + x₀)) (t₀ + 2) (c₀ + 1).toNat (gi M (t₀ + 2) (c₀ + 1).toNat - x₀)) mg_no := by
  refine mg_of2 hl ok_X5_drag al_X5_drag rfl (fun K hK₀ => ?_)
  have F9 := mh_gF_of K9
  have K0 := K9
  obtain ⟨⟨G, w1₀, w3₀, w4₀, w5⟩, _, wpl, ⟨tl, nb⟩, ⟨tbu, clu⟩, rb⟩ := K0
  have RM₀ := @cX5_remember D l hl M g₀ t₀ u₀ G w1₀ (by omega) tl.1 tbu tl.2.1 clu (by omega)
  have bb := tl.1.2.2
  have G0' := G
  have tlM := tl
  have nbM := nb
  have ck := @cX5_checkColumn0 D l hl M g₀ t₀ c₀ G (by omega)
  have i1₀ := @cX5_isWidth D l hl M (gi M (t₀ + 2) c₀.toNat + x₀)
  have i2₀ := @cX5_isWidth D l hl M (gi M (t₀ + 2) (c₀ + 1).toNat - x₀)
  rw [if_pos h2.1] at i1₀
  rw [if_pos h2.2] at i2₀
  have w1' := V9.2.1 c₀.toNat (by omega)
  have w2' := V9.2.1 (c₀ + 1).toNat (by omega)
  obtain ⟨⟨k6₀, g0, g1, g3₀, g4, g5₀⟩, ⟨kt, s5, s3₀, s4₀, kct, ⟨kht, lht⟩, ⟨kwt, lwt⟩⟩, ⟨ku, r5₀, r3, r4, kcu, ⟨khu, lhu⟩, ⟨kwu, lwu⟩⟩, ⟨ka, kb, kk, kg, kbc⟩, pl⟩ := F9
  have g0n : gr M g₀ 0 ≠ 0 := by omega
  have g0k : kd M (gr M g₀ 0) = 5 := by rw [g0]; exact kt
  have g1n : gr M g₀ 1 ≠ 0 := by omega
  have g1k : kd M (gr M g₀ 1) = 5 := by rw [g1]; exact ku
  have g3n : gr M g₀ 3 ≠ 0 := by omega
  have g3k : kd M (gr M g₀ 3) = 1 := by rw [g3₀]; exact ka
  have g4n : gr M g₀ 4 ≠ 0 := by omega
  have g4k : kd M (gr M g₀ 4) = 1 := by rw [g4]; exact kb
  have g5n : gr M g₀ 5 ≠ 0 := by omega
  have g5k : kd M (gr M g₀ 5) = 2 := by rw [g5₀]; exact kk
  have t5₀ : gr M (gr M g₀ 0) 5 = t₀ + 3 := by rw [g0]; exact s5
  have t5n : gr M (gr M g₀ 0) 5 ≠ 0 := by omega
  have t5k : kd M (gr M (gr M g₀ 0) 5) = 4 := by rw [t5₀]; exact kct
  have t3₀ : gr M (gr M g₀ 0) 3 = t₀ + 1 := by rw [g0]; exact s3₀
  have t3n : gr M (gr M g₀ 0) 3 ≠ 0 := by omega
  have t3k : kd M (gr M (gr M g₀ 0) 3) = 8 := by rw [t3₀]; exact kht
  have t3l : ln M (gr M (gr M g₀ 0) 3) = 12 := by rw [t3₀]; exact lht
  have t4₀ : gr M (gr M g₀ 0) 4 = t₀ + 2 := by rw [g0]; exact s4₀
  have t4n : gr M (gr M g₀ 0) 4 ≠ 0 := by omega
  have t4k : kd M (gr M (gr M g₀ 0) 4) = 8 := by rw [t4₀]; exact kwt
  have t4l : ln M (gr M (gr M g₀ 0) 4) = 10 := by rw [t4₀]; exact lwt
  have u5 : gr M (gr M g₀ 1) 5 = u₀ + 3 := by rw [g1]; exact r5₀
  have u5n : gr M (gr M g₀ 1) 5 ≠ 0 := by omega
  have u5k : kd M (gr M (gr M g₀ 1) 5) = 4 := by rw [u5]; exact kcu
  have u3 : gr M (gr M g₀ 1) 3 = u₀ + 1 := by rw [g1]; exact r3
  have u3n : gr M (gr M g₀ 1) 3 ≠ 0 := by omega
  have u3k : kd M (gr M (gr M g₀ 1) 3) = 8 := by rw [u3]; exact khu
  have u3l : ln M (gr M (gr M g₀ 1) 3) = 12 := by rw [u3]; exact lhu
  have u4₀ : gr M (gr M g₀ 1) 4 = u₀ + 2 := by rw [g1]; exact r4
  have u4n : gr M (gr M g₀ 1) 4 ≠ 0 := by omega
  have u4k : kd M (gr M (gr M g₀ 1) 4) = 8 := by rw [u4₀]; exact kwu
  have u4l : ln M (gr M (gr M g₀ 1) 4) = 10 := by rw [u4₀]; exact lwu
  have e0₀ : gi M (gr M g₀ 0) 0 = gi M t₀ 0 := by rw [g0]
  have e1₀ : gi M (gr M g₀ 0) 1 = gi M t₀ 1 := by rw [g0]
  have e2₀ : gi M (gr M g₀ 0) 2 = gi M t₀ 2 := by rw [g0]
  clear G w1₀ w3₀ w4₀ w5 tl nb tbu clu G0' V9
  have wc : gi M (gr M (gr M g₀ 0) 4) c₀.toNat = gi M (t₀ + 2) c₀.toNat := by rw [t4₀]
  have wd : gi M (gr M (gr M g₀ 0) 4) (c₀ + 1).toNat = gi M (t₀ + 2) (c₀ + 1).toNat := by rw [t4₀]
  refine hK₀ _ _ _ _ _ ?_
  (repeat' (((conv => whnf); first | (show (_ : Option mg_V) = _ ∧ _; assumption) | (show K _ _ _ _ _; assumption) | (show mm_th _ _ _ _; assumption) | refine And.intro (by first | assumption | omega | (simp only [true_and]; first | done | assumption | omega)) ?_ | (refine And.intro (fun _ => ?_) (fun _ => ?_) <;> first | (exfalso; omega) | skip) | intro _ | fail)))
  all_goals (try ((conv => whnf); (refine Exists.intro _ (Exists.intro _ (And.intro (ck) (And.intro ?_ (fun _ _ h₀ => h₀.elim)))); rintro _ _ ⟨rfl, e₀⟩; have e2₀ := e₀.symm; clear e₀; subst e2₀); (repeat' (((conv => whnf); first | (show (_ : Option mg_V) = _ ∧ _; assumption) | (show K _ _ _ _ _; assumption) | (show mm_th _ _ _ _; assumption) | refine And.intro (by first | assumption | omega | (simp only [true_and]; first | done | assumption | omega)) ?_ | (refine And.intro (fun _ => ?_) (fun _ => ?_) <;> first | (exfalso; omega) | skip) | intro _ | fail)))))
  all_goals ((conv => whnf); (try rw [wc]); (try rw [wd]))
  (refine Exists.intro _ (Exists.intro _ (And.intro (i1₀) (And.intro ?_ (fun _ _ h₀ => h₀.elim)))); rintro _ _ ⟨rfl, e₀⟩; have e2₀ := e₀.symm; clear e₀; subst e2₀)
  (repeat' (((conv => whnf); first | (show (_ : Option mg_V) = _ ∧ _; assumption) | (show K _ _ _ _ _; assumption) | (show mm_th _ _ _ _; assumption) | refine And.intro (by first | assumption | omega | (simp only [true_and]; first | done | assumption | omega)) ?_ | (refine And.intro (fun _ => ?_) (fun _ => ?_) <;> first | (exfalso; omega) | skip) | intro _ | fail)))
  all_goals ((conv => whnf); (try rw [wc]); (try rw [wd]))
  (refine Exists.intro _ (Exists.intro _ (And.intro (i2₀) (And.intro ?_ (fun _ _ h₀ => h₀.elim)))); rintro _ _ ⟨rfl, e₀⟩; have e2₀ := e₀.symm; clear e₀; subst e2₀)
  (repeat' (((conv => whnf); first | (show (_ : Option mg_V) = _ ∧ _; assumption) | (show K _ _ _ _ _; assumption) | (show mm_th _ _ _ _; assumption) | refine And.intro (by first | assumption | omega | (simp only [true_and]; first | done | assumption | omega)) ?_ | (refine And.intro (fun _ => ?_) (fun _ => ?_) <;> first | (exfalso; omega) | skip) | intro _ | fail)))
  all_goals ((conv => whnf); skip)
  refine Exists.intro _ (Exists.intro _ (And.intro (RM₀) (And.intro ?_ (fun _ _ h₀ => h₀.elim))))
  rintro _ N1 ⟨rfl, Rr⟩
  obtain ⟨K1, E1₀, FR, h21⟩ := mh_rmb_K K9 Rr
  clear RM₀
  obtain ⟨tl1, nb1⟩ := K1.2.2.2.1
  have v1₀ := (E1₀ t₀ (by omega) (by omega)).2.2.2
  have v10 := v1₀ 0
  have v11 := v1₀ 1
  have v12 := v1₀ 2
  have F1₀ := mh_gF_of K1
  have UR₀ := mh_rmb_u Rr (by omega)
  clear u4l u4k u4n u4₀ u3l u3k u3n u3 u5k u5n u5 t4l t4k t4n t4₀ t3l t3k t3n t3₀ t5k t5n t5₀ g5k g5n g4k g4n g3k g3n g1k g1n g0k g0n pl kbc kg kk kb ka lwu kwu lhu khu kcu r4 r3 r5₀ ku lwt kwt lht kht kct s4₀ s3₀ s5 kt g5₀ g4 g3₀ g1 g0 k6₀
  obtain ⟨⟨k61_, g01_, g11_, g31_, g41_, g51_⟩, ⟨kt1_, s51_, s31_, s41_, kct1_, ⟨kht1_, lht1_⟩, ⟨kwt1_, lwt1_⟩⟩, ⟨ku1_, r51_, r31_, r41_, kcu1_, ⟨khu1_, lhu1_⟩, ⟨kwu1_, lwu1_⟩⟩, ⟨ka1_, kb1_, kk1_, kg1_, kbc1_⟩, pl1_⟩ := F1₀
  have g0n1_ : gr N1 g₀ 0 ≠ 0 := by omega
  have g0k1_ : kd N1 (gr N1 g₀ 0) = 5 := by rw [g01_]; exact kt1_
  have g1n1_ : gr N1 g₀ 1 ≠ 0 := by omega
  have g1k1_ : kd N1 (gr N1 g₀ 1) = 5 := by rw [g11_]; exact ku1_
  have g3n1_ : gr N1 g₀ 3 ≠ 0 := by omega
  have g3k1_ : kd N1 (gr N1 g₀ 3) = 1 := by rw [g31_]; exact ka1_
  have g4n1_ : gr N1 g₀ 4 ≠ 0 := by omega
  have g4k1_ : kd N1 (gr N1 g₀ 4) = 1 := by rw [g41_]; exact kb1_
  have g5n1_ : gr N1 g₀ 5 ≠ 0 := by omega
  have g5k1_ : kd N1 (gr N1 g₀ 5) = 2 := by rw [g51_]; exact kk1_
  have t51_ : gr N1 (gr N1 g₀ 0) 5 = t₀ + 3 := by rw [g01_]; exact s51_
  have t5n1_ : gr N1 (gr N1 g₀ 0) 5 ≠ 0 := by omega
  have t5k1_ : kd N1 (gr N1 (gr N1 g₀ 0) 5) = 4 := by rw [t51_]; exact kct1_
  have t31_ : gr N1 (gr N1 g₀ 0) 3 = t₀ + 1 := by rw [g01_]; exact s31_
  have t3n1_ : gr N1 (gr N1 g₀ 0) 3 ≠ 0 := by omega
  have t3k1_ : kd N1 (gr N1 (gr N1 g₀ 0) 3) = 8 := by rw [t31_]; exact kht1_
  have t3l1_ : ln N1 (gr N1 (gr N1 g₀ 0) 3) = 12 := by rw [t31_]; exact lht1_
  have t41_ : gr N1 (gr N1 g₀ 0) 4 = t₀ + 2 := by rw [g01_]; exact s41_
  have t4n1_ : gr N1 (gr N1 g₀ 0) 4 ≠ 0 := by omega
  have t4k1_ : kd N1 (gr N1 (gr N1 g₀ 0) 4) = 8 := by rw [t41_]; exact kwt1_
  have t4l1_ : ln N1 (gr N1 (gr N1 g₀ 0) 4) = 10 := by rw [t41_]; exact lwt1_
  have u51_ : gr N1 (gr N1 g₀ 1) 5 = u₀ + 3 := by rw [g11_]; exact r51_
  have u5n1_ : gr N1 (gr N1 g₀ 1) 5 ≠ 0 := by omega
  have u5k1_ : kd N1 (gr N1 (gr N1 g₀ 1) 5) = 4 := by rw [u51_]; exact kcu1_
  have u31_ : gr N1 (gr N1 g₀ 1) 3 = u₀ + 1 := by rw [g11_]; exact r31_
  have u3n1_ : gr N1 (gr N1 g₀ 1) 3 ≠ 0 := by omega
  have u3k1_ : kd N1 (gr N1 (gr N1 g₀ 1) 3) = 8 := by rw [u31_]; exact khu1_
  have u3l1_ : ln N1 (gr N1 (gr N1 g₀ 1) 3) = 12 := by rw [u31_]; exact lhu1_
  have u41_ : gr N1 (gr N1 g₀ 1) 4 = u₀ + 2 := by rw [g11_]; exact r41_
  have u4n1_ : gr N1 (gr N1 g₀ 1) 4 ≠ 0 := by omega
  have u4k1_ : kd N1 (gr N1 (gr N1 g₀ 1) 4) = 8 := by rw [u41_]; exact kwu1_
  have u4l1_ : ln N1 (gr N1 (gr N1 g₀ 1) 4) = 10 := by rw [u41_]; exact lwu1_
  have Q₀ : some (Sum.inl (gi M (t₀ + 2) c₀.toNat + x₀) : mg_V) = some (.inl (gi M (t₀ + 2) c₀.toNat + x₀)) ∧ ∃ N2, mh_rmb M N2 g₀ t₀ u₀ ∧ si (si N1 (t₀ + 2) c₀.toNat (gi M (t₀ + 2) c₀.toNat + x₀)) (t₀ + 2) (c₀ + 1).toNat (gi M (t₀ + 2) (c₀ + 1).toNat - x₀) = si (si N2 (t₀ + 2) c₀.toNat (gi M (t₀ + 2) c₀.toNat + x₀)) (t₀ + 2) (c₀ + 1).toNat (gi M (t₀ + 2) (c₀ + 1).toNat - x₀) := ⟨rfl, N1, Rr, rfl⟩
  clear Rr K1 E1₀ FR K9 tlM nbM tl1 nb1 UR₀
  (repeat' (((conv => whnf); first | (show (_ : Option mg_V) = _ ∧ _; assumption) | (show K _ _ _ _ _; assumption) | (show mm_th _ _ _ _; assumption) | refine And.intro (by first | assumption | omega | (simp only [true_and]; first | done | assumption | omega)) ?_ | (refine And.intro (fun _ => ?_) (fun _ => ?_) <;> first | (exfalso; omega) | skip) | intro _ | fail)))
  all_goals ((conv => whnf); (try rw [wc]); rw [t41_])
  generalize hY : si N1 (t₀ + 2) c₀.toNat (gi M (t₀ + 2) c₀.toNat + x₀) = Y at *
  have y1 : kd Y g₀ = 6 := by rw [← hY]; exact k61_
  have y2 : gr Y g₀ 0 = t₀ := by rw [← hY]; exact g01_
  have y2n : gr Y g₀ 0 ≠ 0 := by omega
  have y3 : kd Y (gr Y g₀ 0) = 5 := by rw [y2, ← hY]; exact kt1_
  have y4 : gr Y (gr Y g₀ 0) 4 = t₀ + 2 := by rw [y2, ← hY]; exact s41_
  have y4n : gr Y (gr Y g₀ 0) 4 ≠ 0 := by omega
  have y5 : kd Y (gr Y (gr Y g₀ 0) 4) = 8 := by rw [y4, ← hY]; exact kwt1_
  have y6 : ln Y (gr Y (gr Y g₀ 0) 4) = 10 := by rw [y4, ← hY]; exact lwt1_
  (repeat' (((conv => whnf); first | (show (_ : Option mg_V) = _ ∧ _; assumption) | (show K _ _ _ _ _; assumption) | (show mm_th _ _ _ _; assumption) | refine And.intro (by first | assumption | omega | (simp only [true_and]; first | done | assumption | omega)) ?_ | (refine And.intro (fun _ => ?_) (fun _ => ?_) <;> first | (exfalso; omega) | skip) | intro _ | fail)))
  all_goals ((conv => whnf); (try rw [wd]); rw [y4])
  generalize hX : si Y (t₀ + 2) (c₀ + 1).toNat (gi M (t₀ + 2) (c₀ + 1).toNat - x₀) = X₀ at *
  have x1₀ : kd X₀ g₀ = 6 := by rw [← hX]; exact y1
  have x2₀ : gr X₀ g₀ 0 = t₀ := by rw [← hX]; exact y2
  have x2n : gr X₀ g₀ 0 ≠ 0 := by omega
  have x3 : kd X₀ (gr X₀ g₀ 0) = 5 := by rw [x2₀, ← hX, ← hY]; exact kt1_
  have x4₀ : gr X₀ (gr X₀ g₀ 0) 4 = t₀ + 2 := by rw [x2₀, ← hX, ← hY]; exact s41_
  have x4n : gr X₀ (gr X₀ g₀ 0) 4 ≠ 0 := by omega
  have x5₀ : kd X₀ (gr X₀ (gr X₀ g₀ 0) 4) = 8 := by rw [x4₀, ← hX, ← hY]; exact kwt1_
  have x6 : ln X₀ (gr X₀ (gr X₀ g₀ 0) 4) = 10 := by rw [x4₀, ← hX, ← hY]; exact lwt1_
  have x7 : gi X₀ (t₀ + 2) c₀.toNat = gi M (t₀ + 2) c₀.toNat + x₀ := by rw [← hX, ← hY, gi_si, if_neg (by omega), gi_si, if_pos ⟨rfl, rfl⟩]
  (repeat' (((conv => whnf); first | (show (_ : Option mg_V) = _ ∧ _; assumption) | (show K _ _ _ _ _; assumption) | (show mm_th _ _ _ _; assumption) | refine And.intro (by first | assumption | omega | (simp only [true_and]; first | done | assumption | omega)) ?_ | (refine And.intro (fun _ => ?_) (fun _ => ?_) <;> first | (exfalso; omega) | skip) | intro _ | fail)))
  all_goals ((conv => whnf); rw [x4₀, x7]; exact Q₀)
set_option maxRecDepth 100000 in
theorem cX5_drag1 {D : mg_D} {l : Launch} (hl : l.stackTraces = false) {M : mg_M} {g₀ t₀ u₀ : Nat} {c₀ x₀ : Int} (K9 : mh_K M g₀ t₀ u₀) (h₀ : ¬ (0 ≤ c₀ ∧ c₀ + 1 < gi M t₀ 1)) : mg_Mt D l 105 [.inr (.inl g₀), .inl c₀, .inl x₀] M mh_nN (mh_tX 1 M) := by
  refine mg_of2 hl ok_X5_drag al_X5_drag rfl (fun K hK₀ => ?_)
  have F9 := mh_gF_of K9
  obtain ⟨⟨k6₀, g0, g1, g3₀, g4, g5₀⟩, ⟨kt, s5, s3₀, s4₀, kct, ⟨kht, lht⟩, ⟨kwt, lwt⟩⟩, ⟨ku, r5₀, r3, r4, kcu, ⟨khu, lhu⟩, ⟨kwu, lwu⟩⟩, ⟨ka, kb, kk, kg, kbc⟩, pl⟩ := F9
  have g0n : gr M g₀ 0 ≠ 0 := by omega
  have g0k : kd M (gr M g₀ 0) = 5 := by rw [g0]; exact kt
  have g1n : gr M g₀ 1 ≠ 0 := by omega
  have g1k : kd M (gr M g₀ 1) = 5 := by rw [g1]; exact ku
  have g3n : gr M g₀ 3 ≠ 0 := by omega
  have g3k : kd M (gr M g₀ 3) = 1 := by rw [g3₀]; exact ka
  have g4n : gr M g₀ 4 ≠ 0 := by omega
  have g4k : kd M (gr M g₀ 4) = 1 := by rw [g4]; exact kb
  have g5n : gr M g₀ 5 ≠ 0 := by omega
  have g5k : kd M (gr M g₀ 5) = 2 := by rw [g5₀]; exact kk
  have t5₀ : gr M (gr M g₀ 0) 5 = t₀ + 3 := by rw [g0]; exact s5
  have t5n : gr M (gr M g₀ 0) 5 ≠ 0 := by omega
  have t5k : kd M (gr M (gr M g₀ 0) 5) = 4 := by rw [t5₀]; exact kct
  have t3₀ : gr M (gr M g₀ 0) 3 = t₀ + 1 := by rw [g0]; exact s3₀
  have t3n : gr M (gr M g₀ 0) 3 ≠ 0 := by omega
  have t3k : kd M (gr M (gr M g₀ 0) 3) = 8 := by rw [t3₀]; exact kht
  have t3l : ln M (gr M (gr M g₀ 0) 3) = 12 := by rw [t3₀]; exact lht
  have t4₀ : gr M (gr M g₀ 0) 4 = t₀ + 2 := by rw [g0]; exact s4₀
  have t4n : gr M (gr M g₀ 0) 4 ≠ 0 := by omega
  have t4k : kd M (gr M (gr M g₀ 0) 4) = 8 := by rw [t4₀]; exact kwt
  have t4l : ln M (gr M (gr M g₀ 0) 4) = 10 := by rw [t4₀]; exact lwt
  have u5 : gr M (gr M g₀ 1) 5 = u₀ + 3 := by rw [g1]; exact r5₀
  have u5n : gr M (gr M g₀ 1) 5 ≠ 0 := by omega
  have u5k : kd M (gr M (gr M g₀ 1) 5) = 4 := by rw [u5]; exact kcu
  have u3 : gr M (gr M g₀ 1) 3 = u₀ + 1 := by rw [g1]; exact r3
  have u3n : gr M (gr M g₀ 1) 3 ≠ 0 := by omega
  have u3k : kd M (gr M (gr M g₀ 1) 3) = 8 := by rw [u3]; exact khu
  have u3l : ln M (gr M (gr M g₀ 1) 3) = 12 := by rw [u3]; exact lhu
  have u4₀ : gr M (gr M g₀ 1) 4 = u₀ + 2 := by rw [g1]; exact r4
  have u4n : gr M (gr M g₀ 1) 4 ≠ 0 := by omega
  have u4k : kd M (gr M (gr M g₀ 1) 4) = 8 := by rw [u4₀]; exact kwu
  have u4l : ln M (gr M (gr M g₀ 1) 4) = 10 := by rw [u4₀]; exact lwu
  have e0₀ : gi M (gr M g₀ 0) 0 = gi M t₀ 0 := by rw [g0]
  have e1₀ : gi M (gr M g₀ 0) 1 = gi M t₀ 1 := by rw [g0]
  have e2₀ : gi M (gr M g₀ 0) 2 = gi M t₀ 2 := by rw [g0]
  by_cases h1 : 0 ≤ c₀ ∧ c₀ < gi M t₀ 1
  · have c1₀ := @cX5_checkColumn0 D l hl M g₀ t₀ c₀ K9.1.1 h1
    have bb := K9.2.2.2.1.1.1.2.2
    clear K9
    refine hK₀ _ _ _ _ _ ?_
    (repeat' (((conv => whnf); first | (show (_ : Option mg_V) = _ ∧ _; assumption) | (show K _ _ _ _ _; assumption) | (show mm_th _ _ _ _; assumption) | refine And.intro (by first | assumption | omega | (simp only [true_and]; first | done | assumption | omega)) ?_ | (refine And.intro (fun _ => ?_) (fun _ => ?_) <;> first | (exfalso; omega) | skip) | intro _ | fail)))
    all_goals (try ((conv => whnf); (refine Exists.intro _ (Exists.intro _ (And.intro (c1₀) (And.intro ?_ (fun _ _ h₀ => h₀.elim)))); rintro _ _ ⟨rfl, e₀⟩; have e2₀ := e₀.symm; clear e₀; subst e2₀); (repeat' (((conv => whnf); first | (show (_ : Option mg_V) = _ ∧ _; assumption) | (show K _ _ _ _ _; assumption) | (show mm_th _ _ _ _; assumption) | refine And.intro (by first | assumption | omega | (simp only [true_and]; first | done | assumption | omega)) ?_ | (refine And.intro (fun _ => ?_) (fun _ => ?_) <;> first | (exfalso; omega) | skip) | intro _ | fail)))))
    all_goals (first | exact ⟨_, by assumption, rfl⟩ | (exfalso; omega))
  · have c1₀ := @cX5_checkColumn1 D l hl M g₀ t₀ c₀ K9.1.1 h1
    clear K9
    refine hK₀ _ _ _ _ _ ?_
    (repeat' (((conv => whnf); first | (show (_ : Option mg_V) = _ ∧ _; assumption) | (show K _ _ _ _ _; assumption) | (show mm_th _ _ _ _; assumption) | refine And.intro (by first | assumption | omega | (simp only [true_and]; first | done | assumption | omega)) ?_ | (refine And.intro (fun _ => ?_) (fun _ => ?_) <;> first | (exfalso; omega) | skip) | intro _ | fail)))
    all_goals ((conv => whnf); skip)
    (refine Exists.intro _ (Exists.intro _ (And.intro (c1₀) (And.intro (fun _ _ h₀ => h₀.elim) ?_))); rintro _ _ ⟨rfl, n9, hn9, rfl⟩; (conv => whnf); first | exact ⟨rfl, n9, hn9, rfl⟩ | exact ⟨n9, hn9, rfl⟩)
set_option maxRecDepth 100000 in
theorem cX5_drag2 {D : mg_D} {l : Launch} (hl : l.stackTraces = false) {M : mg_M} {g₀ t₀ u₀ : Nat} {c₀ x₀ : Int} (K9 : mh_K M g₀ t₀ u₀) (V9 : mh_V M t₀) (h₀ : 0 ≤ c₀ ∧ c₀ + 1 < gi M t₀ 1) (xb : -2147483648 ≤ x₀ ∧ x₀ < 2147483648) (h2 : ¬ ((10 ≤ gi M (t₀ + 2) c₀.toNat + x₀ ∧ gi M (t₀ + 2) c₀.toNat + x₀ ≤ 200) ∧ (10 ≤ gi M (t₀ + 2) (c₀ + 1).toNat - x₀ ∧ gi M (t₀ + 2) (c₀ + 1).toNat - x₀ ≤ 200))) : mg_Mt D l 105 [.inr (.inl g₀), .inl c₀, .inl x₀] M mh_nN (mh_tX 4 M) := by
  refine mg_of2 hl ok_X5_drag al_X5_drag rfl (fun K hK₀ => ?_)
  have F9 := mh_gF_of K9
  obtain ⟨⟨k6₀, g0, g1, g3₀, g4, g5₀⟩, ⟨kt, s5, s3₀, s4₀, kct, ⟨kht, lht⟩, ⟨kwt, lwt⟩⟩, ⟨ku, r5₀, r3, r4, kcu, ⟨khu, lhu⟩, ⟨kwu, lwu⟩⟩, ⟨ka, kb, kk, kg, kbc⟩, pl⟩ := F9
  have g0n : gr M g₀ 0 ≠ 0 := by omega
  have g0k : kd M (gr M g₀ 0) = 5 := by rw [g0]; exact kt
  have g1n : gr M g₀ 1 ≠ 0 := by omega
  have g1k : kd M (gr M g₀ 1) = 5 := by rw [g1]; exact ku
  have g3n : gr M g₀ 3 ≠ 0 := by omega
  have g3k : kd M (gr M g₀ 3) = 1 := by rw [g3₀]; exact ka
  have g4n : gr M g₀ 4 ≠ 0 := by omega
  have g4k : kd M (gr M g₀ 4) = 1 := by rw [g4]; exact kb
  have g5n : gr M g₀ 5 ≠ 0 := by omega
  have g5k : kd M (gr M g₀ 5) = 2 := by rw [g5₀]; exact kk
  have t5₀ : gr M (gr M g₀ 0) 5 = t₀ + 3 := by rw [g0]; exact s5
  have t5n : gr M (gr M g₀ 0) 5 ≠ 0 := by omega
  have t5k : kd M (gr M (gr M g₀ 0) 5) = 4 := by rw [t5₀]; exact kct
  have t3₀ : gr M (gr M g₀ 0) 3 = t₀ + 1 := by rw [g0]; exact s3₀
  have t3n : gr M (gr M g₀ 0) 3 ≠ 0 := by omega
  have t3k : kd M (gr M (gr M g₀ 0) 3) = 8 := by rw [t3₀]; exact kht
  have t3l : ln M (gr M (gr M g₀ 0) 3) = 12 := by rw [t3₀]; exact lht
  have t4₀ : gr M (gr M g₀ 0) 4 = t₀ + 2 := by rw [g0]; exact s4₀
  have t4n : gr M (gr M g₀ 0) 4 ≠ 0 := by omega
  have t4k : kd M (gr M (gr M g₀ 0) 4) = 8 := by rw [t4₀]; exact kwt
  have t4l : ln M (gr M (gr M g₀ 0) 4) = 10 := by rw [t4₀]; exact lwt
  have u5 : gr M (gr M g₀ 1) 5 = u₀ + 3 := by rw [g1]; exact r5₀
  have u5n : gr M (gr M g₀ 1) 5 ≠ 0 := by omega
  have u5k : kd M (gr M (gr M g₀ 1) 5) = 4 := by rw [u5]; exact kcu
  have u3 : gr M (gr M g₀ 1) 3 = u₀ + 1 := by rw [g1]; exact r3
  have u3n : gr M (gr M g₀ 1) 3 ≠ 0 := by omega
  have u3k : kd M (gr M (gr M g₀ 1) 3) = 8 := by rw [u3]; exact khu
  have u3l : ln M (gr M (gr M g₀ 1) 3) = 12 := by rw [u3]; exact lhu
  have u4₀ : gr M (gr M g₀ 1) 4 = u₀ + 2 := by rw [g1]; exact r4
  have u4n : gr M (gr M g₀ 1) 4 ≠ 0 := by omega
  have u4k : kd M (gr M (gr M g₀ 1) 4) = 8 := by rw [u4₀]; exact kwu
  have u4l : ln M (gr M (gr M g₀ 1) 4) = 10 := by rw [u4₀]; exact lwu
  have e0₀ : gi M (gr M g₀ 0) 0 = gi M t₀ 0 := by rw [g0]
  have e1₀ : gi M (gr M g₀ 0) 1 = gi M t₀ 1 := by rw [g0]
  have e2₀ : gi M (gr M g₀ 0) 2 = gi M t₀ 2 := by rw [g0]
  have c1₀ := @cX5_checkColumn0 D l hl M g₀ t₀ c₀ K9.1.1 (by omega)
  have bb := K9.2.2.2.1.1.1.2.2
  have i1₀ := @cX5_isWidth D l hl M (gi M (t₀ + 2) c₀.toNat + x₀)
  have i2₀ := @cX5_isWidth D l hl M (gi M (t₀ + 2) (c₀ + 1).toNat - x₀)
  have w1' := V9.2.1 c₀.toNat (by omega)
  have w2' := V9.2.1 (c₀ + 1).toNat (by omega)
  have wc : gi M (gr M (gr M g₀ 0) 4) c₀.toNat = gi M (t₀ + 2) c₀.toNat := by rw [t4₀]
  have wd : gi M (gr M (gr M g₀ 0) 4) (c₀ + 1).toNat = gi M (t₀ + 2) (c₀ + 1).toNat := by rw [t4₀]
  clear K9 V9
  by_cases h3 : 10 ≤ gi M (t₀ + 2) c₀.toNat + x₀ ∧ gi M (t₀ + 2) c₀.toNat + x₀ ≤ 200
  · rw [if_pos h3] at i1₀
    rw [if_neg (fun w₀ => h2 ⟨h3, w₀⟩)] at i2₀
    refine hK₀ _ _ _ _ _ ?_
    (repeat' (((conv => whnf); first | (show (_ : Option mg_V) = _ ∧ _; assumption) | (show K _ _ _ _ _; assumption) | (show mm_th _ _ _ _; assumption) | refine And.intro (by first | assumption | omega | (simp only [true_and]; first | done | assumption | omega)) ?_ | (refine And.intro (fun _ => ?_) (fun _ => ?_) <;> first | (exfalso; omega) | skip) | intro _ | fail)))
    all_goals (try ((conv => whnf); (refine Exists.intro _ (Exists.intro _ (And.intro (c1₀) (And.intro ?_ (fun _ _ h₀ => h₀.elim)))); rintro _ _ ⟨rfl, e₀⟩; have e2₀ := e₀.symm; clear e₀; subst e2₀); (repeat' (((conv => whnf); first | (show (_ : Option mg_V) = _ ∧ _; assumption) | (show K _ _ _ _ _; assumption) | (show mm_th _ _ _ _; assumption) | refine And.intro (by first | assumption | omega | (simp only [true_and]; first | done | assumption | omega)) ?_ | (refine And.intro (fun _ => ?_) (fun _ => ?_) <;> first | (exfalso; omega) | skip) | intro _ | fail)))))
    all_goals ((conv => whnf); (try rw [wc]); (try rw [wd]))
    (refine Exists.intro _ (Exists.intro _ (And.intro (i1₀) (And.intro ?_ (fun _ _ h₀ => h₀.elim)))); rintro _ _ ⟨rfl, e₀⟩; have e2₀ := e₀.symm; clear e₀; subst e2₀)
    (repeat' (((conv => whnf); first | (show (_ : Option mg_V) = _ ∧ _; assumption) | (show K _ _ _ _ _; assumption) | (show mm_th _ _ _ _; assumption) | refine And.intro (by first | assumption | omega | (simp only [true_and]; first | done | assumption | omega)) ?_ | (refine And.intro (fun _ => ?_) (fun _ => ?_) <;> first | (exfalso; omega) | skip) | intro _ | fail)))
    all_goals ((conv => whnf); (try rw [wc]); (try rw [wd]))
    (refine Exists.intro _ (Exists.intro _ (And.intro (i2₀) (And.intro ?_ (fun _ _ h₀ => h₀.elim)))); rintro _ _ ⟨rfl, e₀⟩; have e2₀ := e₀.symm; clear e₀; subst e2₀)
    (repeat' (((conv => whnf); first | (show (_ : Option mg_V) = _ ∧ _; assumption) | (show K _ _ _ _ _; assumption) | (show mm_th _ _ _ _; assumption) | refine And.intro (by first | assumption | omega | (simp only [true_and]; first | done | assumption | omega)) ?_ | (refine And.intro (fun _ => ?_) (fun _ => ?_) <;> first | (exfalso; omega) | skip) | intro _ | fail)))
    all_goals (first | exact ⟨_, by assumption, rfl⟩ | exact ⟨rfl, _, by assumption, rfl⟩)
  · rw [if_neg h3] at i1₀
    refine hK₀ _ _ _ _ _ ?_
    (repeat' (((conv => whnf); first | (show (_ : Option mg_V) = _ ∧ _; assumption) | (show K _ _ _ _ _; assumption) | (show mm_th _ _ _ _; assumption) | refine And.intro (by first | assumption | omega | (simp only [true_and]; first | done | assumption | omega)) ?_ | (refine And.intro (fun _ => ?_) (fun _ => ?_) <;> first | (exfalso; omega) | skip) | intro _ | fail)))
    all_goals (try ((conv => whnf); (refine Exists.intro _ (Exists.intro _ (And.intro (c1₀) (And.intro ?_ (fun _ _ h₀ => h₀.elim)))); rintro _ _ ⟨rfl, e₀⟩; have e2₀ := e₀.symm; clear e₀; subst e2₀); (repeat' (((conv => whnf); first | (show (_ : Option mg_V) = _ ∧ _; assumption) | (show K _ _ _ _ _; assumption) | (show mm_th _ _ _ _; assumption) | refine And.intro (by first | assumption | omega | (simp only [true_and]; first | done | assumption | omega)) ?_ | (refine And.intro (fun _ => ?_) (fun _ => ?_) <;> first | (exfalso; omega) | skip) | intro _ | fail)))))
    all_goals ((conv => whnf); (try rw [wc]); (try rw [wd]))
    (refine Exists.intro _ (Exists.intro _ (And.intro (i1₀) (And.intro ?_ (fun _ _ h₀ => h₀.elim)))); rintro _ _ ⟨rfl, e₀⟩; have e2₀ := e₀.symm; clear e₀; subst e2₀)
    (repeat' (((conv => whnf); first | (show (_ : Option mg_V) = _ ∧ _; assumption) | (show K _ _ _ _ _; assumption) | (show mm_th _ _ _ _; assumption) | refine And.intro (by first | assumption | omega | (simp only [true_and]; first | done | assumption | omega)) ?_ | (refine And.intro (fun _ => ?_) (fun _ => ?_) <;> first | (exfalso; omega) | skip) | intro _ | fail)))
    all_goals (first | exact ⟨_, by assumption, rfl⟩ | exact ⟨rfl, _, by assumption, rfl⟩)
set_option maxRecDepth 100000 in
theorem cX5_even0 {D : mg_D} {l : Launch} (hl : l.stackTraces = false) {M : mg_M} {g₀ t₀ u₀ : Nat} {c₀ x₀ : Int} (K9 : mh_K M g₀ t₀ u₀) (V9 : mh_V M t₀) (h₀ : 0 ≤ c₀ ∧ c₀ < x₀ ∧ x₀ < gi M t₀ 1) : mg_Mt D l 106 [.inr (.inl g₀), .inl c₀, .inl x₀] M (fun v₀ N => v₀ = some (.inl (gi N (t₀ + 2) c₀.toNat)) ∧ ∃ N1, mh_rmb M N1 g₀ t₀ u₀ ∧ mm_f (fun a₀ _ => a₀ = t₀ + 2) N1 N ∧ ∀ k₀ : Nat, gi N (t₀ + 2) k₀ = if c₀ ≤ k₀ ∧ (k₀ : Int) ≤ x₀ then mh_wsum M (t₀ + 2) c₀ (x₀ - c₀ + 1) / (x₀ - c₀ + 1) + (if k₀ - c₀ < mh_wsum M (t₀ + 2) c₀ (x₀ - c₀ + 1) % (x₀ - c₀ + 1) then 1 else 0) else gi M (t₀ + 2) k₀) mg_no := by
  refine mg_of2 hl ok_X5_even al_X5_even rfl (fun K hK₀ => ?_)
  have F9 := mh_gF_of K9
  have K0 := K9
  obtain ⟨⟨G, w1₀, w3₀, w4₀, w5⟩, _, wpl, ⟨tl, nb⟩, ⟨tbu, clu⟩, rb⟩ := K0
  have RM₀ := @cX5_remember D l hl M g₀ t₀ u₀ G w1₀ (by omega) tl.1 tbu tl.2.1 clu (by omega)
  have bb := tl.1.2.2
  have G0' := G
  have tlM := tl
  have nbM := nb
  have ck := @cX5_checkColumn0 D l hl M g₀ t₀ c₀ G (by omega)
  have cx := @cX5_checkColumn0 D l hl M g₀ t₀ x₀ G (by omega)
  obtain ⟨⟨k6₀, g0, g1, g3₀, g4, g5₀⟩, ⟨kt, s5, s3₀, s4₀, kct, ⟨kht, lht⟩, ⟨kwt, lwt⟩⟩, ⟨ku, r5₀, r3, r4, kcu, ⟨khu, lhu⟩, ⟨kwu, lwu⟩⟩, ⟨ka, kb, kk, kg, kbc⟩, pl⟩ := F9
  have g0n : gr M g₀ 0 ≠ 0 := by omega
  have g0k : kd M (gr M g₀ 0) = 5 := by rw [g0]; exact kt
  have g1n : gr M g₀ 1 ≠ 0 := by omega
  have g1k : kd M (gr M g₀ 1) = 5 := by rw [g1]; exact ku
  have g3n : gr M g₀ 3 ≠ 0 := by omega
  have g3k : kd M (gr M g₀ 3) = 1 := by rw [g3₀]; exact ka
  have g4n : gr M g₀ 4 ≠ 0 := by omega
  have g4k : kd M (gr M g₀ 4) = 1 := by rw [g4]; exact kb
  have g5n : gr M g₀ 5 ≠ 0 := by omega
  have g5k : kd M (gr M g₀ 5) = 2 := by rw [g5₀]; exact kk
  have t5₀ : gr M (gr M g₀ 0) 5 = t₀ + 3 := by rw [g0]; exact s5
  have t5n : gr M (gr M g₀ 0) 5 ≠ 0 := by omega
  have t5k : kd M (gr M (gr M g₀ 0) 5) = 4 := by rw [t5₀]; exact kct
  have t3₀ : gr M (gr M g₀ 0) 3 = t₀ + 1 := by rw [g0]; exact s3₀
  have t3n : gr M (gr M g₀ 0) 3 ≠ 0 := by omega
  have t3k : kd M (gr M (gr M g₀ 0) 3) = 8 := by rw [t3₀]; exact kht
  have t3l : ln M (gr M (gr M g₀ 0) 3) = 12 := by rw [t3₀]; exact lht
  have t4₀ : gr M (gr M g₀ 0) 4 = t₀ + 2 := by rw [g0]; exact s4₀
  have t4n : gr M (gr M g₀ 0) 4 ≠ 0 := by omega
  have t4k : kd M (gr M (gr M g₀ 0) 4) = 8 := by rw [t4₀]; exact kwt
  have t4l : ln M (gr M (gr M g₀ 0) 4) = 10 := by rw [t4₀]; exact lwt
  have u5 : gr M (gr M g₀ 1) 5 = u₀ + 3 := by rw [g1]; exact r5₀
  have u5n : gr M (gr M g₀ 1) 5 ≠ 0 := by omega
  have u5k : kd M (gr M (gr M g₀ 1) 5) = 4 := by rw [u5]; exact kcu
  have u3 : gr M (gr M g₀ 1) 3 = u₀ + 1 := by rw [g1]; exact r3
  have u3n : gr M (gr M g₀ 1) 3 ≠ 0 := by omega
  have u3k : kd M (gr M (gr M g₀ 1) 3) = 8 := by rw [u3]; exact khu
  have u3l : ln M (gr M (gr M g₀ 1) 3) = 12 := by rw [u3]; exact lhu
  have u4₀ : gr M (gr M g₀ 1) 4 = u₀ + 2 := by rw [g1]; exact r4
  have u4n : gr M (gr M g₀ 1) 4 ≠ 0 := by omega
  have u4k : kd M (gr M (gr M g₀ 1) 4) = 8 := by rw [u4₀]; exact kwu
  have u4l : ln M (gr M (gr M g₀ 1) 4) = 10 := by rw [u4₀]; exact lwu
  have e0₀ : gi M (gr M g₀ 0) 0 = gi M t₀ 0 := by rw [g0]
  have e1₀ : gi M (gr M g₀ 0) 1 = gi M t₀ 1 := by rw [g0]
  have e2₀ : gi M (gr M g₀ 0) 2 = gi M t₀ 2 := by rw [g0]
  clear G w1₀ w3₀ w4₀ w5 tl nb tbu clu G0'
  refine hK₀ _ _ _ _ _ ?_
  (repeat' (((conv => whnf); first | (show (_ : Option mg_V) = _ ∧ _; assumption) | (show K _ _ _ _ _; assumption) | (show mm_th _ _ _ _; assumption) | refine And.intro (by first | assumption | omega | (simp only [true_and]; first | done | assumption | omega)) ?_ | (refine And.intro (fun _ => ?_) (fun _ => ?_) <;> first | (exfalso; omega) | skip) | intro _ | fail)))
  all_goals (try ((conv => whnf); (refine Exists.intro _ (Exists.intro _ (And.intro (ck) (And.intro ?_ (fun _ _ h₀ => h₀.elim)))); rintro _ _ ⟨rfl, e₀⟩; have e2₀ := e₀.symm; clear e₀; subst e2₀); (repeat' (((conv => whnf); first | (show (_ : Option mg_V) = _ ∧ _; assumption) | (show K _ _ _ _ _; assumption) | (show mm_th _ _ _ _; assumption) | refine And.intro (by first | assumption | omega | (simp only [true_and]; first | done | assumption | omega)) ?_ | (refine And.intro (fun _ => ?_) (fun _ => ?_) <;> first | (exfalso; omega) | skip) | intro _ | fail)))))
  all_goals (try ((conv => whnf); (refine Exists.intro _ (Exists.intro _ (And.intro (cx) (And.intro ?_ (fun _ _ h₀ => h₀.elim)))); rintro _ _ ⟨rfl, e₀⟩; have e2₀ := e₀.symm; clear e₀; subst e2₀); (repeat' (((conv => whnf); first | (show (_ : Option mg_V) = _ ∧ _; assumption) | (show K _ _ _ _ _; assumption) | (show mm_th _ _ _ _; assumption) | refine And.intro (by first | assumption | omega | (simp only [true_and]; first | done | assumption | omega)) ?_ | (refine And.intro (fun _ => ?_) (fun _ => ?_) <;> first | (exfalso; omega) | skip) | intro _ | fail)))))
  all_goals ((conv => whnf); skip)
  refine Exists.intro _ (Exists.intro _ (And.intro (RM₀) (And.intro ?_ (fun _ _ h₀ => h₀.elim))))
  rintro _ N1 ⟨rfl, Rr⟩
  obtain ⟨K1, E1₀, FR, h21⟩ := mh_rmb_K K9 Rr
  clear RM₀
  obtain ⟨tl1, nb1⟩ := K1.2.2.2.1
  have v1₀ := (E1₀ t₀ (by omega) (by omega)).2.2.2
  have v10 := v1₀ 0
  have v11 := v1₀ 1
  have v12 := v1₀ 2
  have F1₀ := mh_gF_of K1
  have UR₀ := mh_rmb_u Rr (by omega)
  have w12 := fun k₀ => (E1₀ (t₀ + 2) (by omega) (by omega)).2.2.2 k₀
  have so := @cX5_sumOf D l hl N1 (t₀ + 2) c₀ (x₀ - c₀ + 1) F1₀.2.1.2.2.2.2.2.2.1 (by have := F1₀.2.1.2.2.2.2.2.2.2; omega) (by have := F1₀.2.1.2.2.2.2.2.2.2; omega) (fun k₀ hk => by rw [w12]; have := V9.2.1 k₀ (by omega); omega)
  have ew : mh_wsum N1 (t₀ + 2) c₀ (x₀ - c₀ + 1) = mh_wsum M (t₀ + 2) c₀ (x₀ - c₀ + 1) := by
    unfold mh_wsum
    exact mh_sum_cg _ (fun k₀ _ => w12 _)
  rw [ew] at so
  have sb₀ := @mh_wsumb M (t₀ + 2) c₀ (x₀ - c₀ + 1) 200 (by omega) (by omega) (fun k₀ hk => by have := V9.2.1 k₀ (by omega); omega)
  clear u4l u4k u4n u4₀ u3l u3k u3n u3 u5k u5n u5 t4l t4k t4n t4₀ t3l t3k t3n t3₀ t5k t5n t5₀ g5k g5n g4k g4n g3k g3n g1k g1n g0k g0n pl kbc kg kk kb ka lwu kwu lhu khu kcu r4 r3 r5₀ ku lwt kwt lht kht kct s4₀ s3₀ s5 kt g5₀ g4 g3₀ g1 g0 k6₀
  obtain ⟨⟨k61_, g01_, g11_, g31_, g41_, g51_⟩, ⟨kt1_, s51_, s31_, s41_, kct1_, ⟨kht1_, lht1_⟩, ⟨kwt1_, lwt1_⟩⟩, ⟨ku1_, r51_, r31_, r41_, kcu1_, ⟨khu1_, lhu1_⟩, ⟨kwu1_, lwu1_⟩⟩, ⟨ka1_, kb1_, kk1_, kg1_, kbc1_⟩, pl1_⟩ := F1₀
  have g0n1_ : gr N1 g₀ 0 ≠ 0 := by omega
  have g0k1_ : kd N1 (gr N1 g₀ 0) = 5 := by rw [g01_]; exact kt1_
  have g1n1_ : gr N1 g₀ 1 ≠ 0 := by omega
  have g1k1_ : kd N1 (gr N1 g₀ 1) = 5 := by rw [g11_]; exact ku1_
  have g3n1_ : gr N1 g₀ 3 ≠ 0 := by omega
  have g3k1_ : kd N1 (gr N1 g₀ 3) = 1 := by rw [g31_]; exact ka1_
  have g4n1_ : gr N1 g₀ 4 ≠ 0 := by omega
  have g4k1_ : kd N1 (gr N1 g₀ 4) = 1 := by rw [g41_]; exact kb1_
  have g5n1_ : gr N1 g₀ 5 ≠ 0 := by omega
  have g5k1_ : kd N1 (gr N1 g₀ 5) = 2 := by rw [g51_]; exact kk1_
  have t51_ : gr N1 (gr N1 g₀ 0) 5 = t₀ + 3 := by rw [g01_]; exact s51_
  have t5n1_ : gr N1 (gr N1 g₀ 0) 5 ≠ 0 := by omega
  have t5k1_ : kd N1 (gr N1 (gr N1 g₀ 0) 5) = 4 := by rw [t51_]; exact kct1_
  have t31_ : gr N1 (gr N1 g₀ 0) 3 = t₀ + 1 := by rw [g01_]; exact s31_
  have t3n1_ : gr N1 (gr N1 g₀ 0) 3 ≠ 0 := by omega
  have t3k1_ : kd N1 (gr N1 (gr N1 g₀ 0) 3) = 8 := by rw [t31_]; exact kht1_
  have t3l1_ : ln N1 (gr N1 (gr N1 g₀ 0) 3) = 12 := by rw [t31_]; exact lht1_
  have t41_ : gr N1 (gr N1 g₀ 0) 4 = t₀ + 2 := by rw [g01_]; exact s41_
  have t4n1_ : gr N1 (gr N1 g₀ 0) 4 ≠ 0 := by omega
  have t4k1_ : kd N1 (gr N1 (gr N1 g₀ 0) 4) = 8 := by rw [t41_]; exact kwt1_
  have t4l1_ : ln N1 (gr N1 (gr N1 g₀ 0) 4) = 10 := by rw [t41_]; exact lwt1_
  have u51_ : gr N1 (gr N1 g₀ 1) 5 = u₀ + 3 := by rw [g11_]; exact r51_
  have u5n1_ : gr N1 (gr N1 g₀ 1) 5 ≠ 0 := by omega
  have u5k1_ : kd N1 (gr N1 (gr N1 g₀ 1) 5) = 4 := by rw [u51_]; exact kcu1_
  have u31_ : gr N1 (gr N1 g₀ 1) 3 = u₀ + 1 := by rw [g11_]; exact r31_
  have u3n1_ : gr N1 (gr N1 g₀ 1) 3 ≠ 0 := by omega
  have u3k1_ : kd N1 (gr N1 (gr N1 g₀ 1) 3) = 8 := by rw [u31_]; exact khu1_
  have u3l1_ : ln N1 (gr N1 (gr N1 g₀ 1) 3) = 12 := by rw [u31_]; exact lhu1_
  have u41_ : gr N1 (gr N1 g₀ 1) 4 = u₀ + 2 := by rw [g11_]; exact r41_
  have u4n1_ : gr N1 (gr N1 g₀ 1) 4 ≠ 0 := by omega
  have u4k1_ : kd N1 (gr N1 (gr N1 g₀ 1) 4) = 8 := by rw [u41_]; exact kwu1_
  have u4l1_ : ln N1 (gr N1 (gr N1 g₀ 1) 4) = 10 := by rw [u41_]; exact lwu1_
  obtain ⟨s₀, hs⟩ : ∃ s₀, mh_wsum M (t₀ + 2) c₀ (x₀ - c₀ + 1) = s₀ := ⟨_, rfl⟩
  simp only [hs] at *
  have dq : 0 ≤ s₀ / (x₀ - c₀ + 1) ∧ s₀ / (x₀ - c₀ + 1) ≤ s₀ := ⟨Int.ediv_nonneg sb₀.1 (by omega), Int.ediv_le_self _ sb₀.1⟩
  have LP₀ : K 53 [(0, Sum.inr (Sum.inl g₀)), (1, Sum.inl c₀), (3, Sum.inl (x₀ - c₀ + 1)), (4, Sum.inl s₀), (5, Sum.inl 0)] [] N1 1 := by
    refine mh_for (P := fun j₀ Z₀ => mm_f (fun a₀ _ => a₀ = t₀ + 2) N1 Z₀ ∧ ∀ k₀ : Nat, gi Z₀ (t₀ + 2) k₀ = if c₀ ≤ k₀ ∧ (k₀ : Int) < c₀ + j₀ then s₀ / (x₀ - c₀ + 1) + (if k₀ - c₀ < s₀ % (x₀ - c₀ + 1) then 1 else 0) else gi M (t₀ + 2) k₀) (G := fun j₀ Z₀ => K 53 [(0, Sum.inr (Sum.inl g₀)), (1, Sum.inl c₀), (3, Sum.inl (x₀ - c₀ + 1)), (4, Sum.inl s₀), (5, Sum.inl j₀)] [] Z₀ 1) (lo := 0) (hi := x₀ - c₀ + 1) (by omega) ?_ ?_ N1 ⟨mm_f_rfl, fun k₀ => by rw [if_neg (by omega)]; exact w12 k₀⟩
    · rintro Z₀ ⟨f₀, v₀⟩
      have y1 := (f₀.1 g₀).trans k61_
      have y2 := (f₀.2.2.1 g₀ 0).trans g01_
      have y2n : gr Z₀ g₀ 0 ≠ 0 := by omega
      have y3 : kd Z₀ (gr Z₀ g₀ 0) = 5 := by rw [y2]; exact (f₀.1 t₀).trans kt1_
      have y4 : gr Z₀ (gr Z₀ g₀ 0) 4 = t₀ + 2 := by rw [y2]; exact (f₀.2.2.1 t₀ 4).trans s41_
      have y4n : gr Z₀ (gr Z₀ g₀ 0) 4 ≠ 0 := by omega
      have y5 : kd Z₀ (gr Z₀ (gr Z₀ g₀ 0) 4) = 8 := by rw [y4]; exact (f₀.1 _).trans kwt1_
      have y6 : ln Z₀ (gr Z₀ (gr Z₀ g₀ 0) 4) = 10 := by rw [y4]; exact (f₀.2.1 _).trans lwt1_
      have Q₀ : some (Sum.inl (gi Z₀ (gr Z₀ (gr Z₀ g₀ 0) 4) c₀.toNat) : mg_V) = some (.inl (gi Z₀ (t₀ + 2) c₀.toNat)) ∧ ∃ N1, mh_rmb M N1 g₀ t₀ u₀ ∧ mm_f (fun a₀ _ => a₀ = t₀ + 2) N1 Z₀ ∧ ∀ k₀ : Nat, gi Z₀ (t₀ + 2) k₀ = if c₀ ≤ k₀ ∧ (k₀ : Int) ≤ x₀ then s₀ / (x₀ - c₀ + 1) + (if k₀ - c₀ < s₀ % (x₀ - c₀ + 1) then 1 else 0) else gi M (t₀ + 2) k₀ := by
        refine ⟨by rw [y4], N1, Rr, f₀, fun k₀ => ?_⟩
        rw [v₀ k₀]
        have e₀ : (c₀ ≤ (k₀ : Int) ∧ (k₀ : Int) < c₀ + (x₀ - c₀ + 1)) ↔ (c₀ ≤ k₀ ∧ (k₀ : Int) ≤ x₀) := by omega
        simp only [e₀]
      clear v₀ f₀ Rr K1 E1₀ FR K9 tlM nbM tl1 nb1 UR₀ V9 w12
      refine hK₀ _ _ _ _ _ ?_
      (repeat' (((conv => whnf); first | (show (_ : Option mg_V) = _ ∧ _; assumption) | (show K _ _ _ _ _; assumption) | (show mm_th _ _ _ _; assumption) | refine And.intro (by first | assumption | omega | (simp only [true_and]; first | done | assumption | omega)) ?_ | (refine And.intro (fun _ => ?_) (fun _ => ?_) <;> first | (exfalso; omega) | skip) | intro _ | fail)))
    · rintro j₀ Z₀ j0 j1 ⟨f₀, v₀⟩ nex
      have y1 := (f₀.1 g₀).trans k61_
      have y2 := (f₀.2.2.1 g₀ 0).trans g01_
      have y2n : gr Z₀ g₀ 0 ≠ 0 := by omega
      have y3 : kd Z₀ (gr Z₀ g₀ 0) = 5 := by rw [y2]; exact (f₀.1 t₀).trans kt1_
      have y4 : gr Z₀ (gr Z₀ g₀ 0) 4 = t₀ + 2 := by rw [y2]; exact (f₀.2.2.1 t₀ 4).trans s41_
      have y4n : gr Z₀ (gr Z₀ g₀ 0) 4 ≠ 0 := by omega
      have y5 : kd Z₀ (gr Z₀ (gr Z₀ g₀ 0) 4) = 8 := by rw [y4]; exact (f₀.1 _).trans kwt1_
      have y6 : ln Z₀ (gr Z₀ (gr Z₀ g₀ 0) 4) = 10 := by rw [y4]; exact (f₀.2.1 _).trans lwt1_
      have nex2 : ∀ y₀, y₀ = (if j₀ < s₀ % (x₀ - c₀ + 1) then 1 else 0) → K 53 [(0, Sum.inr (Sum.inl g₀)), (1, Sum.inl c₀), (3, Sum.inl (x₀ - c₀ + 1)), (4, Sum.inl s₀), (5, Sum.inl (j₀ + 1))] [] (si Z₀ (t₀ + 2) (c₀ + j₀).toNat (s₀ / (x₀ - c₀ + 1) + y₀)) 1 := by
        intro y₀ hy
        refine nex _ ⟨mm_f_si f₀ rfl, fun k₀ => ?_⟩
        rw [gi_si]
        by_cases e₀ : k₀ = (c₀ + j₀).toNat
        · have e3₀ : (k₀ : Int) - c₀ = j₀ := by omega
          rw [if_pos ⟨rfl, e₀⟩, if_pos (by omega), hy, e3₀]
        · rw [if_neg (by omega), v₀ k₀]
          have e₀ : (c₀ ≤ (k₀ : Int) ∧ (k₀ : Int) < c₀ + (j₀ + 1)) ↔ (c₀ ≤ k₀ ∧ (k₀ : Int) < c₀ + j₀) := by omega
          simp only [e₀]
      clear v₀ nex f₀ Rr K1 E1₀ FR K9 tlM nbM tl1 nb1 UR₀ V9 w12
      refine hK₀ _ _ _ _ _ ?_
      (repeat' (((conv => whnf); first | (show (_ : Option mg_V) = _ ∧ _; assumption) | (show K _ _ _ _ _; assumption) | (show mm_th _ _ _ _; assumption) | refine And.intro (by first | assumption | omega | (simp only [true_and]; first | done | assumption | omega)) ?_ | (refine And.intro (fun _ => ?_) (fun _ => ?_) <;> first | (exfalso; omega) | skip) | intro _ | fail)))
      all_goals ((conv => whnf); rw [y4]; exact nex2 _ (by first | (rw [if_pos (by omega)]) | (rw [if_neg (by omega)])))
  clear Rr K1 E1₀ FR K9 tlM nbM tl1 nb1 UR₀ V9 w12
  (repeat' (((conv => whnf); first | (show (_ : Option mg_V) = _ ∧ _; assumption) | (show K _ _ _ _ _; assumption) | (show mm_th _ _ _ _; assumption) | refine And.intro (by first | assumption | omega | (simp only [true_and]; first | done | assumption | omega)) ?_ | (refine And.intro (fun _ => ?_) (fun _ => ?_) <;> first | (exfalso; omega) | skip) | intro _ | fail)))
  all_goals ((conv => whnf); rw [t41_])
  (refine Exists.intro _ (Exists.intro _ (And.intro (so) (And.intro ?_ (fun _ _ h₀ => h₀.elim)))); rintro _ _ ⟨rfl, e₀⟩; have e2₀ := e₀.symm; clear e₀; subst e2₀)
  (repeat' (((conv => whnf); first | (show (_ : Option mg_V) = _ ∧ _; assumption) | (show K _ _ _ _ _; assumption) | (show mm_th _ _ _ _; assumption) | refine And.intro (by first | assumption | omega | (simp only [true_and]; first | done | assumption | omega)) ?_ | (refine And.intro (fun _ => ?_) (fun _ => ?_) <;> first | (exfalso; omega) | skip) | intro _ | fail)))
set_option maxRecDepth 100000 in
theorem cX5_even1 {D : mg_D} {l : Launch} (hl : l.stackTraces = false) {M : mg_M} {g₀ t₀ u₀ : Nat} {c₀ x₀ : Int} (K9 : mh_K M g₀ t₀ u₀) (h₀ : ¬ ((0 ≤ c₀ ∧ c₀ < gi M t₀ 1) ∧ (0 ≤ x₀ ∧ x₀ < gi M t₀ 1))) : mg_Mt D l 106 [.inr (.inl g₀), .inl c₀, .inl x₀] M mh_nN (mh_tX 1 M) := by
  refine mg_of2 hl ok_X5_even al_X5_even rfl (fun K hK₀ => ?_)
  have F9 := mh_gF_of K9
  obtain ⟨⟨k6₀, g0, g1, g3₀, g4, g5₀⟩, ⟨kt, s5, s3₀, s4₀, kct, ⟨kht, lht⟩, ⟨kwt, lwt⟩⟩, ⟨ku, r5₀, r3, r4, kcu, ⟨khu, lhu⟩, ⟨kwu, lwu⟩⟩, ⟨ka, kb, kk, kg, kbc⟩, pl⟩ := F9
  have g0n : gr M g₀ 0 ≠ 0 := by omega
  have g0k : kd M (gr M g₀ 0) = 5 := by rw [g0]; exact kt
  have g1n : gr M g₀ 1 ≠ 0 := by omega
  have g1k : kd M (gr M g₀ 1) = 5 := by rw [g1]; exact ku
  have g3n : gr M g₀ 3 ≠ 0 := by omega
  have g3k : kd M (gr M g₀ 3) = 1 := by rw [g3₀]; exact ka
  have g4n : gr M g₀ 4 ≠ 0 := by omega
  have g4k : kd M (gr M g₀ 4) = 1 := by rw [g4]; exact kb
  have g5n : gr M g₀ 5 ≠ 0 := by omega
  have g5k : kd M (gr M g₀ 5) = 2 := by rw [g5₀]; exact kk
  have t5₀ : gr M (gr M g₀ 0) 5 = t₀ + 3 := by rw [g0]; exact s5
  have t5n : gr M (gr M g₀ 0) 5 ≠ 0 := by omega
  have t5k : kd M (gr M (gr M g₀ 0) 5) = 4 := by rw [t5₀]; exact kct
  have t3₀ : gr M (gr M g₀ 0) 3 = t₀ + 1 := by rw [g0]; exact s3₀
  have t3n : gr M (gr M g₀ 0) 3 ≠ 0 := by omega
  have t3k : kd M (gr M (gr M g₀ 0) 3) = 8 := by rw [t3₀]; exact kht
  have t3l : ln M (gr M (gr M g₀ 0) 3) = 12 := by rw [t3₀]; exact lht
  have t4₀ : gr M (gr M g₀ 0) 4 = t₀ + 2 := by rw [g0]; exact s4₀
  have t4n : gr M (gr M g₀ 0) 4 ≠ 0 := by omega
  have t4k : kd M (gr M (gr M g₀ 0) 4) = 8 := by rw [t4₀]; exact kwt
  have t4l : ln M (gr M (gr M g₀ 0) 4) = 10 := by rw [t4₀]; exact lwt
  have u5 : gr M (gr M g₀ 1) 5 = u₀ + 3 := by rw [g1]; exact r5₀
  have u5n : gr M (gr M g₀ 1) 5 ≠ 0 := by omega
  have u5k : kd M (gr M (gr M g₀ 1) 5) = 4 := by rw [u5]; exact kcu
  have u3 : gr M (gr M g₀ 1) 3 = u₀ + 1 := by rw [g1]; exact r3
  have u3n : gr M (gr M g₀ 1) 3 ≠ 0 := by omega
  have u3k : kd M (gr M (gr M g₀ 1) 3) = 8 := by rw [u3]; exact khu
  have u3l : ln M (gr M (gr M g₀ 1) 3) = 12 := by rw [u3]; exact lhu
  have u4₀ : gr M (gr M g₀ 1) 4 = u₀ + 2 := by rw [g1]; exact r4
  have u4n : gr M (gr M g₀ 1) 4 ≠ 0 := by omega
  have u4k : kd M (gr M (gr M g₀ 1) 4) = 8 := by rw [u4₀]; exact kwu
  have u4l : ln M (gr M (gr M g₀ 1) 4) = 10 := by rw [u4₀]; exact lwu
  have e0₀ : gi M (gr M g₀ 0) 0 = gi M t₀ 0 := by rw [g0]
  have e1₀ : gi M (gr M g₀ 0) 1 = gi M t₀ 1 := by rw [g0]
  have e2₀ : gi M (gr M g₀ 0) 2 = gi M t₀ 2 := by rw [g0]
  by_cases h1 : 0 ≤ c₀ ∧ c₀ < gi M t₀ 1
  · have c1₀ := @cX5_checkColumn0 D l hl M g₀ t₀ c₀ K9.1.1 h1
    have c2₀ := @cX5_checkColumn1 D l hl M g₀ t₀ x₀ K9.1.1 (fun w₀ => h₀ ⟨h1, w₀⟩)
    clear K9
    refine hK₀ _ _ _ _ _ ?_
    (repeat' (((conv => whnf); first | (show (_ : Option mg_V) = _ ∧ _; assumption) | (show K _ _ _ _ _; assumption) | (show mm_th _ _ _ _; assumption) | refine And.intro (by first | assumption | omega | (simp only [true_and]; first | done | assumption | omega)) ?_ | (refine And.intro (fun _ => ?_) (fun _ => ?_) <;> first | (exfalso; omega) | skip) | intro _ | fail)))
    all_goals (try ((conv => whnf); (refine Exists.intro _ (Exists.intro _ (And.intro (c1₀) (And.intro ?_ (fun _ _ h₀ => h₀.elim)))); rintro _ _ ⟨rfl, e₀⟩; have e2₀ := e₀.symm; clear e₀; subst e2₀); (repeat' (((conv => whnf); first | (show (_ : Option mg_V) = _ ∧ _; assumption) | (show K _ _ _ _ _; assumption) | (show mm_th _ _ _ _; assumption) | refine And.intro (by first | assumption | omega | (simp only [true_and]; first | done | assumption | omega)) ?_ | (refine And.intro (fun _ => ?_) (fun _ => ?_) <;> first | (exfalso; omega) | skip) | intro _ | fail)))))
    all_goals ((conv => whnf); skip)
    (refine Exists.intro _ (Exists.intro _ (And.intro (c2₀) (And.intro (fun _ _ h₀ => h₀.elim) ?_))); rintro _ _ ⟨rfl, n9, hn9, rfl⟩; (conv => whnf); first | exact ⟨rfl, n9, hn9, rfl⟩ | exact ⟨n9, hn9, rfl⟩)
  · have c1₀ := @cX5_checkColumn1 D l hl M g₀ t₀ c₀ K9.1.1 h1
    clear K9
    refine hK₀ _ _ _ _ _ ?_
    (repeat' (((conv => whnf); first | (show (_ : Option mg_V) = _ ∧ _; assumption) | (show K _ _ _ _ _; assumption) | (show mm_th _ _ _ _; assumption) | refine And.intro (by first | assumption | omega | (simp only [true_and]; first | done | assumption | omega)) ?_ | (refine And.intro (fun _ => ?_) (fun _ => ?_) <;> first | (exfalso; omega) | skip) | intro _ | fail)))
    all_goals ((conv => whnf); skip)
    (refine Exists.intro _ (Exists.intro _ (And.intro (c1₀) (And.intro (fun _ _ h₀ => h₀.elim) ?_))); rintro _ _ ⟨rfl, n9, hn9, rfl⟩; (conv => whnf); first | exact ⟨rfl, n9, hn9, rfl⟩ | exact ⟨n9, hn9, rfl⟩)
set_option maxRecDepth 100000 in
theorem cX5_even2 {D : mg_D} {l : Launch} (hl : l.stackTraces = false) {M : mg_M} {g₀ t₀ u₀ : Nat} {c₀ x₀ : Int} (K9 : mh_K M g₀ t₀ u₀) (h₀ : (0 ≤ c₀ ∧ c₀ < gi M t₀ 1) ∧ (0 ≤ x₀ ∧ x₀ < gi M t₀ 1)) (h2 : x₀ ≤ c₀) : mg_Mt D l 106 [.inr (.inl g₀), .inl c₀, .inl x₀] M mh_nN (mh_tX 3 M) := by
  refine mg_of2 hl ok_X5_even al_X5_even rfl (fun K hK₀ => ?_)
  have F9 := mh_gF_of K9
  obtain ⟨⟨k6₀, g0, g1, g3₀, g4, g5₀⟩, ⟨kt, s5, s3₀, s4₀, kct, ⟨kht, lht⟩, ⟨kwt, lwt⟩⟩, ⟨ku, r5₀, r3, r4, kcu, ⟨khu, lhu⟩, ⟨kwu, lwu⟩⟩, ⟨ka, kb, kk, kg, kbc⟩, pl⟩ := F9
  have g0n : gr M g₀ 0 ≠ 0 := by omega
  have g0k : kd M (gr M g₀ 0) = 5 := by rw [g0]; exact kt
  have g1n : gr M g₀ 1 ≠ 0 := by omega
  have g1k : kd M (gr M g₀ 1) = 5 := by rw [g1]; exact ku
  have g3n : gr M g₀ 3 ≠ 0 := by omega
  have g3k : kd M (gr M g₀ 3) = 1 := by rw [g3₀]; exact ka
  have g4n : gr M g₀ 4 ≠ 0 := by omega
  have g4k : kd M (gr M g₀ 4) = 1 := by rw [g4]; exact kb
  have g5n : gr M g₀ 5 ≠ 0 := by omega
  have g5k : kd M (gr M g₀ 5) = 2 := by rw [g5₀]; exact kk
  have t5₀ : gr M (gr M g₀ 0) 5 = t₀ + 3 := by rw [g0]; exact s5
  have t5n : gr M (gr M g₀ 0) 5 ≠ 0 := by omega
  have t5k : kd M (gr M (gr M g₀ 0) 5) = 4 := by rw [t5₀]; exact kct
  have t3₀ : gr M (gr M g₀ 0) 3 = t₀ + 1 := by rw [g0]; exact s3₀
  have t3n : gr M (gr M g₀ 0) 3 ≠ 0 := by omega
  have t3k : kd M (gr M (gr M g₀ 0) 3) = 8 := by rw [t3₀]; exact kht
  have t3l : ln M (gr M (gr M g₀ 0) 3) = 12 := by rw [t3₀]; exact lht
  have t4₀ : gr M (gr M g₀ 0) 4 = t₀ + 2 := by rw [g0]; exact s4₀
  have t4n : gr M (gr M g₀ 0) 4 ≠ 0 := by omega
  have t4k : kd M (gr M (gr M g₀ 0) 4) = 8 := by rw [t4₀]; exact kwt
  have t4l : ln M (gr M (gr M g₀ 0) 4) = 10 := by rw [t4₀]; exact lwt
  have u5 : gr M (gr M g₀ 1) 5 = u₀ + 3 := by rw [g1]; exact r5₀
  have u5n : gr M (gr M g₀ 1) 5 ≠ 0 := by omega
  have u5k : kd M (gr M (gr M g₀ 1) 5) = 4 := by rw [u5]; exact kcu
  have u3 : gr M (gr M g₀ 1) 3 = u₀ + 1 := by rw [g1]; exact r3
  have u3n : gr M (gr M g₀ 1) 3 ≠ 0 := by omega
  have u3k : kd M (gr M (gr M g₀ 1) 3) = 8 := by rw [u3]; exact khu
  have u3l : ln M (gr M (gr M g₀ 1) 3) = 12 := by rw [u3]; exact lhu
  have u4₀ : gr M (gr M g₀ 1) 4 = u₀ + 2 := by rw [g1]; exact r4
  have u4n : gr M (gr M g₀ 1) 4 ≠ 0 := by omega
  have u4k : kd M (gr M (gr M g₀ 1) 4) = 8 := by rw [u4₀]; exact kwu
  have u4l : ln M (gr M (gr M g₀ 1) 4) = 10 := by rw [u4₀]; exact lwu
  have e0₀ : gi M (gr M g₀ 0) 0 = gi M t₀ 0 := by rw [g0]
  have e1₀ : gi M (gr M g₀ 0) 1 = gi M t₀ 1 := by rw [g0]
  have e2₀ : gi M (gr M g₀ 0) 2 = gi M t₀ 2 := by rw [g0]
  have c1₀ := @cX5_checkColumn0 D l hl M g₀ t₀ c₀ K9.1.1 h₀.1
  have c2₀ := @cX5_checkColumn0 D l hl M g₀ t₀ x₀ K9.1.1 h₀.2
  clear K9
  refine hK₀ _ _ _ _ _ ?_
  (repeat' (((conv => whnf); first | (show (_ : Option mg_V) = _ ∧ _; assumption) | (show K _ _ _ _ _; assumption) | (show mm_th _ _ _ _; assumption) | refine And.intro (by first | assumption | omega | (simp only [true_and]; first | done | assumption | omega)) ?_ | (refine And.intro (fun _ => ?_) (fun _ => ?_) <;> first | (exfalso; omega) | skip) | intro _ | fail)))
  all_goals (try ((conv => whnf); (refine Exists.intro _ (Exists.intro _ (And.intro (c1₀) (And.intro ?_ (fun _ _ h₀ => h₀.elim)))); rintro _ _ ⟨rfl, e₀⟩; have e2₀ := e₀.symm; clear e₀; subst e2₀); (repeat' (((conv => whnf); first | (show (_ : Option mg_V) = _ ∧ _; assumption) | (show K _ _ _ _ _; assumption) | (show mm_th _ _ _ _; assumption) | refine And.intro (by first | assumption | omega | (simp only [true_and]; first | done | assumption | omega)) ?_ | (refine And.intro (fun _ => ?_) (fun _ => ?_) <;> first | (exfalso; omega) | skip) | intro _ | fail)))))
  all_goals (try ((conv => whnf); (refine Exists.intro _ (Exists.intro _ (And.intro (c2₀) (And.intro ?_ (fun _ _ h₀ => h₀.elim)))); rintro _ _ ⟨rfl, e₀⟩; have e2₀ := e₀.symm; clear e₀; subst e2₀); (repeat' (((conv => whnf); first | (show (_ : Option mg_V) = _ ∧ _; assumption) | (show K _ _ _ _ _; assumption) | (show mm_th _ _ _ _; assumption) | refine And.intro (by first | assumption | omega | (simp only [true_and]; first | done | assumption | omega)) ?_ | (refine And.intro (fun _ => ?_) (fun _ => ?_) <;> first | (exfalso; omega) | skip) | intro _ | fail)))))
  all_goals (first | exact ⟨_, by assumption, rfl⟩ | exact ⟨rfl, _, by assumption, rfl⟩)
set_option maxRecDepth 100000 in
theorem cX5_setContent1 {D : mg_D} {l : Launch} (hl : l.stackTraces = false) {M : mg_M} {g₀ t₀ u₀ : Nat} {r₀ c₀ x₀ : Int} (K9 : mh_K M g₀ t₀ u₀) (h₀ : ¬ mh_rg (gi M t₀ 0) (gi M t₀ 1) r₀ c₀) : mg_Mt D l 87 [.inr (.inl g₀), .inl r₀, .inl c₀, .inl x₀] M mh_nN (mh_tX 1 M) := by
  refine mg_of2 hl ok_X5_setContent al_X5_setContent rfl (fun K hK₀ => ?_)
  have F9 := mh_gF_of K9
  obtain ⟨⟨k6₀, g0, g1, g3₀, g4, g5₀⟩, ⟨kt, s5, s3₀, s4₀, kct, ⟨kht, lht⟩, ⟨kwt, lwt⟩⟩, ⟨ku, r5₀, r3, r4, kcu, ⟨khu, lhu⟩, ⟨kwu, lwu⟩⟩, ⟨ka, kb, kk, kg, kbc⟩, pl⟩ := F9
  have g0n : gr M g₀ 0 ≠ 0 := by omega
  have g0k : kd M (gr M g₀ 0) = 5 := by rw [g0]; exact kt
  have g1n : gr M g₀ 1 ≠ 0 := by omega
  have g1k : kd M (gr M g₀ 1) = 5 := by rw [g1]; exact ku
  have g3n : gr M g₀ 3 ≠ 0 := by omega
  have g3k : kd M (gr M g₀ 3) = 1 := by rw [g3₀]; exact ka
  have g4n : gr M g₀ 4 ≠ 0 := by omega
  have g4k : kd M (gr M g₀ 4) = 1 := by rw [g4]; exact kb
  have g5n : gr M g₀ 5 ≠ 0 := by omega
  have g5k : kd M (gr M g₀ 5) = 2 := by rw [g5₀]; exact kk
  have t5₀ : gr M (gr M g₀ 0) 5 = t₀ + 3 := by rw [g0]; exact s5
  have t5n : gr M (gr M g₀ 0) 5 ≠ 0 := by omega
  have t5k : kd M (gr M (gr M g₀ 0) 5) = 4 := by rw [t5₀]; exact kct
  have t3₀ : gr M (gr M g₀ 0) 3 = t₀ + 1 := by rw [g0]; exact s3₀
  have t3n : gr M (gr M g₀ 0) 3 ≠ 0 := by omega
  have t3k : kd M (gr M (gr M g₀ 0) 3) = 8 := by rw [t3₀]; exact kht
  have t3l : ln M (gr M (gr M g₀ 0) 3) = 12 := by rw [t3₀]; exact lht
  have t4₀ : gr M (gr M g₀ 0) 4 = t₀ + 2 := by rw [g0]; exact s4₀
  have t4n : gr M (gr M g₀ 0) 4 ≠ 0 := by omega
  have t4k : kd M (gr M (gr M g₀ 0) 4) = 8 := by rw [t4₀]; exact kwt
  have t4l : ln M (gr M (gr M g₀ 0) 4) = 10 := by rw [t4₀]; exact lwt
  have u5 : gr M (gr M g₀ 1) 5 = u₀ + 3 := by rw [g1]; exact r5₀
  have u5n : gr M (gr M g₀ 1) 5 ≠ 0 := by omega
  have u5k : kd M (gr M (gr M g₀ 1) 5) = 4 := by rw [u5]; exact kcu
  have u3 : gr M (gr M g₀ 1) 3 = u₀ + 1 := by rw [g1]; exact r3
  have u3n : gr M (gr M g₀ 1) 3 ≠ 0 := by omega
  have u3k : kd M (gr M (gr M g₀ 1) 3) = 8 := by rw [u3]; exact khu
  have u3l : ln M (gr M (gr M g₀ 1) 3) = 12 := by rw [u3]; exact lhu
  have u4₀ : gr M (gr M g₀ 1) 4 = u₀ + 2 := by rw [g1]; exact r4
  have u4n : gr M (gr M g₀ 1) 4 ≠ 0 := by omega
  have u4k : kd M (gr M (gr M g₀ 1) 4) = 8 := by rw [u4₀]; exact kwu
  have u4l : ln M (gr M (gr M g₀ 1) 4) = 10 := by rw [u4₀]; exact lwu
  have e0₀ : gi M (gr M g₀ 0) 0 = gi M t₀ 0 := by rw [g0]
  have e1₀ : gi M (gr M g₀ 0) 1 = gi M t₀ 1 := by rw [g0]
  have e2₀ : gi M (gr M g₀ 0) 2 = gi M t₀ 2 := by rw [g0]
  have c1₀ := @cX5_checkSquare1 D l hl M g₀ t₀ r₀ c₀ K9.1.1 h₀
  clear K9
  refine hK₀ _ _ _ _ _ ?_
  (repeat' (((conv => whnf); first | (show (_ : Option mg_V) = _ ∧ _; assumption) | (show K _ _ _ _ _; assumption) | (show mm_th _ _ _ _; assumption) | refine And.intro (by first | assumption | omega | (simp only [true_and]; first | done | assumption | omega)) ?_ | (refine And.intro (fun _ => ?_) (fun _ => ?_) <;> first | (exfalso; omega) | skip) | intro _ | fail)))
  all_goals ((conv => whnf); skip)
  (refine Exists.intro _ (Exists.intro _ (And.intro (c1₀) (And.intro (fun _ _ h₀ => h₀.elim) ?_))); rintro _ _ ⟨rfl, n9, hn9, rfl⟩; (conv => whnf); first | exact ⟨rfl, n9, hn9, rfl⟩ | exact ⟨n9, hn9, rfl⟩)
set_option maxRecDepth 100000 in
theorem cX5_setContent2 {D : mg_D} {l : Launch} (hl : l.stackTraces = false) {M : mg_M} {g₀ t₀ u₀ : Nat} {r₀ c₀ x₀ : Int} (K9 : mh_K M g₀ t₀ u₀) (h₀ : mh_rg (gi M t₀ 0) (gi M t₀ 1) r₀ c₀) (hx : ¬ (0 ≤ x₀ ∧ x₀ ≤ 999)) : mg_Mt D l 87 [.inr (.inl g₀), .inl r₀, .inl c₀, .inl x₀] M mh_nN (mh_tX 3 M) := by
  refine mg_of2 hl ok_X5_setContent al_X5_setContent rfl (fun K hK₀ => ?_)
  have F9 := mh_gF_of K9
  obtain ⟨⟨k6₀, g0, g1, g3₀, g4, g5₀⟩, ⟨kt, s5, s3₀, s4₀, kct, ⟨kht, lht⟩, ⟨kwt, lwt⟩⟩, ⟨ku, r5₀, r3, r4, kcu, ⟨khu, lhu⟩, ⟨kwu, lwu⟩⟩, ⟨ka, kb, kk, kg, kbc⟩, pl⟩ := F9
  have g0n : gr M g₀ 0 ≠ 0 := by omega
  have g0k : kd M (gr M g₀ 0) = 5 := by rw [g0]; exact kt
  have g1n : gr M g₀ 1 ≠ 0 := by omega
  have g1k : kd M (gr M g₀ 1) = 5 := by rw [g1]; exact ku
  have g3n : gr M g₀ 3 ≠ 0 := by omega
  have g3k : kd M (gr M g₀ 3) = 1 := by rw [g3₀]; exact ka
  have g4n : gr M g₀ 4 ≠ 0 := by omega
  have g4k : kd M (gr M g₀ 4) = 1 := by rw [g4]; exact kb
  have g5n : gr M g₀ 5 ≠ 0 := by omega
  have g5k : kd M (gr M g₀ 5) = 2 := by rw [g5₀]; exact kk
  have t5₀ : gr M (gr M g₀ 0) 5 = t₀ + 3 := by rw [g0]; exact s5
  have t5n : gr M (gr M g₀ 0) 5 ≠ 0 := by omega
  have t5k : kd M (gr M (gr M g₀ 0) 5) = 4 := by rw [t5₀]; exact kct
  have t3₀ : gr M (gr M g₀ 0) 3 = t₀ + 1 := by rw [g0]; exact s3₀
  have t3n : gr M (gr M g₀ 0) 3 ≠ 0 := by omega
  have t3k : kd M (gr M (gr M g₀ 0) 3) = 8 := by rw [t3₀]; exact kht
  have t3l : ln M (gr M (gr M g₀ 0) 3) = 12 := by rw [t3₀]; exact lht
  have t4₀ : gr M (gr M g₀ 0) 4 = t₀ + 2 := by rw [g0]; exact s4₀
  have t4n : gr M (gr M g₀ 0) 4 ≠ 0 := by omega
  have t4k : kd M (gr M (gr M g₀ 0) 4) = 8 := by rw [t4₀]; exact kwt
  have t4l : ln M (gr M (gr M g₀ 0) 4) = 10 := by rw [t4₀]; exact lwt
  have u5 : gr M (gr M g₀ 1) 5 = u₀ + 3 := by rw [g1]; exact r5₀
  have u5n : gr M (gr M g₀ 1) 5 ≠ 0 := by omega
  have u5k : kd M (gr M (gr M g₀ 1) 5) = 4 := by rw [u5]; exact kcu
  have u3 : gr M (gr M g₀ 1) 3 = u₀ + 1 := by rw [g1]; exact r3
  have u3n : gr M (gr M g₀ 1) 3 ≠ 0 := by omega
  have u3k : kd M (gr M (gr M g₀ 1) 3) = 8 := by rw [u3]; exact khu
  have u3l : ln M (gr M (gr M g₀ 1) 3) = 12 := by rw [u3]; exact lhu
  have u4₀ : gr M (gr M g₀ 1) 4 = u₀ + 2 := by rw [g1]; exact r4
  have u4n : gr M (gr M g₀ 1) 4 ≠ 0 := by omega
  have u4k : kd M (gr M (gr M g₀ 1) 4) = 8 := by rw [u4₀]; exact kwu
  have u4l : ln M (gr M (gr M g₀ 1) 4) = 10 := by rw [u4₀]; exact lwu
  have e0₀ : gi M (gr M g₀ 0) 0 = gi M t₀ 0 := by rw [g0]
  have e1₀ : gi M (gr M g₀ 0) 1 = gi M t₀ 1 := by rw [g0]
  have e2₀ : gi M (gr M g₀ 0) 2 = gi M t₀ 2 := by rw [g0]
  have c1₀ := @cX5_checkSquare0 D l hl M g₀ t₀ r₀ c₀ K9.1.1 h₀
  clear K9
  refine hK₀ _ _ _ _ _ ?_
  (repeat' (((conv => whnf); first | (show (_ : Option mg_V) = _ ∧ _; assumption) | (show K _ _ _ _ _; assumption) | (show mm_th _ _ _ _; assumption) | refine And.intro (by first | assumption | omega | (simp only [true_and]; first | done | assumption | omega)) ?_ | (refine And.intro (fun _ => ?_) (fun _ => ?_) <;> first | (exfalso; omega) | skip) | intro _ | fail)))
  all_goals (try ((conv => whnf); (refine Exists.intro _ (Exists.intro _ (And.intro (c1₀) (And.intro ?_ (fun _ _ h₀ => h₀.elim)))); rintro _ _ ⟨rfl, e₀⟩; have e2₀ := e₀.symm; clear e₀; subst e2₀); (repeat' (((conv => whnf); first | (show (_ : Option mg_V) = _ ∧ _; assumption) | (show K _ _ _ _ _; assumption) | (show mm_th _ _ _ _; assumption) | refine And.intro (by first | assumption | omega | (simp only [true_and]; first | done | assumption | omega)) ?_ | (refine And.intro (fun _ => ?_) (fun _ => ?_) <;> first | (exfalso; omega) | skip) | intro _ | fail)))))
  all_goals (first | exact ⟨_, by assumption, rfl⟩ | (exfalso; omega))
set_option maxRecDepth 100000 in
theorem cX5_setStyle1 {D : mg_D} {l : Launch} (hl : l.stackTraces = false) {M : mg_M} {g₀ t₀ u₀ : Nat} {x₀ : Int} (K9 : mh_K M g₀ t₀ u₀) (hx : ¬ (0 ≤ x₀ ∧ x₀ ≤ 9)) : mg_Mt D l 88 [.inr (.inl g₀), .inl x₀] M mh_nN (mh_tX 3 M) := by
  refine mg_of2 hl ok_X5_setStyle al_X5_setStyle rfl (fun K hK₀ => ?_)
  have F9 := mh_gF_of K9
  obtain ⟨⟨k6₀, g0, g1, g3₀, g4, g5₀⟩, ⟨kt, s5, s3₀, s4₀, kct, ⟨kht, lht⟩, ⟨kwt, lwt⟩⟩, ⟨ku, r5₀, r3, r4, kcu, ⟨khu, lhu⟩, ⟨kwu, lwu⟩⟩, ⟨ka, kb, kk, kg, kbc⟩, pl⟩ := F9
  have g0n : gr M g₀ 0 ≠ 0 := by omega
  have g0k : kd M (gr M g₀ 0) = 5 := by rw [g0]; exact kt
  have g1n : gr M g₀ 1 ≠ 0 := by omega
  have g1k : kd M (gr M g₀ 1) = 5 := by rw [g1]; exact ku
  have g3n : gr M g₀ 3 ≠ 0 := by omega
  have g3k : kd M (gr M g₀ 3) = 1 := by rw [g3₀]; exact ka
  have g4n : gr M g₀ 4 ≠ 0 := by omega
  have g4k : kd M (gr M g₀ 4) = 1 := by rw [g4]; exact kb
  have g5n : gr M g₀ 5 ≠ 0 := by omega
  have g5k : kd M (gr M g₀ 5) = 2 := by rw [g5₀]; exact kk
  have t5₀ : gr M (gr M g₀ 0) 5 = t₀ + 3 := by rw [g0]; exact s5
  have t5n : gr M (gr M g₀ 0) 5 ≠ 0 := by omega
  have t5k : kd M (gr M (gr M g₀ 0) 5) = 4 := by rw [t5₀]; exact kct
  have t3₀ : gr M (gr M g₀ 0) 3 = t₀ + 1 := by rw [g0]; exact s3₀
  have t3n : gr M (gr M g₀ 0) 3 ≠ 0 := by omega
  have t3k : kd M (gr M (gr M g₀ 0) 3) = 8 := by rw [t3₀]; exact kht
  have t3l : ln M (gr M (gr M g₀ 0) 3) = 12 := by rw [t3₀]; exact lht
  have t4₀ : gr M (gr M g₀ 0) 4 = t₀ + 2 := by rw [g0]; exact s4₀
  have t4n : gr M (gr M g₀ 0) 4 ≠ 0 := by omega
  have t4k : kd M (gr M (gr M g₀ 0) 4) = 8 := by rw [t4₀]; exact kwt
  have t4l : ln M (gr M (gr M g₀ 0) 4) = 10 := by rw [t4₀]; exact lwt
  have u5 : gr M (gr M g₀ 1) 5 = u₀ + 3 := by rw [g1]; exact r5₀
  have u5n : gr M (gr M g₀ 1) 5 ≠ 0 := by omega
  have u5k : kd M (gr M (gr M g₀ 1) 5) = 4 := by rw [u5]; exact kcu
  have u3 : gr M (gr M g₀ 1) 3 = u₀ + 1 := by rw [g1]; exact r3
  have u3n : gr M (gr M g₀ 1) 3 ≠ 0 := by omega
  have u3k : kd M (gr M (gr M g₀ 1) 3) = 8 := by rw [u3]; exact khu
  have u3l : ln M (gr M (gr M g₀ 1) 3) = 12 := by rw [u3]; exact lhu
  have u4₀ : gr M (gr M g₀ 1) 4 = u₀ + 2 := by rw [g1]; exact r4
  have u4n : gr M (gr M g₀ 1) 4 ≠ 0 := by omega
  have u4k : kd M (gr M (gr M g₀ 1) 4) = 8 := by rw [u4₀]; exact kwu
  have u4l : ln M (gr M (gr M g₀ 1) 4) = 10 := by rw [u4₀]; exact lwu
  have e0₀ : gi M (gr M g₀ 0) 0 = gi M t₀ 0 := by rw [g0]
  have e1₀ : gi M (gr M g₀ 0) 1 = gi M t₀ 1 := by rw [g0]
  have e2₀ : gi M (gr M g₀ 0) 2 = gi M t₀ 2 := by rw [g0]
  clear K9
  refine hK₀ _ _ _ _ _ ?_
  (repeat' (((conv => whnf); first | (show (_ : Option mg_V) = _ ∧ _; assumption) | (show K _ _ _ _ _; assumption) | (show mm_th _ _ _ _; assumption) | refine And.intro (by first | assumption | omega | (simp only [true_and]; first | done | assumption | omega)) ?_ | (refine And.intro (fun _ => ?_) (fun _ => ?_) <;> first | (exfalso; omega) | skip) | intro _ | fail)))
  all_goals (first | exact ⟨_, by assumption, rfl⟩ | (exfalso; omega))
set_option maxRecDepth 100000 in
theorem cX5_clear1 {D : mg_D} {l : Launch} (hl : l.stackTraces = false) {M : mg_M} {g₀ t₀ u₀ : Nat} (K9 : mh_K M g₀ t₀ u₀) (hb₀ : mh_sum (fun i₀ => (if mh_bi (mh_in M (gr M (t₀ + 3 + 1) i₀) (g₀ + 259)) = 0 then (0 : Int) else if gi M (gr M (t₀ + 3 + 1) i₀) 4 = 0 then (0 : Int) else 1)) (gi M (t₀ + 3) 0).toNat = 0) : mg_Mt D l 95 [.inr (.inl g₀)] M mh_nN (mh_tX 2 M) := by
  refine mg_of2 hl ok_X5_clear al_X5_clear rfl (fun K hK₀ => ?_)
  have F9 := mh_gF_of K9
  obtain ⟨⟨k6₀, g0, g1, g3₀, g4, g5₀⟩, ⟨kt, s5, s3₀, s4₀, kct, ⟨kht, lht⟩, ⟨kwt, lwt⟩⟩, ⟨ku, r5₀, r3, r4, kcu, ⟨khu, lhu⟩, ⟨kwu, lwu⟩⟩, ⟨ka, kb, kk, kg, kbc⟩, pl⟩ := F9
  have g0n : gr M g₀ 0 ≠ 0 := by omega
  have g0k : kd M (gr M g₀ 0) = 5 := by rw [g0]; exact kt
  have g1n : gr M g₀ 1 ≠ 0 := by omega
  have g1k : kd M (gr M g₀ 1) = 5 := by rw [g1]; exact ku
  have g3n : gr M g₀ 3 ≠ 0 := by omega
  have g3k : kd M (gr M g₀ 3) = 1 := by rw [g3₀]; exact ka
  have g4n : gr M g₀ 4 ≠ 0 := by omega
  have g4k : kd M (gr M g₀ 4) = 1 := by rw [g4]; exact kb
  have g5n : gr M g₀ 5 ≠ 0 := by omega
  have g5k : kd M (gr M g₀ 5) = 2 := by rw [g5₀]; exact kk
  have t5₀ : gr M (gr M g₀ 0) 5 = t₀ + 3 := by rw [g0]; exact s5
  have t5n : gr M (gr M g₀ 0) 5 ≠ 0 := by omega
  have t5k : kd M (gr M (gr M g₀ 0) 5) = 4 := by rw [t5₀]; exact kct
  have t3₀ : gr M (gr M g₀ 0) 3 = t₀ + 1 := by rw [g0]; exact s3₀
  have t3n : gr M (gr M g₀ 0) 3 ≠ 0 := by omega
  have t3k : kd M (gr M (gr M g₀ 0) 3) = 8 := by rw [t3₀]; exact kht
  have t3l : ln M (gr M (gr M g₀ 0) 3) = 12 := by rw [t3₀]; exact lht
  have t4₀ : gr M (gr M g₀ 0) 4 = t₀ + 2 := by rw [g0]; exact s4₀
  have t4n : gr M (gr M g₀ 0) 4 ≠ 0 := by omega
  have t4k : kd M (gr M (gr M g₀ 0) 4) = 8 := by rw [t4₀]; exact kwt
  have t4l : ln M (gr M (gr M g₀ 0) 4) = 10 := by rw [t4₀]; exact lwt
  have u5 : gr M (gr M g₀ 1) 5 = u₀ + 3 := by rw [g1]; exact r5₀
  have u5n : gr M (gr M g₀ 1) 5 ≠ 0 := by omega
  have u5k : kd M (gr M (gr M g₀ 1) 5) = 4 := by rw [u5]; exact kcu
  have u3 : gr M (gr M g₀ 1) 3 = u₀ + 1 := by rw [g1]; exact r3
  have u3n : gr M (gr M g₀ 1) 3 ≠ 0 := by omega
  have u3k : kd M (gr M (gr M g₀ 1) 3) = 8 := by rw [u3]; exact khu
  have u3l : ln M (gr M (gr M g₀ 1) 3) = 12 := by rw [u3]; exact lhu
  have u4₀ : gr M (gr M g₀ 1) 4 = u₀ + 2 := by rw [g1]; exact r4
  have u4n : gr M (gr M g₀ 1) 4 ≠ 0 := by omega
  have u4k : kd M (gr M (gr M g₀ 1) 4) = 8 := by rw [u4₀]; exact kwu
  have u4l : ln M (gr M (gr M g₀ 1) 4) = 10 := by rw [u4₀]; exact lwu
  have e0₀ : gi M (gr M g₀ 0) 0 = gi M t₀ 0 := by rw [g0]
  have e1₀ : gi M (gr M g₀ 0) 1 = gi M t₀ 1 := by rw [g0]
  have e2₀ : gi M (gr M g₀ 0) 2 = gi M t₀ 2 := by rw [g0]
  have tl := K9.2.2.2.1.1
  have c2₀ := @cX3_filledIn D l hl M (t₀ + 3) (g₀ + 259) tl.2.1 (mh_tl_sm tl) ka
  rw [hb₀] at c2₀
  clear K9 tl hb₀
  refine hK₀ _ _ _ _ _ ?_
  (repeat' (((conv => whnf); first | (show (_ : Option mg_V) = _ ∧ _; assumption) | (show K _ _ _ _ _; assumption) | (show mm_th _ _ _ _; assumption) | refine And.intro (by first | assumption | omega | (simp only [true_and]; first | done | assumption | omega)) ?_ | (refine And.intro (fun _ => ?_) (fun _ => ?_) <;> first | (exfalso; omega) | skip) | intro _ | fail)))
  all_goals ((conv => whnf); (try rw [g0]); (try rw [g1]); (try rw [s5]); (try rw [s3₀]); (try rw [s4₀]); (try rw [r5₀]); (try rw [g3₀]); (try rw [g4]); (try rw [g5₀]))
  (refine Exists.intro _ (Exists.intro _ (And.intro (c2₀) (And.intro ?_ (fun _ _ h₀ => h₀.elim)))); rintro _ _ ⟨rfl, e₀⟩; have e2₀ := e₀.symm; clear e₀; subst e2₀)
  (repeat' (((conv => whnf); first | (show (_ : Option mg_V) = _ ∧ _; assumption) | (show K _ _ _ _ _; assumption) | (show mm_th _ _ _ _; assumption) | refine And.intro (by first | assumption | omega | (simp only [true_and]; first | done | assumption | omega)) ?_ | (refine And.intro (fun _ => ?_) (fun _ => ?_) <;> first | (exfalso; omega) | skip) | intro _ | fail)))
  all_goals (first | exact ⟨_, by assumption, rfl⟩ | exact ⟨rfl, _, by assumption, rfl⟩)
set_option maxRecDepth 100000 in
theorem cX5_setHeader1 {D : mg_D} {l : Launch} (hl : l.stackTraces = false) {M : mg_M} {g₀ t₀ u₀ : Nat} {x₀ : Int} (K9 : mh_K M g₀ t₀ u₀) (hx : ¬ (0 ≤ x₀ ∧ x₀ ≤ gi M t₀ 0)) : mg_Mt D l 98 [.inr (.inl g₀), .inl x₀] M mh_nN (mh_tX 3 M) := by
  refine mg_of2 hl ok_X5_setHeader al_X5_setHeader rfl (fun K hK₀ => ?_)
  have F9 := mh_gF_of K9
  obtain ⟨⟨k6₀, g0, g1, g3₀, g4, g5₀⟩, ⟨kt, s5, s3₀, s4₀, kct, ⟨kht, lht⟩, ⟨kwt, lwt⟩⟩, ⟨ku, r5₀, r3, r4, kcu, ⟨khu, lhu⟩, ⟨kwu, lwu⟩⟩, ⟨ka, kb, kk, kg, kbc⟩, pl⟩ := F9
  have g0n : gr M g₀ 0 ≠ 0 := by omega
  have g0k : kd M (gr M g₀ 0) = 5 := by rw [g0]; exact kt
  have g1n : gr M g₀ 1 ≠ 0 := by omega
  have g1k : kd M (gr M g₀ 1) = 5 := by rw [g1]; exact ku
  have g3n : gr M g₀ 3 ≠ 0 := by omega
  have g3k : kd M (gr M g₀ 3) = 1 := by rw [g3₀]; exact ka
  have g4n : gr M g₀ 4 ≠ 0 := by omega
  have g4k : kd M (gr M g₀ 4) = 1 := by rw [g4]; exact kb
  have g5n : gr M g₀ 5 ≠ 0 := by omega
  have g5k : kd M (gr M g₀ 5) = 2 := by rw [g5₀]; exact kk
  have t5₀ : gr M (gr M g₀ 0) 5 = t₀ + 3 := by rw [g0]; exact s5
  have t5n : gr M (gr M g₀ 0) 5 ≠ 0 := by omega
  have t5k : kd M (gr M (gr M g₀ 0) 5) = 4 := by rw [t5₀]; exact kct
  have t3₀ : gr M (gr M g₀ 0) 3 = t₀ + 1 := by rw [g0]; exact s3₀
  have t3n : gr M (gr M g₀ 0) 3 ≠ 0 := by omega
  have t3k : kd M (gr M (gr M g₀ 0) 3) = 8 := by rw [t3₀]; exact kht
  have t3l : ln M (gr M (gr M g₀ 0) 3) = 12 := by rw [t3₀]; exact lht
  have t4₀ : gr M (gr M g₀ 0) 4 = t₀ + 2 := by rw [g0]; exact s4₀
  have t4n : gr M (gr M g₀ 0) 4 ≠ 0 := by omega
  have t4k : kd M (gr M (gr M g₀ 0) 4) = 8 := by rw [t4₀]; exact kwt
  have t4l : ln M (gr M (gr M g₀ 0) 4) = 10 := by rw [t4₀]; exact lwt
  have u5 : gr M (gr M g₀ 1) 5 = u₀ + 3 := by rw [g1]; exact r5₀
  have u5n : gr M (gr M g₀ 1) 5 ≠ 0 := by omega
  have u5k : kd M (gr M (gr M g₀ 1) 5) = 4 := by rw [u5]; exact kcu
  have u3 : gr M (gr M g₀ 1) 3 = u₀ + 1 := by rw [g1]; exact r3
  have u3n : gr M (gr M g₀ 1) 3 ≠ 0 := by omega
  have u3k : kd M (gr M (gr M g₀ 1) 3) = 8 := by rw [u3]; exact khu
  have u3l : ln M (gr M (gr M g₀ 1) 3) = 12 := by rw [u3]; exact lhu
  have u4₀ : gr M (gr M g₀ 1) 4 = u₀ + 2 := by rw [g1]; exact r4
  have u4n : gr M (gr M g₀ 1) 4 ≠ 0 := by omega
  have u4k : kd M (gr M (gr M g₀ 1) 4) = 8 := by rw [u4₀]; exact kwu
  have u4l : ln M (gr M (gr M g₀ 1) 4) = 10 := by rw [u4₀]; exact lwu
  have e0₀ : gi M (gr M g₀ 0) 0 = gi M t₀ 0 := by rw [g0]
  have e1₀ : gi M (gr M g₀ 0) 1 = gi M t₀ 1 := by rw [g0]
  have e2₀ : gi M (gr M g₀ 0) 2 = gi M t₀ 2 := by rw [g0]
  clear K9
  refine hK₀ _ _ _ _ _ ?_
  (repeat' (((conv => whnf); first | (show (_ : Option mg_V) = _ ∧ _; assumption) | (show K _ _ _ _ _; assumption) | (show mm_th _ _ _ _; assumption) | refine And.intro (by first | assumption | omega | (simp only [true_and]; first | done | assumption | omega)) ?_ | (refine And.intro (fun _ => ?_) (fun _ => ?_) <;> first | (exfalso; omega) | skip) | intro _ | fail)))
  all_goals (first | exact ⟨_, by assumption, rfl⟩ | (exfalso; omega))
set_option maxRecDepth 100000 in
theorem cX5_setHeader2 {D : mg_D} {l : Launch} (hl : l.stackTraces = false) {M : mg_M} {g₀ t₀ u₀ : Nat} {x₀ : Int} (K9 : mh_K M g₀ t₀ u₀) (hx : 0 ≤ x₀ ∧ x₀ ≤ gi M t₀ 0) (hn : ∃ i₀ : Nat, (i₀ : Int) < gi M (t₀ + 3) 0 ∧ gi M (gr M (t₀ + 3 + 1) i₀) 0 < x₀ ∧ x₀ ≤ gi M (gr M (t₀ + 3 + 1) i₀) 0 + gi M (gr M (t₀ + 3 + 1) i₀) 2 - 1) : mg_Mt D l 98 [.inr (.inl g₀), .inl x₀] M mh_nN (mh_tX 4 M) := by
  refine mg_of2 hl ok_X5_setHeader al_X5_setHeader rfl (fun K hK₀ => ?_)
  have F9 := mh_gF_of K9
  obtain ⟨⟨k6₀, g0, g1, g3₀, g4, g5₀⟩, ⟨kt, s5, s3₀, s4₀, kct, ⟨kht, lht⟩, ⟨kwt, lwt⟩⟩, ⟨ku, r5₀, r3, r4, kcu, ⟨khu, lhu⟩, ⟨kwu, lwu⟩⟩, ⟨ka, kb, kk, kg, kbc⟩, pl⟩ := F9
  have g0n : gr M g₀ 0 ≠ 0 := by omega
  have g0k : kd M (gr M g₀ 0) = 5 := by rw [g0]; exact kt
  have g1n : gr M g₀ 1 ≠ 0 := by omega
  have g1k : kd M (gr M g₀ 1) = 5 := by rw [g1]; exact ku
  have g3n : gr M g₀ 3 ≠ 0 := by omega
  have g3k : kd M (gr M g₀ 3) = 1 := by rw [g3₀]; exact ka
  have g4n : gr M g₀ 4 ≠ 0 := by omega
  have g4k : kd M (gr M g₀ 4) = 1 := by rw [g4]; exact kb
  have g5n : gr M g₀ 5 ≠ 0 := by omega
  have g5k : kd M (gr M g₀ 5) = 2 := by rw [g5₀]; exact kk
  have t5₀ : gr M (gr M g₀ 0) 5 = t₀ + 3 := by rw [g0]; exact s5
  have t5n : gr M (gr M g₀ 0) 5 ≠ 0 := by omega
  have t5k : kd M (gr M (gr M g₀ 0) 5) = 4 := by rw [t5₀]; exact kct
  have t3₀ : gr M (gr M g₀ 0) 3 = t₀ + 1 := by rw [g0]; exact s3₀
  have t3n : gr M (gr M g₀ 0) 3 ≠ 0 := by omega
  have t3k : kd M (gr M (gr M g₀ 0) 3) = 8 := by rw [t3₀]; exact kht
  have t3l : ln M (gr M (gr M g₀ 0) 3) = 12 := by rw [t3₀]; exact lht
  have t4₀ : gr M (gr M g₀ 0) 4 = t₀ + 2 := by rw [g0]; exact s4₀
  have t4n : gr M (gr M g₀ 0) 4 ≠ 0 := by omega
  have t4k : kd M (gr M (gr M g₀ 0) 4) = 8 := by rw [t4₀]; exact kwt
  have t4l : ln M (gr M (gr M g₀ 0) 4) = 10 := by rw [t4₀]; exact lwt
  have u5 : gr M (gr M g₀ 1) 5 = u₀ + 3 := by rw [g1]; exact r5₀
  have u5n : gr M (gr M g₀ 1) 5 ≠ 0 := by omega
  have u5k : kd M (gr M (gr M g₀ 1) 5) = 4 := by rw [u5]; exact kcu
  have u3 : gr M (gr M g₀ 1) 3 = u₀ + 1 := by rw [g1]; exact r3
  have u3n : gr M (gr M g₀ 1) 3 ≠ 0 := by omega
  have u3k : kd M (gr M (gr M g₀ 1) 3) = 8 := by rw [u3]; exact khu
  have u3l : ln M (gr M (gr M g₀ 1) 3) = 12 := by rw [u3]; exact lhu
  have u4₀ : gr M (gr M g₀ 1) 4 = u₀ + 2 := by rw [g1]; exact r4
  have u4n : gr M (gr M g₀ 1) 4 ≠ 0 := by omega
  have u4k : kd M (gr M (gr M g₀ 1) 4) = 8 := by rw [u4₀]; exact kwu
  have u4l : ln M (gr M (gr M g₀ 1) 4) = 10 := by rw [u4₀]; exact lwu
  have e0₀ : gi M (gr M g₀ 0) 0 = gi M t₀ 0 := by rw [g0]
  have e1₀ : gi M (gr M g₀ 0) 1 = gi M t₀ 1 := by rw [g0]
  have e2₀ : gi M (gr M g₀ 0) 2 = gi M t₀ 2 := by rw [g0]
  have tl := K9.2.2.2.1.1
  have c2₀ := @cX3_acrP D l hl M (t₀ + 3) x₀ tl.2.1 (mh_tl_sm tl)
  rw [mh_pr1 hn] at c2₀
  clear K9 tl hn
  refine hK₀ _ _ _ _ _ ?_
  (repeat' (((conv => whnf); first | (show (_ : Option mg_V) = _ ∧ _; assumption) | (show K _ _ _ _ _; assumption) | (show mm_th _ _ _ _; assumption) | refine And.intro (by first | assumption | omega | (simp only [true_and]; first | done | assumption | omega)) ?_ | (refine And.intro (fun _ => ?_) (fun _ => ?_) <;> first | (exfalso; omega) | skip) | intro _ | fail)))
  all_goals ((conv => whnf); (try rw [g0]); (try rw [g1]); (try rw [s5]); (try rw [s3₀]); (try rw [s4₀]); (try rw [r5₀]); (try rw [g3₀]); (try rw [g4]); (try rw [g5₀]))
  (refine Exists.intro _ (Exists.intro _ (And.intro (c2₀) (And.intro ?_ (fun _ _ h₀ => h₀.elim)))); rintro _ _ ⟨rfl, e₀⟩; have e2₀ := e₀.symm; clear e₀; subst e2₀)
  (repeat' (((conv => whnf); first | (show (_ : Option mg_V) = _ ∧ _; assumption) | (show K _ _ _ _ _; assumption) | (show mm_th _ _ _ _; assumption) | refine And.intro (by first | assumption | omega | (simp only [true_and]; first | done | assumption | omega)) ?_ | (refine And.intro (fun _ => ?_) (fun _ => ?_) <;> first | (exfalso; omega) | skip) | intro _ | fail)))
  all_goals (first | exact ⟨_, by assumption, rfl⟩ | exact ⟨rfl, _, by assumption, rfl⟩)
set_option maxRecDepth 100000 in
theorem cX5_setWidth1 {D : mg_D} {l : Launch} (hl : l.stackTraces = false) {M : mg_M} {g₀ t₀ u₀ : Nat} {c₀ x₀ : Int} (K9 : mh_K M g₀ t₀ u₀) (h₀ : ¬ (0 ≤ c₀ ∧ c₀ < gi M t₀ 1)) : mg_Mt D l 103 [.inr (.inl g₀), .inl c₀, .inl x₀] M mh_nN (mh_tX 1 M) := by
  refine mg_of2 hl ok_X5_setWidth al_X5_setWidth rfl (fun K hK₀ => ?_)
  have F9 := mh_gF_of K9
  obtain ⟨⟨k6₀, g0, g1, g3₀, g4, g5₀⟩, ⟨kt, s5, s3₀, s4₀, kct, ⟨kht, lht⟩, ⟨kwt, lwt⟩⟩, ⟨ku, r5₀, r3, r4, kcu, ⟨khu, lhu⟩, ⟨kwu, lwu⟩⟩, ⟨ka, kb, kk, kg, kbc⟩, pl⟩ := F9
  have g0n : gr M g₀ 0 ≠ 0 := by omega
  have g0k : kd M (gr M g₀ 0) = 5 := by rw [g0]; exact kt
  have g1n : gr M g₀ 1 ≠ 0 := by omega
  have g1k : kd M (gr M g₀ 1) = 5 := by rw [g1]; exact ku
  have g3n : gr M g₀ 3 ≠ 0 := by omega
  have g3k : kd M (gr M g₀ 3) = 1 := by rw [g3₀]; exact ka
  have g4n : gr M g₀ 4 ≠ 0 := by omega
  have g4k : kd M (gr M g₀ 4) = 1 := by rw [g4]; exact kb
  have g5n : gr M g₀ 5 ≠ 0 := by omega
  have g5k : kd M (gr M g₀ 5) = 2 := by rw [g5₀]; exact kk
  have t5₀ : gr M (gr M g₀ 0) 5 = t₀ + 3 := by rw [g0]; exact s5
  have t5n : gr M (gr M g₀ 0) 5 ≠ 0 := by omega
  have t5k : kd M (gr M (gr M g₀ 0) 5) = 4 := by rw [t5₀]; exact kct
  have t3₀ : gr M (gr M g₀ 0) 3 = t₀ + 1 := by rw [g0]; exact s3₀
  have t3n : gr M (gr M g₀ 0) 3 ≠ 0 := by omega
  have t3k : kd M (gr M (gr M g₀ 0) 3) = 8 := by rw [t3₀]; exact kht
  have t3l : ln M (gr M (gr M g₀ 0) 3) = 12 := by rw [t3₀]; exact lht
  have t4₀ : gr M (gr M g₀ 0) 4 = t₀ + 2 := by rw [g0]; exact s4₀
  have t4n : gr M (gr M g₀ 0) 4 ≠ 0 := by omega
  have t4k : kd M (gr M (gr M g₀ 0) 4) = 8 := by rw [t4₀]; exact kwt
  have t4l : ln M (gr M (gr M g₀ 0) 4) = 10 := by rw [t4₀]; exact lwt
  have u5 : gr M (gr M g₀ 1) 5 = u₀ + 3 := by rw [g1]; exact r5₀
  have u5n : gr M (gr M g₀ 1) 5 ≠ 0 := by omega
  have u5k : kd M (gr M (gr M g₀ 1) 5) = 4 := by rw [u5]; exact kcu
  have u3 : gr M (gr M g₀ 1) 3 = u₀ + 1 := by rw [g1]; exact r3
  have u3n : gr M (gr M g₀ 1) 3 ≠ 0 := by omega
  have u3k : kd M (gr M (gr M g₀ 1) 3) = 8 := by rw [u3]; exact khu
  have u3l : ln M (gr M (gr M g₀ 1) 3) = 12 := by rw [u3]; exact lhu
  have u4₀ : gr M (gr M g₀ 1) 4 = u₀ + 2 := by rw [g1]; exact r4
  have u4n : gr M (gr M g₀ 1) 4 ≠ 0 := by omega
  have u4k : kd M (gr M (gr M g₀ 1) 4) = 8 := by rw [u4₀]; exact kwu
  have u4l : ln M (gr M (gr M g₀ 1) 4) = 10 := by rw [u4₀]; exact lwu
  have e0₀ : gi M (gr M g₀ 0) 0 = gi M t₀ 0 := by rw [g0]
  have e1₀ : gi M (gr M g₀ 0) 1 = gi M t₀ 1 := by rw [g0]
  have e2₀ : gi M (gr M g₀ 0) 2 = gi M t₀ 2 := by rw [g0]
  have c1₀ := @cX5_checkColumn1 D l hl M g₀ t₀ c₀ K9.1.1 h₀
  clear K9
  refine hK₀ _ _ _ _ _ ?_
  (repeat' (((conv => whnf); first | (show (_ : Option mg_V) = _ ∧ _; assumption) | (show K _ _ _ _ _; assumption) | (show mm_th _ _ _ _; assumption) | refine And.intro (by first | assumption | omega | (simp only [true_and]; first | done | assumption | omega)) ?_ | (refine And.intro (fun _ => ?_) (fun _ => ?_) <;> first | (exfalso; omega) | skip) | intro _ | fail)))
  all_goals ((conv => whnf); skip)
  (refine Exists.intro _ (Exists.intro _ (And.intro (c1₀) (And.intro (fun _ _ h₀ => h₀.elim) ?_))); rintro _ _ ⟨rfl, n9, hn9, rfl⟩; (conv => whnf); first | exact ⟨rfl, n9, hn9, rfl⟩ | exact ⟨n9, hn9, rfl⟩)
set_option maxRecDepth 100000 in
theorem cX5_setWidth2 {D : mg_D} {l : Launch} (hl : l.stackTraces = false) {M : mg_M} {g₀ t₀ u₀ : Nat} {c₀ x₀ : Int} (K9 : mh_K M g₀ t₀ u₀) (h₀ : 0 ≤ c₀ ∧ c₀ < gi M t₀ 1) (hx : ¬ (10 ≤ x₀ ∧ x₀ ≤ 200)) : mg_Mt D l 103 [.inr (.inl g₀), .inl c₀, .inl x₀] M mh_nN (mh_tX 3 M) := by
  refine mg_of2 hl ok_X5_setWidth al_X5_setWidth rfl (fun K hK₀ => ?_)
  have F9 := mh_gF_of K9
  obtain ⟨⟨k6₀, g0, g1, g3₀, g4, g5₀⟩, ⟨kt, s5, s3₀, s4₀, kct, ⟨kht, lht⟩, ⟨kwt, lwt⟩⟩, ⟨ku, r5₀, r3, r4, kcu, ⟨khu, lhu⟩, ⟨kwu, lwu⟩⟩, ⟨ka, kb, kk, kg, kbc⟩, pl⟩ := F9
  have g0n : gr M g₀ 0 ≠ 0 := by omega
  have g0k : kd M (gr M g₀ 0) = 5 := by rw [g0]; exact kt
  have g1n : gr M g₀ 1 ≠ 0 := by omega
  have g1k : kd M (gr M g₀ 1) = 5 := by rw [g1]; exact ku
  have g3n : gr M g₀ 3 ≠ 0 := by omega
  have g3k : kd M (gr M g₀ 3) = 1 := by rw [g3₀]; exact ka
  have g4n : gr M g₀ 4 ≠ 0 := by omega
  have g4k : kd M (gr M g₀ 4) = 1 := by rw [g4]; exact kb
  have g5n : gr M g₀ 5 ≠ 0 := by omega
  have g5k : kd M (gr M g₀ 5) = 2 := by rw [g5₀]; exact kk
  have t5₀ : gr M (gr M g₀ 0) 5 = t₀ + 3 := by rw [g0]; exact s5
  have t5n : gr M (gr M g₀ 0) 5 ≠ 0 := by omega
  have t5k : kd M (gr M (gr M g₀ 0) 5) = 4 := by rw [t5₀]; exact kct
  have t3₀ : gr M (gr M g₀ 0) 3 = t₀ + 1 := by rw [g0]; exact s3₀
  have t3n : gr M (gr M g₀ 0) 3 ≠ 0 := by omega
  have t3k : kd M (gr M (gr M g₀ 0) 3) = 8 := by rw [t3₀]; exact kht
  have t3l : ln M (gr M (gr M g₀ 0) 3) = 12 := by rw [t3₀]; exact lht
  have t4₀ : gr M (gr M g₀ 0) 4 = t₀ + 2 := by rw [g0]; exact s4₀
  have t4n : gr M (gr M g₀ 0) 4 ≠ 0 := by omega
  have t4k : kd M (gr M (gr M g₀ 0) 4) = 8 := by rw [t4₀]; exact kwt
  have t4l : ln M (gr M (gr M g₀ 0) 4) = 10 := by rw [t4₀]; exact lwt
  have u5 : gr M (gr M g₀ 1) 5 = u₀ + 3 := by rw [g1]; exact r5₀
  have u5n : gr M (gr M g₀ 1) 5 ≠ 0 := by omega
  have u5k : kd M (gr M (gr M g₀ 1) 5) = 4 := by rw [u5]; exact kcu
  have u3 : gr M (gr M g₀ 1) 3 = u₀ + 1 := by rw [g1]; exact r3
  have u3n : gr M (gr M g₀ 1) 3 ≠ 0 := by omega
  have u3k : kd M (gr M (gr M g₀ 1) 3) = 8 := by rw [u3]; exact khu
  have u3l : ln M (gr M (gr M g₀ 1) 3) = 12 := by rw [u3]; exact lhu
  have u4₀ : gr M (gr M g₀ 1) 4 = u₀ + 2 := by rw [g1]; exact r4
  have u4n : gr M (gr M g₀ 1) 4 ≠ 0 := by omega
  have u4k : kd M (gr M (gr M g₀ 1) 4) = 8 := by rw [u4₀]; exact kwu
  have u4l : ln M (gr M (gr M g₀ 1) 4) = 10 := by rw [u4₀]; exact lwu
  have e0₀ : gi M (gr M g₀ 0) 0 = gi M t₀ 0 := by rw [g0]
  have e1₀ : gi M (gr M g₀ 0) 1 = gi M t₀ 1 := by rw [g0]
  have e2₀ : gi M (gr M g₀ 0) 2 = gi M t₀ 2 := by rw [g0]
  have c1₀ := @cX5_checkColumn0 D l hl M g₀ t₀ c₀ K9.1.1 h₀
  have iw := @cX5_isWidth D l hl M x₀
  rw [if_neg hx] at iw
  clear K9
  refine hK₀ _ _ _ _ _ ?_
  (repeat' (((conv => whnf); first | (show (_ : Option mg_V) = _ ∧ _; assumption) | (show K _ _ _ _ _; assumption) | (show mm_th _ _ _ _; assumption) | refine And.intro (by first | assumption | omega | (simp only [true_and]; first | done | assumption | omega)) ?_ | (refine And.intro (fun _ => ?_) (fun _ => ?_) <;> first | (exfalso; omega) | skip) | intro _ | fail)))
  all_goals (try ((conv => whnf); (refine Exists.intro _ (Exists.intro _ (And.intro (c1₀) (And.intro ?_ (fun _ _ h₀ => h₀.elim)))); rintro _ _ ⟨rfl, e₀⟩; have e2₀ := e₀.symm; clear e₀; subst e2₀); (repeat' (((conv => whnf); first | (show (_ : Option mg_V) = _ ∧ _; assumption) | (show K _ _ _ _ _; assumption) | (show mm_th _ _ _ _; assumption) | refine And.intro (by first | assumption | omega | (simp only [true_and]; first | done | assumption | omega)) ?_ | (refine And.intro (fun _ => ?_) (fun _ => ?_) <;> first | (exfalso; omega) | skip) | intro _ | fail)))))
  all_goals (try ((conv => whnf); (refine Exists.intro _ (Exists.intro _ (And.intro (iw) (And.intro ?_ (fun _ _ h₀ => h₀.elim)))); rintro _ _ ⟨rfl, e₀⟩; have e2₀ := e₀.symm; clear e₀; subst e2₀); (repeat' (((conv => whnf); first | (show (_ : Option mg_V) = _ ∧ _; assumption) | (show K _ _ _ _ _; assumption) | (show mm_th _ _ _ _; assumption) | refine And.intro (by first | assumption | omega | (simp only [true_and]; first | done | assumption | omega)) ?_ | (refine And.intro (fun _ => ?_) (fun _ => ?_) <;> first | (exfalso; omega) | skip) | intro _ | fail)))))
  all_goals (first | exact ⟨_, by assumption, rfl⟩ | exact ⟨rfl, _, by assumption, rfl⟩)
set_option maxRecDepth 100000 in
theorem cX5_setHeight1 {D : mg_D} {l : Launch} (hl : l.stackTraces = false) {M : mg_M} {g₀ t₀ u₀ : Nat} {c₀ x₀ : Int} (K9 : mh_K M g₀ t₀ u₀) (h₀ : ¬ (0 ≤ c₀ ∧ c₀ < gi M t₀ 0)) : mg_Mt D l 104 [.inr (.inl g₀), .inl c₀, .inl x₀] M mh_nN (mh_tX 1 M) := by
  refine mg_of2 hl ok_X5_setHeight al_X5_setHeight rfl (fun K hK₀ => ?_)
  have F9 := mh_gF_of K9
  obtain ⟨⟨k6₀, g0, g1, g3₀, g4, g5₀⟩, ⟨kt, s5, s3₀, s4₀, kct, ⟨kht, lht⟩, ⟨kwt, lwt⟩⟩, ⟨ku, r5₀, r3, r4, kcu, ⟨khu, lhu⟩, ⟨kwu, lwu⟩⟩, ⟨ka, kb, kk, kg, kbc⟩, pl⟩ := F9
  have g0n : gr M g₀ 0 ≠ 0 := by omega
  have g0k : kd M (gr M g₀ 0) = 5 := by rw [g0]; exact kt
  have g1n : gr M g₀ 1 ≠ 0 := by omega
  have g1k : kd M (gr M g₀ 1) = 5 := by rw [g1]; exact ku
  have g3n : gr M g₀ 3 ≠ 0 := by omega
  have g3k : kd M (gr M g₀ 3) = 1 := by rw [g3₀]; exact ka
  have g4n : gr M g₀ 4 ≠ 0 := by omega
  have g4k : kd M (gr M g₀ 4) = 1 := by rw [g4]; exact kb
  have g5n : gr M g₀ 5 ≠ 0 := by omega
  have g5k : kd M (gr M g₀ 5) = 2 := by rw [g5₀]; exact kk
  have t5₀ : gr M (gr M g₀ 0) 5 = t₀ + 3 := by rw [g0]; exact s5
  have t5n : gr M (gr M g₀ 0) 5 ≠ 0 := by omega
  have t5k : kd M (gr M (gr M g₀ 0) 5) = 4 := by rw [t5₀]; exact kct
  have t3₀ : gr M (gr M g₀ 0) 3 = t₀ + 1 := by rw [g0]; exact s3₀
  have t3n : gr M (gr M g₀ 0) 3 ≠ 0 := by omega
  have t3k : kd M (gr M (gr M g₀ 0) 3) = 8 := by rw [t3₀]; exact kht
  have t3l : ln M (gr M (gr M g₀ 0) 3) = 12 := by rw [t3₀]; exact lht
  have t4₀ : gr M (gr M g₀ 0) 4 = t₀ + 2 := by rw [g0]; exact s4₀
  have t4n : gr M (gr M g₀ 0) 4 ≠ 0 := by omega
  have t4k : kd M (gr M (gr M g₀ 0) 4) = 8 := by rw [t4₀]; exact kwt
  have t4l : ln M (gr M (gr M g₀ 0) 4) = 10 := by rw [t4₀]; exact lwt
  have u5 : gr M (gr M g₀ 1) 5 = u₀ + 3 := by rw [g1]; exact r5₀
  have u5n : gr M (gr M g₀ 1) 5 ≠ 0 := by omega
  have u5k : kd M (gr M (gr M g₀ 1) 5) = 4 := by rw [u5]; exact kcu
  have u3 : gr M (gr M g₀ 1) 3 = u₀ + 1 := by rw [g1]; exact r3
  have u3n : gr M (gr M g₀ 1) 3 ≠ 0 := by omega
  have u3k : kd M (gr M (gr M g₀ 1) 3) = 8 := by rw [u3]; exact khu
  have u3l : ln M (gr M (gr M g₀ 1) 3) = 12 := by rw [u3]; exact lhu
  have u4₀ : gr M (gr M g₀ 1) 4 = u₀ + 2 := by rw [g1]; exact r4
  have u4n : gr M (gr M g₀ 1) 4 ≠ 0 := by omega
  have u4k : kd M (gr M (gr M g₀ 1) 4) = 8 := by rw [u4₀]; exact kwu
  have u4l : ln M (gr M (gr M g₀ 1) 4) = 10 := by rw [u4₀]; exact lwu
  have e0₀ : gi M (gr M g₀ 0) 0 = gi M t₀ 0 := by rw [g0]
  have e1₀ : gi M (gr M g₀ 0) 1 = gi M t₀ 1 := by rw [g0]
  have e2₀ : gi M (gr M g₀ 0) 2 = gi M t₀ 2 := by rw [g0]
  have c1₀ := @cX5_checkRow1 D l hl M g₀ t₀ c₀ K9.1.1 h₀
  clear K9
  refine hK₀ _ _ _ _ _ ?_
  (repeat' (((conv => whnf); first | (show (_ : Option mg_V) = _ ∧ _; assumption) | (show K _ _ _ _ _; assumption) | (show mm_th _ _ _ _; assumption) | refine And.intro (by first | assumption | omega | (simp only [true_and]; first | done | assumption | omega)) ?_ | (refine And.intro (fun _ => ?_) (fun _ => ?_) <;> first | (exfalso; omega) | skip) | intro _ | fail)))
  all_goals ((conv => whnf); skip)
  (refine Exists.intro _ (Exists.intro _ (And.intro (c1₀) (And.intro (fun _ _ h₀ => h₀.elim) ?_))); rintro _ _ ⟨rfl, n9, hn9, rfl⟩; (conv => whnf); first | exact ⟨rfl, n9, hn9, rfl⟩ | exact ⟨n9, hn9, rfl⟩)
set_option maxRecDepth 100000 in
theorem cX5_setHeight2 {D : mg_D} {l : Launch} (hl : l.stackTraces = false) {M : mg_M} {g₀ t₀ u₀ : Nat} {c₀ x₀ : Int} (K9 : mh_K M g₀ t₀ u₀) (h₀ : 0 ≤ c₀ ∧ c₀ < gi M t₀ 0) (hx : ¬ (5 ≤ x₀ ∧ x₀ ≤ 100)) : mg_Mt D l 104 [.inr (.inl g₀), .inl c₀, .inl x₀] M mh_nN (mh_tX 3 M) := by
  refine mg_of2 hl ok_X5_setHeight al_X5_setHeight rfl (fun K hK₀ => ?_)
  have F9 := mh_gF_of K9
  obtain ⟨⟨k6₀, g0, g1, g3₀, g4, g5₀⟩, ⟨kt, s5, s3₀, s4₀, kct, ⟨kht, lht⟩, ⟨kwt, lwt⟩⟩, ⟨ku, r5₀, r3, r4, kcu, ⟨khu, lhu⟩, ⟨kwu, lwu⟩⟩, ⟨ka, kb, kk, kg, kbc⟩, pl⟩ := F9
  have g0n : gr M g₀ 0 ≠ 0 := by omega
  have g0k : kd M (gr M g₀ 0) = 5 := by rw [g0]; exact kt
  have g1n : gr M g₀ 1 ≠ 0 := by omega
  have g1k : kd M (gr M g₀ 1) = 5 := by rw [g1]; exact ku
  have g3n : gr M g₀ 3 ≠ 0 := by omega
  have g3k : kd M (gr M g₀ 3) = 1 := by rw [g3₀]; exact ka
  have g4n : gr M g₀ 4 ≠ 0 := by omega
  have g4k : kd M (gr M g₀ 4) = 1 := by rw [g4]; exact kb
  have g5n : gr M g₀ 5 ≠ 0 := by omega
  have g5k : kd M (gr M g₀ 5) = 2 := by rw [g5₀]; exact kk
  have t5₀ : gr M (gr M g₀ 0) 5 = t₀ + 3 := by rw [g0]; exact s5
  have t5n : gr M (gr M g₀ 0) 5 ≠ 0 := by omega
  have t5k : kd M (gr M (gr M g₀ 0) 5) = 4 := by rw [t5₀]; exact kct
  have t3₀ : gr M (gr M g₀ 0) 3 = t₀ + 1 := by rw [g0]; exact s3₀
  have t3n : gr M (gr M g₀ 0) 3 ≠ 0 := by omega
  have t3k : kd M (gr M (gr M g₀ 0) 3) = 8 := by rw [t3₀]; exact kht
  have t3l : ln M (gr M (gr M g₀ 0) 3) = 12 := by rw [t3₀]; exact lht
  have t4₀ : gr M (gr M g₀ 0) 4 = t₀ + 2 := by rw [g0]; exact s4₀
  have t4n : gr M (gr M g₀ 0) 4 ≠ 0 := by omega
  have t4k : kd M (gr M (gr M g₀ 0) 4) = 8 := by rw [t4₀]; exact kwt
  have t4l : ln M (gr M (gr M g₀ 0) 4) = 10 := by rw [t4₀]; exact lwt
  have u5 : gr M (gr M g₀ 1) 5 = u₀ + 3 := by rw [g1]; exact r5₀
  have u5n : gr M (gr M g₀ 1) 5 ≠ 0 := by omega
  have u5k : kd M (gr M (gr M g₀ 1) 5) = 4 := by rw [u5]; exact kcu
  have u3 : gr M (gr M g₀ 1) 3 = u₀ + 1 := by rw [g1]; exact r3
  have u3n : gr M (gr M g₀ 1) 3 ≠ 0 := by omega
  have u3k : kd M (gr M (gr M g₀ 1) 3) = 8 := by rw [u3]; exact khu
  have u3l : ln M (gr M (gr M g₀ 1) 3) = 12 := by rw [u3]; exact lhu
  have u4₀ : gr M (gr M g₀ 1) 4 = u₀ + 2 := by rw [g1]; exact r4
  have u4n : gr M (gr M g₀ 1) 4 ≠ 0 := by omega
  have u4k : kd M (gr M (gr M g₀ 1) 4) = 8 := by rw [u4₀]; exact kwu
  have u4l : ln M (gr M (gr M g₀ 1) 4) = 10 := by rw [u4₀]; exact lwu
  have e0₀ : gi M (gr M g₀ 0) 0 = gi M t₀ 0 := by rw [g0]
  have e1₀ : gi M (gr M g₀ 0) 1 = gi M t₀ 1 := by rw [g0]
  have e2₀ : gi M (gr M g₀ 0) 2 = gi M t₀ 2 := by rw [g0]
  have c1₀ := @cX5_checkRow0 D l hl M g₀ t₀ c₀ K9.1.1 h₀
  clear K9
  refine hK₀ _ _ _ _ _ ?_
  (repeat' (((conv => whnf); first | (show (_ : Option mg_V) = _ ∧ _; assumption) | (show K _ _ _ _ _; assumption) | (show mm_th _ _ _ _; assumption) | refine And.intro (by first | assumption | omega | (simp only [true_and]; first | done | assumption | omega)) ?_ | (refine And.intro (fun _ => ?_) (fun _ => ?_) <;> first | (exfalso; omega) | skip) | intro _ | fail)))
  all_goals (try ((conv => whnf); (refine Exists.intro _ (Exists.intro _ (And.intro (c1₀) (And.intro ?_ (fun _ _ h₀ => h₀.elim)))); rintro _ _ ⟨rfl, e₀⟩; have e2₀ := e₀.symm; clear e₀; subst e2₀); (repeat' (((conv => whnf); first | (show (_ : Option mg_V) = _ ∧ _; assumption) | (show K _ _ _ _ _; assumption) | (show mm_th _ _ _ _; assumption) | refine And.intro (by first | assumption | omega | (simp only [true_and]; first | done | assumption | omega)) ?_ | (refine And.intro (fun _ => ?_) (fun _ => ?_) <;> first | (exfalso; omega) | skip) | intro _ | fail)))))
  all_goals (first | exact ⟨_, by assumption, rfl⟩ | (exfalso; omega))
set_option maxRecDepth 100000 in
theorem cX5_takeBack1 {D : mg_D} {l : Launch} (hl : l.stackTraces = false) {M : mg_M} {g₀ t₀ u₀ : Nat} (K9 : mh_K M g₀ t₀ u₀) (h₀ : gi M g₀ 2 = 0) : mg_Mt D l 109 [.inr (.inl g₀)] M mh_nN (mh_tX 2 M) := by
  refine mg_of2 hl ok_X5_takeBack al_X5_takeBack rfl (fun K hK₀ => ?_)
  have F9 := mh_gF_of K9
  obtain ⟨⟨k6₀, g0, g1, g3₀, g4, g5₀⟩, ⟨kt, s5, s3₀, s4₀, kct, ⟨kht, lht⟩, ⟨kwt, lwt⟩⟩, ⟨ku, r5₀, r3, r4, kcu, ⟨khu, lhu⟩, ⟨kwu, lwu⟩⟩, ⟨ka, kb, kk, kg, kbc⟩, pl⟩ := F9
  have g0n : gr M g₀ 0 ≠ 0 := by omega
  have g0k : kd M (gr M g₀ 0) = 5 := by rw [g0]; exact kt
  have g1n : gr M g₀ 1 ≠ 0 := by omega
  have g1k : kd M (gr M g₀ 1) = 5 := by rw [g1]; exact ku
  have g3n : gr M g₀ 3 ≠ 0 := by omega
  have g3k : kd M (gr M g₀ 3) = 1 := by rw [g3₀]; exact ka
  have g4n : gr M g₀ 4 ≠ 0 := by omega
  have g4k : kd M (gr M g₀ 4) = 1 := by rw [g4]; exact kb
  have g5n : gr M g₀ 5 ≠ 0 := by omega
  have g5k : kd M (gr M g₀ 5) = 2 := by rw [g5₀]; exact kk
  have t5₀ : gr M (gr M g₀ 0) 5 = t₀ + 3 := by rw [g0]; exact s5
  have t5n : gr M (gr M g₀ 0) 5 ≠ 0 := by omega
  have t5k : kd M (gr M (gr M g₀ 0) 5) = 4 := by rw [t5₀]; exact kct
  have t3₀ : gr M (gr M g₀ 0) 3 = t₀ + 1 := by rw [g0]; exact s3₀
  have t3n : gr M (gr M g₀ 0) 3 ≠ 0 := by omega
  have t3k : kd M (gr M (gr M g₀ 0) 3) = 8 := by rw [t3₀]; exact kht
  have t3l : ln M (gr M (gr M g₀ 0) 3) = 12 := by rw [t3₀]; exact lht
  have t4₀ : gr M (gr M g₀ 0) 4 = t₀ + 2 := by rw [g0]; exact s4₀
  have t4n : gr M (gr M g₀ 0) 4 ≠ 0 := by omega
  have t4k : kd M (gr M (gr M g₀ 0) 4) = 8 := by rw [t4₀]; exact kwt
  have t4l : ln M (gr M (gr M g₀ 0) 4) = 10 := by rw [t4₀]; exact lwt
  have u5 : gr M (gr M g₀ 1) 5 = u₀ + 3 := by rw [g1]; exact r5₀
  have u5n : gr M (gr M g₀ 1) 5 ≠ 0 := by omega
  have u5k : kd M (gr M (gr M g₀ 1) 5) = 4 := by rw [u5]; exact kcu
  have u3 : gr M (gr M g₀ 1) 3 = u₀ + 1 := by rw [g1]; exact r3
  have u3n : gr M (gr M g₀ 1) 3 ≠ 0 := by omega
  have u3k : kd M (gr M (gr M g₀ 1) 3) = 8 := by rw [u3]; exact khu
  have u3l : ln M (gr M (gr M g₀ 1) 3) = 12 := by rw [u3]; exact lhu
  have u4₀ : gr M (gr M g₀ 1) 4 = u₀ + 2 := by rw [g1]; exact r4
  have u4n : gr M (gr M g₀ 1) 4 ≠ 0 := by omega
  have u4k : kd M (gr M (gr M g₀ 1) 4) = 8 := by rw [u4₀]; exact kwu
  have u4l : ln M (gr M (gr M g₀ 1) 4) = 10 := by rw [u4₀]; exact lwu
  have e0₀ : gi M (gr M g₀ 0) 0 = gi M t₀ 0 := by rw [g0]
  have e1₀ : gi M (gr M g₀ 0) 1 = gi M t₀ 1 := by rw [g0]
  have e2₀ : gi M (gr M g₀ 0) 2 = gi M t₀ 2 := by rw [g0]
  clear K9
  refine hK₀ _ _ _ _ _ ?_
  (repeat' (((conv => whnf); first | (show (_ : Option mg_V) = _ ∧ _; assumption) | (show K _ _ _ _ _; assumption) | (show mm_th _ _ _ _; assumption) | refine And.intro (by first | assumption | omega | (simp only [true_and]; first | done | assumption | omega)) ?_ | (refine And.intro (fun _ => ?_) (fun _ => ?_) <;> first | (exfalso; omega) | skip) | intro _ | fail)))
  all_goals (first | exact ⟨_, by assumption, rfl⟩ | exact ⟨rfl, _, by assumption, rfl⟩)
set_option maxRecDepth 100000 in
theorem cX5_copy {D : mg_D} {l : Launch} (hl : l.stackTraces = false) {M : mg_M} {g₀ t₀ u₀ : Nat} (K9 : mh_K M g₀ t₀ u₀) (hc₀ : mh_cc M t₀ (gi M (g₀ + 259) 0) (gi M (g₀ + 259) 2) (gi M (g₀ + 259) 1) (gi M (g₀ + 259) 3)) : mg_Mt D l 96 [.inr (.inl g₀)] M (fun v₀ N => v₀ = some (.inl (mh_cnt M t₀ (g₀ + 259) (gi M (t₀ + 3) 0).toNat)) ∧ mh_tK M N t₀ (g₀ + 259) (g₀ + 261) (gi M (g₀ + 259) 2 - gi M (g₀ + 259) 0 + 1) (gi M (g₀ + 259) 3 - gi M (g₀ + 259) 1 + 1)) mg_no := by
  refine mg_of2 hl ok_X5_copy al_X5_copy rfl (fun K hK₀ => ?_)
  have F9 := mh_gF_of K9
  have TK₀ := @cX1_take D l hl M t₀ (g₀ + 259) (g₀ + 261) (gi M (g₀ + 259) 2 - gi M (g₀ + 259) 0 + 1) (gi M (g₀ + 259) 3 - gi M (g₀ + 259) 1 + 1) K9.2.2.2.1.1 K9.2.2.2.1.2 K9.2.1.1 K9.2.2.2.2.2.2.2 ⟨K9.2.1.2.2.1, K9.2.1.2.2.2.1⟩ K9.2.1.2.2.2.2 (by have := F9.2.2.2.2; omega) (by omega) (mh_cc_in hc₀) rfl rfl
  obtain ⟨⟨k6₀, g0, g1, g3₀, g4, g5₀⟩, ⟨kt, s5, s3₀, s4₀, kct, ⟨kht, lht⟩, ⟨kwt, lwt⟩⟩, ⟨ku, r5₀, r3, r4, kcu, ⟨khu, lhu⟩, ⟨kwu, lwu⟩⟩, ⟨ka, kb, kk, kg, kbc⟩, pl⟩ := F9
  have g0n : gr M g₀ 0 ≠ 0 := by omega
  have g0k : kd M (gr M g₀ 0) = 5 := by rw [g0]; exact kt
  have g1n : gr M g₀ 1 ≠ 0 := by omega
  have g1k : kd M (gr M g₀ 1) = 5 := by rw [g1]; exact ku
  have g3n : gr M g₀ 3 ≠ 0 := by omega
  have g3k : kd M (gr M g₀ 3) = 1 := by rw [g3₀]; exact ka
  have g4n : gr M g₀ 4 ≠ 0 := by omega
  have g4k : kd M (gr M g₀ 4) = 1 := by rw [g4]; exact kb
  have g5n : gr M g₀ 5 ≠ 0 := by omega
  have g5k : kd M (gr M g₀ 5) = 2 := by rw [g5₀]; exact kk
  have t5₀ : gr M (gr M g₀ 0) 5 = t₀ + 3 := by rw [g0]; exact s5
  have t5n : gr M (gr M g₀ 0) 5 ≠ 0 := by omega
  have t5k : kd M (gr M (gr M g₀ 0) 5) = 4 := by rw [t5₀]; exact kct
  have t3₀ : gr M (gr M g₀ 0) 3 = t₀ + 1 := by rw [g0]; exact s3₀
  have t3n : gr M (gr M g₀ 0) 3 ≠ 0 := by omega
  have t3k : kd M (gr M (gr M g₀ 0) 3) = 8 := by rw [t3₀]; exact kht
  have t3l : ln M (gr M (gr M g₀ 0) 3) = 12 := by rw [t3₀]; exact lht
  have t4₀ : gr M (gr M g₀ 0) 4 = t₀ + 2 := by rw [g0]; exact s4₀
  have t4n : gr M (gr M g₀ 0) 4 ≠ 0 := by omega
  have t4k : kd M (gr M (gr M g₀ 0) 4) = 8 := by rw [t4₀]; exact kwt
  have t4l : ln M (gr M (gr M g₀ 0) 4) = 10 := by rw [t4₀]; exact lwt
  have u5 : gr M (gr M g₀ 1) 5 = u₀ + 3 := by rw [g1]; exact r5₀
  have u5n : gr M (gr M g₀ 1) 5 ≠ 0 := by omega
  have u5k : kd M (gr M (gr M g₀ 1) 5) = 4 := by rw [u5]; exact kcu
  have u3 : gr M (gr M g₀ 1) 3 = u₀ + 1 := by rw [g1]; exact r3
  have u3n : gr M (gr M g₀ 1) 3 ≠ 0 := by omega
  have u3k : kd M (gr M (gr M g₀ 1) 3) = 8 := by rw [u3]; exact khu
  have u3l : ln M (gr M (gr M g₀ 1) 3) = 12 := by rw [u3]; exact lhu
  have u4₀ : gr M (gr M g₀ 1) 4 = u₀ + 2 := by rw [g1]; exact r4
  have u4n : gr M (gr M g₀ 1) 4 ≠ 0 := by omega
  have u4k : kd M (gr M (gr M g₀ 1) 4) = 8 := by rw [u4₀]; exact kwu
  have u4l : ln M (gr M (gr M g₀ 1) 4) = 10 := by rw [u4₀]; exact lwu
  clear K9 hc₀
  refine hK₀ _ _ _ _ _ ?_
  (repeat' (((conv => whnf); first | (show (_ : Option mg_V) = _ ∧ _; assumption) | (show K _ _ _ _ _; assumption) | (show mm_th _ _ _ _; assumption) | refine And.intro (by first | assumption | omega | (simp only [true_and]; first | done | assumption | omega)) ?_ | (refine And.intro (fun _ => ?_) (fun _ => ?_) <;> first | (exfalso; omega) | skip) | intro _ | fail)))
  all_goals ((conv => whnf); (try rw [g0]); (try rw [g1]); (try rw [s5]); (try rw [s3₀]); (try rw [s4₀]); (try rw [r5₀]); (try rw [g3₀]); (try rw [g4]); (try rw [g5₀]))
  refine Exists.intro _ (Exists.intro _ (And.intro (TK₀) (And.intro ?_ (fun _ _ h₀ => h₀.elim))))
  rintro _ N ⟨rfl, q₀⟩
  have f₀ := q₀.1
  have n1₀ := (f₀.1 g₀).trans k6₀
  have n2₀ := (f₀.2.2.1 g₀ 5).trans g5₀
  have n2n : gr N g₀ 5 ≠ 0 := by omega
  have n3₀ : kd N (gr N g₀ 5) = 2 := by rw [n2₀]; exact (f₀.1 _).trans kk
  have n4₀ : gr N (gr N g₀ 5) 2 = g₀ + 261 + 1 := by rw [n2₀]; exact (f₀.2.2.1 _ 2).trans kg
  have n4n : gr N (gr N g₀ 5) 2 ≠ 0 := by omega
  have n5₀ : kd N (gr N (gr N g₀ 5) 2) = 4 := by rw [n4₀]; exact (f₀.1 _).trans kbc
  have Q₀ : some (Sum.inl (gi N (gr N (gr N g₀ 5) 2) 0) : mg_V) = some (.inl (mh_cnt M t₀ (g₀ + 259) (gi M (t₀ + 3) 0).toNat)) ∧ mh_tK M N t₀ (g₀ + 259) (g₀ + 261) (gi M (g₀ + 259) 2 - gi M (g₀ + 259) 0 + 1) (gi M (g₀ + 259) 3 - gi M (g₀ + 259) 1 + 1) := ⟨by rw [n4₀, q₀.2.2.1], q₀⟩
  clear TK₀ q₀ f₀
  (repeat' (((conv => whnf); first | (show (_ : Option mg_V) = _ ∧ _; assumption) | (show K _ _ _ _ _; assumption) | (show mm_th _ _ _ _; assumption) | refine And.intro (by first | assumption | omega | (simp only [true_and]; first | done | assumption | omega)) ?_ | (refine And.intro (fun _ => ?_) (fun _ => ?_) <;> first | (exfalso; omega) | skip) | intro _ | fail)))
