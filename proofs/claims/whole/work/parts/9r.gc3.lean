/-! MergeGrid.split, MergeGrid.merge -/
set_option maxRecDepth 100000 in
theorem cX5_split0_115 {D : mg_D} {l : Launch} (hl : l.stackTraces = false) {M : mg_M} {g₀ t₀ u₀ : Nat} {r₀ c₀ : Int} {a₀ : Nat} (K9 : mh_K M g₀ t₀ u₀) (h₀ : mh_rg (gi M t₀ 0) (gi M t₀ 1) r₀ c₀) (ha₀ : mh_co M t₀ r₀ c₀ = a₀) (h3 : gi M a₀ 2 * gi M a₀ 3 ≠ 1) : mg_Mt D l 94 [.inr (.inl g₀), .inl r₀, .inl c₀, .inl 115] M (fun v₀ N => v₀ = some (.inl (gi M a₀ 2 * gi M a₀ 3)) ∧ ∃ N1 N2, mh_rmb M N1 g₀ t₀ u₀ ∧ mh_np N1 N2 t₀ (gi N1 t₀ 0) (gi N1 t₀ 1) (gi N1 t₀ 2) (mh_q0 N1 t₀ 115 (gi M a₀ 0) (gi M a₀ 1) (gi M a₀ 2) (gi M a₀ 3)) (mh_q1 N1 t₀ 115 (gi M a₀ 0) (gi M a₀ 1) (gi M a₀ 2) (gi M a₀ 3)) (mh_q2 N1 t₀ 115 (gi M a₀ 0) (gi M a₀ 1) (gi M a₀ 2) (gi M a₀ 3)) (mh_q3 N1 t₀ 115 (gi M a₀ 0) (gi M a₀ 1) (gi M a₀ 2) (gi M a₀ 3)) (mh_q4 N1 t₀ 115 (gi M a₀ 4) (gi M a₀ 0) (gi M a₀ 1) (gi M a₀ 2) (gi M a₀ 3)) (mh_q5 N1 t₀ (gi M a₀ 5) (gi M a₀ 0) (gi M a₀ 1) (gi M a₀ 2) (gi M a₀ 3)) (fun k₀ => gi N1 (t₀ + 2) k₀.toNat) (fun k₀ => gi N1 (t₀ + 1) k₀.toNat) ∧ mh_hs N2 N t₀ (g₀ + 259) 0 0 0 0) mg_no := by
  refine mg_of2 hl ok_X5_split al_X5_split rfl (fun K hK₀ => ?_)
  have F9 := mh_gF_of K9
  have K0 := K9
  obtain ⟨⟨G, w1₀, w3₀, w4₀, w5⟩, _, wpl, ⟨tl, nb⟩, ⟨tbu, clu⟩, rb⟩ := K0
  have RM₀ := @cX5_remember D l hl M g₀ t₀ u₀ G w1₀ (by omega) tl.1 tbu tl.2.1 clu (by omega)
  have bb := tl.1.2.2
  have G0' := G
  have tlM := tl
  obtain ⟨i0₀, hi, w0₀, eo⟩ := @mh_tl_ow M t₀ r₀ c₀ tl h₀.1 h₀.2 (nb r₀ c₀ h₀.1.1 h₀.1.2 h₀.2.1 h₀.2.2)
  have z3 := tl.2.1.2.2.2.2.2.2.1
  have ea : gr M (t₀ + 3 + 1) i0₀ = a₀ := by rw [← ha₀]; exact (mh_co_at h₀ (tl.2.2.2.1 i0₀ hi r₀ c₀ w0₀)).symm
  have ok₀ := tl.2.2.1 i0₀ hi
  unfold mh_ok at ok₀
  rw [ea] at ok₀
  have sm₀ := (mh_co_sm tl nb h₀.1 h₀.2).1
  rw [ha₀] at sm₀
  have ck := @cX5_checkSquare0 D l hl M g₀ t₀ r₀ c₀ G h₀
  have ce := @cX4_cellAt D l hl M t₀ r₀ c₀ tl h₀.1 h₀.2 (nb r₀ c₀ h₀.1.1 h₀.1.2 h₀.2.1 h₀.2.2)
  rw [ha₀] at ce
  have pb : 1 ≤ gi M a₀ 2 * gi M a₀ 3 ∧ gi M a₀ 2 * gi M a₀ 3 ≤ 12 * 10 := ⟨Int.mul_pos (by omega) (by omega), Int.mul_le_mul (by omega) (by omega) (by omega) (by omega)⟩
  obtain ⟨⟨k6₀, g0, g1, g3₀, g4, g5₀⟩, ⟨kt, s5, s3₀, s4₀, kct, ⟨kht, lht⟩, ⟨kwt, lwt⟩⟩, ⟨ku, r5₀, r3, r4, kcu, ⟨khu, lhu⟩, ⟨kwu, lwu⟩⟩, ⟨ka, kb, kk, kg, kbc⟩, pl⟩ := F9
  have g0n : gr M g₀ 0 ≠ 0 := by omega
  have g0k : kd M (gr M g₀ 0) = 5 := by rw [g0]; exact kt
  have g1n : gr M g₀ 1 ≠ 0 := by omega
  have g1k : kd M (gr M g₀ 1) = 5 := by rw [g1]; exact ku
  have g3n : gr M g₀ 3 ≠ 0 := by omega
  have g3k : kd M (gr M g₀ 3) = 1 := by rw [g3₀]; exact ka
  have g4n : gr M g₀ 4 ≠ 0 := by omega
  have g4k : kd M (gr M g₀ 4) = 1 := by rw [g4]; exact kb
  have g5n : gr M g₀ 5 ≠ 0 := by omega
  have g5k : kd M (gr M g₀ 5) = 2 := by rw [g5₀]; exact kk
  have t5₀ : gr M (gr M g₀ 0) 5 = t₀ + 3 := by rw [g0]; exact s5
  have t5n : gr M (gr M g₀ 0) 5 ≠ 0 := by omega
  have t5k : kd M (gr M (gr M g₀ 0) 5) = 4 := by rw [t5₀]; exact kct
  have t3₀ : gr M (gr M g₀ 0) 3 = t₀ + 1 := by rw [g0]; exact s3₀
  have t3n : gr M (gr M g₀ 0) 3 ≠ 0 := by omega
  have t3k : kd M (gr M (gr M g₀ 0) 3) = 8 := by rw [t3₀]; exact kht
  have t3l : ln M (gr M (gr M g₀ 0) 3) = 12 := by rw [t3₀]; exact lht
  have t4₀ : gr M (gr M g₀ 0) 4 = t₀ + 2 := by rw [g0]; exact s4₀
  have t4n : gr M (gr M g₀ 0) 4 ≠ 0 := by omega
  have t4k : kd M (gr M (gr M g₀ 0) 4) = 8 := by rw [t4₀]; exact kwt
  have t4l : ln M (gr M (gr M g₀ 0) 4) = 10 := by rw [t4₀]; exact lwt
  have u5 : gr M (gr M g₀ 1) 5 = u₀ + 3 := by rw [g1]; exact r5₀
  have u5n : gr M (gr M g₀ 1) 5 ≠ 0 := by omega
  have u5k : kd M (gr M (gr M g₀ 1) 5) = 4 := by rw [u5]; exact kcu
  have u3 : gr M (gr M g₀ 1) 3 = u₀ + 1 := by rw [g1]; exact r3
  have u3n : gr M (gr M g₀ 1) 3 ≠ 0 := by omega
  have u3k : kd M (gr M (gr M g₀ 1) 3) = 8 := by rw [u3]; exact khu
  have u3l : ln M (gr M (gr M g₀ 1) 3) = 12 := by rw [u3]; exact lhu
  have u4₀ : gr M (gr M g₀ 1) 4 = u₀ + 2 := by rw [g1]; exact r4
  have u4n : gr M (gr M g₀ 1) 4 ≠ 0 := by omega
  have u4k : kd M (gr M (gr M g₀ 1) 4) = 8 := by rw [u4₀]; exact kwu
  have u4l : ln M (gr M (gr M g₀ 1) 4) = 10 := by rw [u4₀]; exact lwu
  have e0₀ : gi M (gr M g₀ 0) 0 = gi M t₀ 0 := by rw [g0]
  have e1₀ : gi M (gr M g₀ 0) 1 = gi M t₀ 1 := by rw [g0]
  have e2₀ : gi M (gr M g₀ 0) 2 = gi M t₀ 2 := by rw [g0]
  clear G w1₀ w3₀ w4₀ w5 tl nb tbu clu G0' w0₀ eo
  refine hK₀ _ _ _ _ _ ?_
  (repeat' (((conv => whnf); first | (show (_ : Option mg_V) = _ ∧ _; assumption) | (show K _ _ _ _ _; assumption) | (show mm_th _ _ _ _; assumption) | refine And.intro (by first | assumption | omega | (simp only [true_and]; first | done | assumption | omega)) ?_ | (refine And.intro (fun _ => ?_) (fun _ => ?_) <;> first | (exfalso; omega) | skip) | intro _ | fail)))
  all_goals (try ((conv => whnf); (refine Exists.intro _ (Exists.intro _ (And.intro (ck) (And.intro ?_ (fun _ _ h₀ => h₀.elim)))); rintro _ _ ⟨rfl, e₀⟩; have e2₀ := e₀.symm; clear e₀; subst e2₀); (repeat' (((conv => whnf); first | (show (_ : Option mg_V) = _ ∧ _; assumption) | (show K _ _ _ _ _; assumption) | (show mm_th _ _ _ _; assumption) | refine And.intro (by first | assumption | omega | (simp only [true_and]; first | done | assumption | omega)) ?_ | (refine And.intro (fun _ => ?_) (fun _ => ?_) <;> first | (exfalso; omega) | skip) | intro _ | fail)))))
  all_goals ((conv => whnf); (try rw [g0]); (try rw [g1]); (try rw [s5]); (try rw [s3₀]); (try rw [s4₀]); (try rw [r5₀]); (try rw [g3₀]); (try rw [g4]); (try rw [g5₀]))
  (refine Exists.intro _ (Exists.intro _ (And.intro (ce) (And.intro ?_ (fun _ _ h₀ => h₀.elim)))); rintro _ _ ⟨rfl, e₀⟩; have e2₀ := e₀.symm; clear e₀; subst e2₀)
  (repeat' (((conv => whnf); first | (show (_ : Option mg_V) = _ ∧ _; assumption) | (show K _ _ _ _ _; assumption) | (show mm_th _ _ _ _; assumption) | refine And.intro (by first | assumption | omega | (simp only [true_and]; first | done | assumption | omega)) ?_ | (refine And.intro (fun _ => ?_) (fun _ => ?_) <;> first | (exfalso; omega) | skip) | intro _ | fail)))
  all_goals ((conv => whnf); skip)
  refine Exists.intro _ (Exists.intro _ (And.intro (RM₀) (And.intro ?_ (fun _ _ h₀ => h₀.elim))))
  rintro _ N1 ⟨rfl, Rr⟩
  obtain ⟨K1, E1₀, FR, h21⟩ := mh_rmb_K K9 Rr
  clear RM₀
  obtain ⟨tl1, nb1⟩ := K1.2.2.2.1
  have v1₀ := (E1₀ t₀ (by omega) (by omega)).2.2.2
  have v10 := v1₀ 0
  have v11 := v1₀ 1
  have v12 := v1₀ 2
  have OP := (fun (E1' : mh_eq M N1 t₀) => @cX4_part D l hl N1 t₀ a₀ i0₀ 115 (gi M a₀ 0) (gi M a₀ 1) (gi M a₀ 2) (gi M a₀ 3) (gi M a₀ 4) (gi M a₀ 5) tl1 nb1 (by have := (E1' (t₀ + 3) (by omega) (by omega)).2.2.2 0; omega) (by rw [(mh_eq_cells E1' tlM.2.1 (i₀ := i0₀) (by omega)).1]; exact ea) (by have := (mh_eq_cells E1' tlM.2.1 (i₀ := i0₀) (by omega)).2; rw [ea] at this; exact ⟨this 0, this 1, this 2, this 3, this 4, this 5⟩)) E1₀
  have F1₀ := mh_gF_of K1
  rw [if_neg (by decide), if_neg (by decide)] at OP
  clear u4l u4k u4n u4₀ u3l u3k u3n u3 u5k u5n u5 t4l t4k t4n t4₀ t3l t3k t3n t3₀ t5k t5n t5₀ g5k g5n g4k g4n g3k g3n g1k g1n g0k g0n pl kbc kg kk kb ka lwu kwu lhu khu kcu r4 r3 r5₀ ku lwt kwt lht kht kct s4₀ s3₀ s5 kt g5₀ g4 g3₀ g1 g0 k6₀
  have F1' := F1₀
  obtain ⟨⟨k61_, g01_, g11_, g31_, g41_, g51_⟩, ⟨kt1_, s51_, s31_, s41_, kct1_, ⟨kht1_, lht1_⟩, ⟨kwt1_, lwt1_⟩⟩, ⟨ku1_, r51_, r31_, r41_, kcu1_, ⟨khu1_, lhu1_⟩, ⟨kwu1_, lwu1_⟩⟩, ⟨ka1_, kb1_, kk1_, kg1_, kbc1_⟩, pl1_⟩ := F1₀
  have g0n1_ : gr N1 g₀ 0 ≠ 0 := by omega
  have g0k1_ : kd N1 (gr N1 g₀ 0) = 5 := by rw [g01_]; exact kt1_
  have g1n1_ : gr N1 g₀ 1 ≠ 0 := by omega
  have g1k1_ : kd N1 (gr N1 g₀ 1) = 5 := by rw [g11_]; exact ku1_
  have g3n1_ : gr N1 g₀ 3 ≠ 0 := by omega
  have g3k1_ : kd N1 (gr N1 g₀ 3) = 1 := by rw [g31_]; exact ka1_
  have g4n1_ : gr N1 g₀ 4 ≠ 0 := by omega
  have g4k1_ : kd N1 (gr N1 g₀ 4) = 1 := by rw [g41_]; exact kb1_
  have g5n1_ : gr N1 g₀ 5 ≠ 0 := by omega
  have g5k1_ : kd N1 (gr N1 g₀ 5) = 2 := by rw [g51_]; exact kk1_
  have t51_ : gr N1 (gr N1 g₀ 0) 5 = t₀ + 3 := by rw [g01_]; exact s51_
  have t5n1_ : gr N1 (gr N1 g₀ 0) 5 ≠ 0 := by omega
  have t5k1_ : kd N1 (gr N1 (gr N1 g₀ 0) 5) = 4 := by rw [t51_]; exact kct1_
  have t31_ : gr N1 (gr N1 g₀ 0) 3 = t₀ + 1 := by rw [g01_]; exact s31_
  have t3n1_ : gr N1 (gr N1 g₀ 0) 3 ≠ 0 := by omega
  have t3k1_ : kd N1 (gr N1 (gr N1 g₀ 0) 3) = 8 := by rw [t31_]; exact kht1_
  have t3l1_ : ln N1 (gr N1 (gr N1 g₀ 0) 3) = 12 := by rw [t31_]; exact lht1_
  have t41_ : gr N1 (gr N1 g₀ 0) 4 = t₀ + 2 := by rw [g01_]; exact s41_
  have t4n1_ : gr N1 (gr N1 g₀ 0) 4 ≠ 0 := by omega
  have t4k1_ : kd N1 (gr N1 (gr N1 g₀ 0) 4) = 8 := by rw [t41_]; exact kwt1_
  have t4l1_ : ln N1 (gr N1 (gr N1 g₀ 0) 4) = 10 := by rw [t41_]; exact lwt1_
  have u51_ : gr N1 (gr N1 g₀ 1) 5 = u₀ + 3 := by rw [g11_]; exact r51_
  have u5n1_ : gr N1 (gr N1 g₀ 1) 5 ≠ 0 := by omega
  have u5k1_ : kd N1 (gr N1 (gr N1 g₀ 1) 5) = 4 := by rw [u51_]; exact kcu1_
  have u31_ : gr N1 (gr N1 g₀ 1) 3 = u₀ + 1 := by rw [g11_]; exact r31_
  have u3n1_ : gr N1 (gr N1 g₀ 1) 3 ≠ 0 := by omega
  have u3k1_ : kd N1 (gr N1 (gr N1 g₀ 1) 3) = 8 := by rw [u31_]; exact khu1_
  have u3l1_ : ln N1 (gr N1 (gr N1 g₀ 1) 3) = 12 := by rw [u31_]; exact lhu1_
  have u41_ : gr N1 (gr N1 g₀ 1) 4 = u₀ + 2 := by rw [g11_]; exact r41_
  have u4n1_ : gr N1 (gr N1 g₀ 1) 4 ≠ 0 := by omega
  have u4k1_ : kd N1 (gr N1 (gr N1 g₀ 1) 4) = 8 := by rw [u41_]; exact kwu1_
  have u4l1_ : ln N1 (gr N1 (gr N1 g₀ 1) 4) = 10 := by rw [u41_]; exact lwu1_
  (repeat' (((conv => whnf); first | (show (_ : Option mg_V) = _ ∧ _; assumption) | (show K _ _ _ _ _; assumption) | (show mm_th _ _ _ _; assumption) | refine And.intro (by first | assumption | omega | (simp only [true_and]; first | done | assumption | omega)) ?_ | (refine And.intro (fun _ => ?_) (fun _ => ?_) <;> first | (exfalso; omega) | skip) | intro _ | fail)))
  all_goals ((conv => whnf); (try rw [g01_]); (try rw [g11_]); (try rw [s51_]); (try rw [s31_]); (try rw [s41_]); (try rw [r51_]); (try rw [g31_]); (try rw [g41_]); (try rw [g51_]))
  refine Exists.intro _ (Exists.intro _ (And.intro (OP) (And.intro ?_ (fun _ _ h₀ => h₀.elim))))
  rintro _ N2 ⟨rfl, q₀⟩
  clear OP
  clear u4l1_ u4k1_ u4n1_ u41_ u3l1_ u3k1_ u3n1_ u31_ u5k1_ u5n1_ u51_ t4l1_ t4k1_ t4n1_ t41_ t3l1_ t3k1_ t3n1_ t31_ t5k1_ t5n1_ t51_ g5k1_ g5n1_ g4k1_ g4n1_ g3k1_ g3n1_ g1k1_ g1n1_ g0k1_ g0n1_ pl1_ kbc1_ kg1_ kk1_ kb1_ ka1_ lwu1_ kwu1_ lhu1_ khu1_ kcu1_ r41_ r31_ r51_ ku1_ lwt1_ kwt1_ lht1_ kht1_ kct1_ s41_ s31_ s51_ kt1_ g51_ g41_ g31_ g11_ g01_ k61_
  have F2 := mh_gF_fr F1' q₀.1.1 q₀.1.2.1 q₀.1.2.2.1
  have SF := @cX5_selectFirst D l hl N2 g₀ t₀ (g₀ + 259) (mh_gF_G0 F2) F2.1.2.2.2.1 (by omega) F2.2.2.2.1.1 q₀.2.1.1 (by have := q₀.2.2.1; omega)
  have F2' := F2
  obtain ⟨⟨k62_, g02_, g12_, g32_, g42_, g52_⟩, ⟨kt2_, s52_, s32_, s42_, kct2_, ⟨kht2_, lht2_⟩, ⟨kwt2_, lwt2_⟩⟩, ⟨ku2_, r52_, r32_, r42_, kcu2_, ⟨khu2_, lhu2_⟩, ⟨kwu2_, lwu2_⟩⟩, ⟨ka2_, kb2_, kk2_, kg2_, kbc2_⟩, pl2_⟩ := F2
  have g0n2_ : gr N2 g₀ 0 ≠ 0 := by omega
  have g0k2_ : kd N2 (gr N2 g₀ 0) = 5 := by rw [g02_]; exact kt2_
  have g1n2_ : gr N2 g₀ 1 ≠ 0 := by omega
  have g1k2_ : kd N2 (gr N2 g₀ 1) = 5 := by rw [g12_]; exact ku2_
  have g3n2_ : gr N2 g₀ 3 ≠ 0 := by omega
  have g3k2_ : kd N2 (gr N2 g₀ 3) = 1 := by rw [g32_]; exact ka2_
  have g4n2_ : gr N2 g₀ 4 ≠ 0 := by omega
  have g4k2_ : kd N2 (gr N2 g₀ 4) = 1 := by rw [g42_]; exact kb2_
  have g5n2_ : gr N2 g₀ 5 ≠ 0 := by omega
  have g5k2_ : kd N2 (gr N2 g₀ 5) = 2 := by rw [g52_]; exact kk2_
  have t52_ : gr N2 (gr N2 g₀ 0) 5 = t₀ + 3 := by rw [g02_]; exact s52_
  have t5n2_ : gr N2 (gr N2 g₀ 0) 5 ≠ 0 := by omega
  have t5k2_ : kd N2 (gr N2 (gr N2 g₀ 0) 5) = 4 := by rw [t52_]; exact kct2_
  have t32_ : gr N2 (gr N2 g₀ 0) 3 = t₀ + 1 := by rw [g02_]; exact s32_
  have t3n2_ : gr N2 (gr N2 g₀ 0) 3 ≠ 0 := by omega
  have t3k2_ : kd N2 (gr N2 (gr N2 g₀ 0) 3) = 8 := by rw [t32_]; exact kht2_
  have t3l2_ : ln N2 (gr N2 (gr N2 g₀ 0) 3) = 12 := by rw [t32_]; exact lht2_
  have t42_ : gr N2 (gr N2 g₀ 0) 4 = t₀ + 2 := by rw [g02_]; exact s42_
  have t4n2_ : gr N2 (gr N2 g₀ 0) 4 ≠ 0 := by omega
  have t4k2_ : kd N2 (gr N2 (gr N2 g₀ 0) 4) = 8 := by rw [t42_]; exact kwt2_
  have t4l2_ : ln N2 (gr N2 (gr N2 g₀ 0) 4) = 10 := by rw [t42_]; exact lwt2_
  have u52_ : gr N2 (gr N2 g₀ 1) 5 = u₀ + 3 := by rw [g12_]; exact r52_
  have u5n2_ : gr N2 (gr N2 g₀ 1) 5 ≠ 0 := by omega
  have u5k2_ : kd N2 (gr N2 (gr N2 g₀ 1) 5) = 4 := by rw [u52_]; exact kcu2_
  have u32_ : gr N2 (gr N2 g₀ 1) 3 = u₀ + 1 := by rw [g12_]; exact r32_
  have u3n2_ : gr N2 (gr N2 g₀ 1) 3 ≠ 0 := by omega
  have u3k2_ : kd N2 (gr N2 (gr N2 g₀ 1) 3) = 8 := by rw [u32_]; exact khu2_
  have u3l2_ : ln N2 (gr N2 (gr N2 g₀ 1) 3) = 12 := by rw [u32_]; exact lhu2_
  have u42_ : gr N2 (gr N2 g₀ 1) 4 = u₀ + 2 := by rw [g12_]; exact r42_
  have u4n2_ : gr N2 (gr N2 g₀ 1) 4 ≠ 0 := by omega
  have u4k2_ : kd N2 (gr N2 (gr N2 g₀ 1) 4) = 8 := by rw [u42_]; exact kwu2_
  have u4l2_ : ln N2 (gr N2 (gr N2 g₀ 1) 4) = 10 := by rw [u42_]; exact lwu2_
  clear F1'
  have q9₀ := q₀
  clear q₀ tl1 nb1
  (repeat' (((conv => whnf); first | (show (_ : Option mg_V) = _ ∧ _; assumption) | (show K _ _ _ _ _; assumption) | (show mm_th _ _ _ _; assumption) | refine And.intro (by first | assumption | omega | (simp only [true_and]; first | done | assumption | omega)) ?_ | (refine And.intro (fun _ => ?_) (fun _ => ?_) <;> first | (exfalso; omega) | skip) | intro _ | fail)))
  all_goals ((conv => whnf); skip)
  refine Exists.intro _ (Exists.intro _ (And.intro (SF) (And.intro ?_ (fun _ _ h₀ => h₀.elim))))
  rintro _ N ⟨rfl, q2₀⟩
  clear SF
  clear u4l2_ u4k2_ u4n2_ u42_ u3l2_ u3k2_ u3n2_ u32_ u5k2_ u5n2_ u52_ t4l2_ t4k2_ t4n2_ t42_ t3l2_ t3k2_ t3n2_ t32_ t5k2_ t5n2_ t52_ g5k2_ g5n2_ g4k2_ g4n2_ g3k2_ g3n2_ g1k2_ g1n2_ g0k2_ g0n2_ pl2_ kbc2_ kg2_ kk2_ kb2_ ka2_ lwu2_ kwu2_ lhu2_ khu2_ kcu2_ r42_ r32_ r52_ ku2_ lwt2_ kwt2_ lht2_ kht2_ kct2_ s42_ s32_ s52_ kt2_ g52_ g42_ g32_ g12_ g02_ k62_
  have Q₀ : some (Sum.inl (gi M a₀ 2 * gi M a₀ 3) : mg_V) = some (.inl (gi M a₀ 2 * gi M a₀ 3)) ∧ ∃ N1 N2, mh_rmb M N1 g₀ t₀ u₀ ∧ mh_np N1 N2 t₀ (gi N1 t₀ 0) (gi N1 t₀ 1) (gi N1 t₀ 2) (mh_q0 N1 t₀ 115 (gi M a₀ 0) (gi M a₀ 1) (gi M a₀ 2) (gi M a₀ 3)) (mh_q1 N1 t₀ 115 (gi M a₀ 0) (gi M a₀ 1) (gi M a₀ 2) (gi M a₀ 3)) (mh_q2 N1 t₀ 115 (gi M a₀ 0) (gi M a₀ 1) (gi M a₀ 2) (gi M a₀ 3)) (mh_q3 N1 t₀ 115 (gi M a₀ 0) (gi M a₀ 1) (gi M a₀ 2) (gi M a₀ 3)) (mh_q4 N1 t₀ 115 (gi M a₀ 4) (gi M a₀ 0) (gi M a₀ 1) (gi M a₀ 2) (gi M a₀ 3)) (mh_q5 N1 t₀ (gi M a₀ 5) (gi M a₀ 0) (gi M a₀ 1) (gi M a₀ 2) (gi M a₀ 3)) (fun k₀ => gi N1 (t₀ + 2) k₀.toNat) (fun k₀ => gi N1 (t₀ + 1) k₀.toNat) ∧ mh_hs N2 N t₀ (g₀ + 259) 0 0 0 0 := ⟨rfl, N1, N2, Rr, q9₀, q2₀⟩
  clear q9₀ q2₀ Rr K1 E1₀ FR K9 F2'
  (repeat' (((conv => whnf); first | (show (_ : Option mg_V) = _ ∧ _; assumption) | (show K _ _ _ _ _; assumption) | (show mm_th _ _ _ _; assumption) | refine And.intro (by first | assumption | omega | (simp only [true_and]; first | done | assumption | omega)) ?_ | (refine And.intro (fun _ => ?_) (fun _ => ?_) <;> first | (exfalso; omega) | skip) | intro _ | fail)))
set_option maxRecDepth 100000 in
theorem cX5_split0_114 {D : mg_D} {l : Launch} (hl : l.stackTraces = false) {M : mg_M} {g₀ t₀ u₀ : Nat} {r₀ c₀ : Int} {a₀ : Nat} (K9 : mh_K M g₀ t₀ u₀) (h₀ : mh_rg (gi M t₀ 0) (gi M t₀ 1) r₀ c₀) (ha₀ : mh_co M t₀ r₀ c₀ = a₀) (h3 : gi M a₀ 2 * 1 ≠ 1) : mg_Mt D l 94 [.inr (.inl g₀), .inl r₀, .inl c₀, .inl 114] M (fun v₀ N => v₀ = some (.inl (gi M a₀ 2 * 1)) ∧ ∃ N1 N2, mh_rmb M N1 g₀ t₀ u₀ ∧ mh_np N1 N2 t₀ (gi N1 t₀ 0) (gi N1 t₀ 1) (gi N1 t₀ 2) (mh_q0 N1 t₀ 114 (gi M a₀ 0) (gi M a₀ 1) (gi M a₀ 2) (gi M a₀ 3)) (mh_q1 N1 t₀ 114 (gi M a₀ 0) (gi M a₀ 1) (gi M a₀ 2) (gi M a₀ 3)) (mh_q2 N1 t₀ 114 (gi M a₀ 0) (gi M a₀ 1) (gi M a₀ 2) (gi M a₀ 3)) (mh_q3 N1 t₀ 114 (gi M a₀ 0) (gi M a₀ 1) (gi M a₀ 2) (gi M a₀ 3)) (mh_q4 N1 t₀ 114 (gi M a₀ 4) (gi M a₀ 0) (gi M a₀ 1) (gi M a₀ 2) (gi M a₀ 3)) (mh_q5 N1 t₀ (gi M a₀ 5) (gi M a₀ 0) (gi M a₀ 1) (gi M a₀ 2) (gi M a₀ 3)) (fun k₀ => gi N1 (t₀ + 2) k₀.toNat) (fun k₀ => gi N1 (t₀ + 1) k₀.toNat) ∧ mh_hs N2 N t₀ (g₀ + 259) 0 0 0 0) mg_no := by
  refine mg_of2 hl ok_X5_split al_X5_split rfl (fun K hK₀ => ?_)
  have F9 := mh_gF_of K9
  have K0 := K9
  obtain ⟨⟨G, w1₀, w3₀, w4₀, w5⟩, _, wpl, ⟨tl, nb⟩, ⟨tbu, clu⟩, rb⟩ := K0
  have RM₀ := @cX5_remember D l hl M g₀ t₀ u₀ G w1₀ (by omega) tl.1 tbu tl.2.1 clu (by omega)
  have bb := tl.1.2.2
  have G0' := G
  have tlM := tl
  obtain ⟨i0₀, hi, w0₀, eo⟩ := @mh_tl_ow M t₀ r₀ c₀ tl h₀.1 h₀.2 (nb r₀ c₀ h₀.1.1 h₀.1.2 h₀.2.1 h₀.2.2)
  have z3 := tl.2.1.2.2.2.2.2.2.1
  have ea : gr M (t₀ + 3 + 1) i0₀ = a₀ := by rw [← ha₀]; exact (mh_co_at h₀ (tl.2.2.2.1 i0₀ hi r₀ c₀ w0₀)).symm
  have ok₀ := tl.2.2.1 i0₀ hi
  unfold mh_ok at ok₀
  rw [ea] at ok₀
  have sm₀ := (mh_co_sm tl nb h₀.1 h₀.2).1
  rw [ha₀] at sm₀
  have ck := @cX5_checkSquare0 D l hl M g₀ t₀ r₀ c₀ G h₀
  have ce := @cX4_cellAt D l hl M t₀ r₀ c₀ tl h₀.1 h₀.2 (nb r₀ c₀ h₀.1.1 h₀.1.2 h₀.2.1 h₀.2.2)
  rw [ha₀] at ce
  have pb : 1 ≤ gi M a₀ 2 * 1 ∧ gi M a₀ 2 * 1 ≤ 12 * 10 := ⟨Int.mul_pos (by omega) (by omega), Int.mul_le_mul (by omega) (by omega) (by omega) (by omega)⟩
  obtain ⟨⟨k6₀, g0, g1, g3₀, g4, g5₀⟩, ⟨kt, s5, s3₀, s4₀, kct, ⟨kht, lht⟩, ⟨kwt, lwt⟩⟩, ⟨ku, r5₀, r3, r4, kcu, ⟨khu, lhu⟩, ⟨kwu, lwu⟩⟩, ⟨ka, kb, kk, kg, kbc⟩, pl⟩ := F9
  have g0n : gr M g₀ 0 ≠ 0 := by omega
  have g0k : kd M (gr M g₀ 0) = 5 := by rw [g0]; exact kt
  have g1n : gr M g₀ 1 ≠ 0 := by omega
  have g1k : kd M (gr M g₀ 1) = 5 := by rw [g1]; exact ku
  have g3n : gr M g₀ 3 ≠ 0 := by omega
  have g3k : kd M (gr M g₀ 3) = 1 := by rw [g3₀]; exact ka
  have g4n : gr M g₀ 4 ≠ 0 := by omega
  have g4k : kd M (gr M g₀ 4) = 1 := by rw [g4]; exact kb
  have g5n : gr M g₀ 5 ≠ 0 := by omega
  have g5k : kd M (gr M g₀ 5) = 2 := by rw [g5₀]; exact kk
  have t5₀ : gr M (gr M g₀ 0) 5 = t₀ + 3 := by rw [g0]; exact s5
  have t5n : gr M (gr M g₀ 0) 5 ≠ 0 := by omega
  have t5k : kd M (gr M (gr M g₀ 0) 5) = 4 := by rw [t5₀]; exact kct
  have t3₀ : gr M (gr M g₀ 0) 3 = t₀ + 1 := by rw [g0]; exact s3₀
  have t3n : gr M (gr M g₀ 0) 3 ≠ 0 := by omega
  have t3k : kd M (gr M (gr M g₀ 0) 3) = 8 := by rw [t3₀]; exact kht
  have t3l : ln M (gr M (gr M g₀ 0) 3) = 12 := by rw [t3₀]; exact lht
  have t4₀ : gr M (gr M g₀ 0) 4 = t₀ + 2 := by rw [g0]; exact s4₀
  have t4n : gr M (gr M g₀ 0) 4 ≠ 0 := by omega
  have t4k : kd M (gr M (gr M g₀ 0) 4) = 8 := by rw [t4₀]; exact kwt
  have t4l : ln M (gr M (gr M g₀ 0) 4) = 10 := by rw [t4₀]; exact lwt
  have u5 : gr M (gr M g₀ 1) 5 = u₀ + 3 := by rw [g1]; exact r5₀
  have u5n : gr M (gr M g₀ 1) 5 ≠ 0 := by omega
  have u5k : kd M (gr M (gr M g₀ 1) 5) = 4 := by rw [u5]; exact kcu
  have u3 : gr M (gr M g₀ 1) 3 = u₀ + 1 := by rw [g1]; exact r3
  have u3n : gr M (gr M g₀ 1) 3 ≠ 0 := by omega
  have u3k : kd M (gr M (gr M g₀ 1) 3) = 8 := by rw [u3]; exact khu
  have u3l : ln M (gr M (gr M g₀ 1) 3) = 12 := by rw [u3]; exact lhu
  have u4₀ : gr M (gr M g₀ 1) 4 = u₀ + 2 := by rw [g1]; exact r4
  have u4n : gr M (gr M g₀ 1) 4 ≠ 0 := by omega
  have u4k : kd M (gr M (gr M g₀ 1) 4) = 8 := by rw [u4₀]; exact kwu
  have u4l : ln M (gr M (gr M g₀ 1) 4) = 10 := by rw [u4₀]; exact lwu
  have e0₀ : gi M (gr M g₀ 0) 0 = gi M t₀ 0 := by rw [g0]
  have e1₀ : gi M (gr M g₀ 0) 1 = gi M t₀ 1 := by rw [g0]
  have e2₀ : gi M (gr M g₀ 0) 2 = gi M t₀ 2 := by rw [g0]
  clear G w1₀ w3₀ w4₀ w5 tl nb tbu clu G0' w0₀ eo
  refine hK₀ _ _ _ _ _ ?_
  (repeat' (((conv => whnf); first | (show (_ : Option mg_V) = _ ∧ _; assumption) | (show K _ _ _ _ _; assumption) | (show mm_th _ _ _ _; assumption) | refine And.intro (by first | assumption | omega | (simp only [true_and]; first | done | assumption | omega)) ?_ | (refine And.intro (fun _ => ?_) (fun _ => ?_) <;> first | (exfalso; omega) | skip) | intro _ | fail)))
  all_goals (try ((conv => whnf); (refine Exists.intro _ (Exists.intro _ (And.intro (ck) (And.intro ?_ (fun _ _ h₀ => h₀.elim)))); rintro _ _ ⟨rfl, e₀⟩; have e2₀ := e₀.symm; clear e₀; subst e2₀); (repeat' (((conv => whnf); first | (show (_ : Option mg_V) = _ ∧ _; assumption) | (show K _ _ _ _ _; assumption) | (show mm_th _ _ _ _; assumption) | refine And.intro (by first | assumption | omega | (simp only [true_and]; first | done | assumption | omega)) ?_ | (refine And.intro (fun _ => ?_) (fun _ => ?_) <;> first | (exfalso; omega) | skip) | intro _ | fail)))))
  all_goals ((conv => whnf); (try rw [g0]); (try rw [g1]); (try rw [s5]); (try rw [s3₀]); (try rw [s4₀]); (try rw [r5₀]); (try rw [g3₀]); (try rw [g4]); (try rw [g5₀]))
  (refine Exists.intro _ (Exists.intro _ (And.intro (ce) (And.intro ?_ (fun _ _ h₀ => h₀.elim)))); rintro _ _ ⟨rfl, e₀⟩; have e2₀ := e₀.symm; clear e₀; subst e2₀)
  (repeat' (((conv => whnf); first | (show (_ : Option mg_V) = _ ∧ _; assumption) | (show K _ _ _ _ _; assumption) | (show mm_th _ _ _ _; assumption) | refine And.intro (by first | assumption | omega | (simp only [true_and]; first | done | assumption | omega)) ?_ | (refine And.intro (fun _ => ?_) (fun _ => ?_) <;> first | (exfalso; omega) | skip) | intro _ | fail)))
  all_goals ((conv => whnf); skip)
  refine Exists.intro _ (Exists.intro _ (And.intro (RM₀) (And.intro ?_ (fun _ _ h₀ => h₀.elim))))
  rintro _ N1 ⟨rfl, Rr⟩
  obtain ⟨K1, E1₀, FR, h21⟩ := mh_rmb_K K9 Rr
  clear RM₀
  obtain ⟨tl1, nb1⟩ := K1.2.2.2.1
  have v1₀ := (E1₀ t₀ (by omega) (by omega)).2.2.2
  have v10 := v1₀ 0
  have v11 := v1₀ 1
  have v12 := v1₀ 2
  have OP := (fun (E1' : mh_eq M N1 t₀) => @cX4_part D l hl N1 t₀ a₀ i0₀ 114 (gi M a₀ 0) (gi M a₀ 1) (gi M a₀ 2) (gi M a₀ 3) (gi M a₀ 4) (gi M a₀ 5) tl1 nb1 (by have := (E1' (t₀ + 3) (by omega) (by omega)).2.2.2 0; omega) (by rw [(mh_eq_cells E1' tlM.2.1 (i₀ := i0₀) (by omega)).1]; exact ea) (by have := (mh_eq_cells E1' tlM.2.1 (i₀ := i0₀) (by omega)).2; rw [ea] at this; exact ⟨this 0, this 1, this 2, this 3, this 4, this 5⟩)) E1₀
  have F1₀ := mh_gF_of K1
  rw [if_neg (by decide), if_pos rfl] at OP
  clear u4l u4k u4n u4₀ u3l u3k u3n u3 u5k u5n u5 t4l t4k t4n t4₀ t3l t3k t3n t3₀ t5k t5n t5₀ g5k g5n g4k g4n g3k g3n g1k g1n g0k g0n pl kbc kg kk kb ka lwu kwu lhu khu kcu r4 r3 r5₀ ku lwt kwt lht kht kct s4₀ s3₀ s5 kt g5₀ g4 g3₀ g1 g0 k6₀
  have F1' := F1₀
  obtain ⟨⟨k61_, g01_, g11_, g31_, g41_, g51_⟩, ⟨kt1_, s51_, s31_, s41_, kct1_, ⟨kht1_, lht1_⟩, ⟨kwt1_, lwt1_⟩⟩, ⟨ku1_, r51_, r31_, r41_, kcu1_, ⟨khu1_, lhu1_⟩, ⟨kwu1_, lwu1_⟩⟩, ⟨ka1_, kb1_, kk1_, kg1_, kbc1_⟩, pl1_⟩ := F1₀
  have g0n1_ : gr N1 g₀ 0 ≠ 0 := by omega
  have g0k1_ : kd N1 (gr N1 g₀ 0) = 5 := by rw [g01_]; exact kt1_
  have g1n1_ : gr N1 g₀ 1 ≠ 0 := by omega
  have g1k1_ : kd N1 (gr N1 g₀ 1) = 5 := by rw [g11_]; exact ku1_
  have g3n1_ : gr N1 g₀ 3 ≠ 0 := by omega
  have g3k1_ : kd N1 (gr N1 g₀ 3) = 1 := by rw [g31_]; exact ka1_
  have g4n1_ : gr N1 g₀ 4 ≠ 0 := by omega
  have g4k1_ : kd N1 (gr N1 g₀ 4) = 1 := by rw [g41_]; exact kb1_
  have g5n1_ : gr N1 g₀ 5 ≠ 0 := by omega
  have g5k1_ : kd N1 (gr N1 g₀ 5) = 2 := by rw [g51_]; exact kk1_
  have t51_ : gr N1 (gr N1 g₀ 0) 5 = t₀ + 3 := by rw [g01_]; exact s51_
  have t5n1_ : gr N1 (gr N1 g₀ 0) 5 ≠ 0 := by omega
  have t5k1_ : kd N1 (gr N1 (gr N1 g₀ 0) 5) = 4 := by rw [t51_]; exact kct1_
  have t31_ : gr N1 (gr N1 g₀ 0) 3 = t₀ + 1 := by rw [g01_]; exact s31_
  have t3n1_ : gr N1 (gr N1 g₀ 0) 3 ≠ 0 := by omega
  have t3k1_ : kd N1 (gr N1 (gr N1 g₀ 0) 3) = 8 := by rw [t31_]; exact kht1_
  have t3l1_ : ln N1 (gr N1 (gr N1 g₀ 0) 3) = 12 := by rw [t31_]; exact lht1_
  have t41_ : gr N1 (gr N1 g₀ 0) 4 = t₀ + 2 := by rw [g01_]; exact s41_
  have t4n1_ : gr N1 (gr N1 g₀ 0) 4 ≠ 0 := by omega
  have t4k1_ : kd N1 (gr N1 (gr N1 g₀ 0) 4) = 8 := by rw [t41_]; exact kwt1_
  have t4l1_ : ln N1 (gr N1 (gr N1 g₀ 0) 4) = 10 := by rw [t41_]; exact lwt1_
  have u51_ : gr N1 (gr N1 g₀ 1) 5 = u₀ + 3 := by rw [g11_]; exact r51_
  have u5n1_ : gr N1 (gr N1 g₀ 1) 5 ≠ 0 := by omega
  have u5k1_ : kd N1 (gr N1 (gr N1 g₀ 1) 5) = 4 := by rw [u51_]; exact kcu1_
  have u31_ : gr N1 (gr N1 g₀ 1) 3 = u₀ + 1 := by rw [g11_]; exact r31_
  have u3n1_ : gr N1 (gr N1 g₀ 1) 3 ≠ 0 := by omega
  have u3k1_ : kd N1 (gr N1 (gr N1 g₀ 1) 3) = 8 := by rw [u31_]; exact khu1_
  have u3l1_ : ln N1 (gr N1 (gr N1 g₀ 1) 3) = 12 := by rw [u31_]; exact lhu1_
  have u41_ : gr N1 (gr N1 g₀ 1) 4 = u₀ + 2 := by rw [g11_]; exact r41_
  have u4n1_ : gr N1 (gr N1 g₀ 1) 4 ≠ 0 := by omega
  have u4k1_ : kd N1 (gr N1 (gr N1 g₀ 1) 4) = 8 := by rw [u41_]; exact kwu1_
  have u4l1_ : ln N1 (gr N1 (gr N1 g₀ 1) 4) = 10 := by rw [u41_]; exact lwu1_
  (repeat' (((conv => whnf); first | (show (_ : Option mg_V) = _ ∧ _; assumption) | (show K _ _ _ _ _; assumption) | (show mm_th _ _ _ _; assumption) | refine And.intro (by first | assumption | omega | (simp only [true_and]; first | done | assumption | omega)) ?_ | (refine And.intro (fun _ => ?_) (fun _ => ?_) <;> first | (exfalso; omega) | skip) | intro _ | fail)))
  all_goals ((conv => whnf); (try rw [g01_]); (try rw [g11_]); (try rw [s51_]); (try rw [s31_]); (try rw [s41_]); (try rw [r51_]); (try rw [g31_]); (try rw [g41_]); (try rw [g51_]))
  refine Exists.intro _ (Exists.intro _ (And.intro (OP) (And.intro ?_ (fun _ _ h₀ => h₀.elim))))
  rintro _ N2 ⟨rfl, q₀⟩
  clear OP
  clear u4l1_ u4k1_ u4n1_ u41_ u3l1_ u3k1_ u3n1_ u31_ u5k1_ u5n1_ u51_ t4l1_ t4k1_ t4n1_ t41_ t3l1_ t3k1_ t3n1_ t31_ t5k1_ t5n1_ t51_ g5k1_ g5n1_ g4k1_ g4n1_ g3k1_ g3n1_ g1k1_ g1n1_ g0k1_ g0n1_ pl1_ kbc1_ kg1_ kk1_ kb1_ ka1_ lwu1_ kwu1_ lhu1_ khu1_ kcu1_ r41_ r31_ r51_ ku1_ lwt1_ kwt1_ lht1_ kht1_ kct1_ s41_ s31_ s51_ kt1_ g51_ g41_ g31_ g11_ g01_ k61_
  have F2 := mh_gF_fr F1' q₀.1.1 q₀.1.2.1 q₀.1.2.2.1
  have SF := @cX5_selectFirst D l hl N2 g₀ t₀ (g₀ + 259) (mh_gF_G0 F2) F2.1.2.2.2.1 (by omega) F2.2.2.2.1.1 q₀.2.1.1 (by have := q₀.2.2.1; omega)
  have F2' := F2
  obtain ⟨⟨k62_, g02_, g12_, g32_, g42_, g52_⟩, ⟨kt2_, s52_, s32_, s42_, kct2_, ⟨kht2_, lht2_⟩, ⟨kwt2_, lwt2_⟩⟩, ⟨ku2_, r52_, r32_, r42_, kcu2_, ⟨khu2_, lhu2_⟩, ⟨kwu2_, lwu2_⟩⟩, ⟨ka2_, kb2_, kk2_, kg2_, kbc2_⟩, pl2_⟩ := F2
  have g0n2_ : gr N2 g₀ 0 ≠ 0 := by omega
  have g0k2_ : kd N2 (gr N2 g₀ 0) = 5 := by rw [g02_]; exact kt2_
  have g1n2_ : gr N2 g₀ 1 ≠ 0 := by omega
  have g1k2_ : kd N2 (gr N2 g₀ 1) = 5 := by rw [g12_]; exact ku2_
  have g3n2_ : gr N2 g₀ 3 ≠ 0 := by omega
  have g3k2_ : kd N2 (gr N2 g₀ 3) = 1 := by rw [g32_]; exact ka2_
  have g4n2_ : gr N2 g₀ 4 ≠ 0 := by omega
  have g4k2_ : kd N2 (gr N2 g₀ 4) = 1 := by rw [g42_]; exact kb2_
  have g5n2_ : gr N2 g₀ 5 ≠ 0 := by omega
  have g5k2_ : kd N2 (gr N2 g₀ 5) = 2 := by rw [g52_]; exact kk2_
  have t52_ : gr N2 (gr N2 g₀ 0) 5 = t₀ + 3 := by rw [g02_]; exact s52_
  have t5n2_ : gr N2 (gr N2 g₀ 0) 5 ≠ 0 := by omega
  have t5k2_ : kd N2 (gr N2 (gr N2 g₀ 0) 5) = 4 := by rw [t52_]; exact kct2_
  have t32_ : gr N2 (gr N2 g₀ 0) 3 = t₀ + 1 := by rw [g02_]; exact s32_
  have t3n2_ : gr N2 (gr N2 g₀ 0) 3 ≠ 0 := by omega
  have t3k2_ : kd N2 (gr N2 (gr N2 g₀ 0) 3) = 8 := by rw [t32_]; exact kht2_
  have t3l2_ : ln N2 (gr N2 (gr N2 g₀ 0) 3) = 12 := by rw [t32_]; exact lht2_
  have t42_ : gr N2 (gr N2 g₀ 0) 4 = t₀ + 2 := by rw [g02_]; exact s42_
  have t4n2_ : gr N2 (gr N2 g₀ 0) 4 ≠ 0 := by omega
  have t4k2_ : kd N2 (gr N2 (gr N2 g₀ 0) 4) = 8 := by rw [t42_]; exact kwt2_
  have t4l2_ : ln N2 (gr N2 (gr N2 g₀ 0) 4) = 10 := by rw [t42_]; exact lwt2_
  have u52_ : gr N2 (gr N2 g₀ 1) 5 = u₀ + 3 := by rw [g12_]; exact r52_
  have u5n2_ : gr N2 (gr N2 g₀ 1) 5 ≠ 0 := by omega
  have u5k2_ : kd N2 (gr N2 (gr N2 g₀ 1) 5) = 4 := by rw [u52_]; exact kcu2_
  have u32_ : gr N2 (gr N2 g₀ 1) 3 = u₀ + 1 := by rw [g12_]; exact r32_
  have u3n2_ : gr N2 (gr N2 g₀ 1) 3 ≠ 0 := by omega
  have u3k2_ : kd N2 (gr N2 (gr N2 g₀ 1) 3) = 8 := by rw [u32_]; exact khu2_
  have u3l2_ : ln N2 (gr N2 (gr N2 g₀ 1) 3) = 12 := by rw [u32_]; exact lhu2_
  have u42_ : gr N2 (gr N2 g₀ 1) 4 = u₀ + 2 := by rw [g12_]; exact r42_
  have u4n2_ : gr N2 (gr N2 g₀ 1) 4 ≠ 0 := by omega
  have u4k2_ : kd N2 (gr N2 (gr N2 g₀ 1) 4) = 8 := by rw [u42_]; exact kwu2_
  have u4l2_ : ln N2 (gr N2 (gr N2 g₀ 1) 4) = 10 := by rw [u42_]; exact lwu2_
  clear F1'
  have q9₀ := q₀
  clear q₀ tl1 nb1
  (repeat' (((conv => whnf); first | (show (_ : Option mg_V) = _ ∧ _; assumption) | (show K _ _ _ _ _; assumption) | (show mm_th _ _ _ _; assumption) | refine And.intro (by first | assumption | omega | (simp only [true_and]; first | done | assumption | omega)) ?_ | (refine And.intro (fun _ => ?_) (fun _ => ?_) <;> first | (exfalso; omega) | skip) | intro _ | fail)))
  all_goals ((conv => whnf); skip)
  refine Exists.intro _ (Exists.intro _ (And.intro (SF) (And.intro ?_ (fun _ _ h₀ => h₀.elim))))
  rintro _ N ⟨rfl, q2₀⟩
  clear SF
  clear u4l2_ u4k2_ u4n2_ u42_ u3l2_ u3k2_ u3n2_ u32_ u5k2_ u5n2_ u52_ t4l2_ t4k2_ t4n2_ t42_ t3l2_ t3k2_ t3n2_ t32_ t5k2_ t5n2_ t52_ g5k2_ g5n2_ g4k2_ g4n2_ g3k2_ g3n2_ g1k2_ g1n2_ g0k2_ g0n2_ pl2_ kbc2_ kg2_ kk2_ kb2_ ka2_ lwu2_ kwu2_ lhu2_ khu2_ kcu2_ r42_ r32_ r52_ ku2_ lwt2_ kwt2_ lht2_ kht2_ kct2_ s42_ s32_ s52_ kt2_ g52_ g42_ g32_ g12_ g02_ k62_
  have Q₀ : some (Sum.inl (gi M a₀ 2 * 1) : mg_V) = some (.inl (gi M a₀ 2 * 1)) ∧ ∃ N1 N2, mh_rmb M N1 g₀ t₀ u₀ ∧ mh_np N1 N2 t₀ (gi N1 t₀ 0) (gi N1 t₀ 1) (gi N1 t₀ 2) (mh_q0 N1 t₀ 114 (gi M a₀ 0) (gi M a₀ 1) (gi M a₀ 2) (gi M a₀ 3)) (mh_q1 N1 t₀ 114 (gi M a₀ 0) (gi M a₀ 1) (gi M a₀ 2) (gi M a₀ 3)) (mh_q2 N1 t₀ 114 (gi M a₀ 0) (gi M a₀ 1) (gi M a₀ 2) (gi M a₀ 3)) (mh_q3 N1 t₀ 114 (gi M a₀ 0) (gi M a₀ 1) (gi M a₀ 2) (gi M a₀ 3)) (mh_q4 N1 t₀ 114 (gi M a₀ 4) (gi M a₀ 0) (gi M a₀ 1) (gi M a₀ 2) (gi M a₀ 3)) (mh_q5 N1 t₀ (gi M a₀ 5) (gi M a₀ 0) (gi M a₀ 1) (gi M a₀ 2) (gi M a₀ 3)) (fun k₀ => gi N1 (t₀ + 2) k₀.toNat) (fun k₀ => gi N1 (t₀ + 1) k₀.toNat) ∧ mh_hs N2 N t₀ (g₀ + 259) 0 0 0 0 := ⟨rfl, N1, N2, Rr, q9₀, q2₀⟩
  clear q9₀ q2₀ Rr K1 E1₀ FR K9 F2'
  (repeat' (((conv => whnf); first | (show (_ : Option mg_V) = _ ∧ _; assumption) | (show K _ _ _ _ _; assumption) | (show mm_th _ _ _ _; assumption) | refine And.intro (by first | assumption | omega | (simp only [true_and]; first | done | assumption | omega)) ?_ | (refine And.intro (fun _ => ?_) (fun _ => ?_) <;> first | (exfalso; omega) | skip) | intro _ | fail)))
set_option maxRecDepth 100000 in
theorem cX5_split0_99 {D : mg_D} {l : Launch} (hl : l.stackTraces = false) {M : mg_M} {g₀ t₀ u₀ : Nat} {r₀ c₀ : Int} {a₀ : Nat} (K9 : mh_K M g₀ t₀ u₀) (h₀ : mh_rg (gi M t₀ 0) (gi M t₀ 1) r₀ c₀) (ha₀ : mh_co M t₀ r₀ c₀ = a₀) (h3 : 1 * gi M a₀ 3 ≠ 1) : mg_Mt D l 94 [.inr (.inl g₀), .inl r₀, .inl c₀, .inl 99] M (fun v₀ N => v₀ = some (.inl (1 * gi M a₀ 3)) ∧ ∃ N1 N2, mh_rmb M N1 g₀ t₀ u₀ ∧ mh_np N1 N2 t₀ (gi N1 t₀ 0) (gi N1 t₀ 1) (gi N1 t₀ 2) (mh_q0 N1 t₀ 99 (gi M a₀ 0) (gi M a₀ 1) (gi M a₀ 2) (gi M a₀ 3)) (mh_q1 N1 t₀ 99 (gi M a₀ 0) (gi M a₀ 1) (gi M a₀ 2) (gi M a₀ 3)) (mh_q2 N1 t₀ 99 (gi M a₀ 0) (gi M a₀ 1) (gi M a₀ 2) (gi M a₀ 3)) (mh_q3 N1 t₀ 99 (gi M a₀ 0) (gi M a₀ 1) (gi M a₀ 2) (gi M a₀ 3)) (mh_q4 N1 t₀ 99 (gi M a₀ 4) (gi M a₀ 0) (gi M a₀ 1) (gi M a₀ 2) (gi M a₀ 3)) (mh_q5 N1 t₀ (gi M a₀ 5) (gi M a₀ 0) (gi M a₀ 1) (gi M a₀ 2) (gi M a₀ 3)) (fun k₀ => gi N1 (t₀ + 2) k₀.toNat) (fun k₀ => gi N1 (t₀ + 1) k₀.toNat) ∧ mh_hs N2 N t₀ (g₀ + 259) 0 0 0 0) mg_no := by
  refine mg_of2 hl ok_X5_split al_X5_split rfl (fun K hK₀ => ?_)
  have F9 := mh_gF_of K9
  have K0 := K9
  obtain ⟨⟨G, w1₀, w3₀, w4₀, w5⟩, _, wpl, ⟨tl, nb⟩, ⟨tbu, clu⟩, rb⟩ := K0
  have RM₀ := @cX5_remember D l hl M g₀ t₀ u₀ G w1₀ (by omega) tl.1 tbu tl.2.1 clu (by omega)
  have bb := tl.1.2.2
  have G0' := G
  have tlM := tl
  obtain ⟨i0₀, hi, w0₀, eo⟩ := @mh_tl_ow M t₀ r₀ c₀ tl h₀.1 h₀.2 (nb r₀ c₀ h₀.1.1 h₀.1.2 h₀.2.1 h₀.2.2)
  have z3 := tl.2.1.2.2.2.2.2.2.1
  have ea : gr M (t₀ + 3 + 1) i0₀ = a₀ := by rw [← ha₀]; exact (mh_co_at h₀ (tl.2.2.2.1 i0₀ hi r₀ c₀ w0₀)).symm
  have ok₀ := tl.2.2.1 i0₀ hi
  unfold mh_ok at ok₀
  rw [ea] at ok₀
  have sm₀ := (mh_co_sm tl nb h₀.1 h₀.2).1
  rw [ha₀] at sm₀
  have ck := @cX5_checkSquare0 D l hl M g₀ t₀ r₀ c₀ G h₀
  have ce := @cX4_cellAt D l hl M t₀ r₀ c₀ tl h₀.1 h₀.2 (nb r₀ c₀ h₀.1.1 h₀.1.2 h₀.2.1 h₀.2.2)
  rw [ha₀] at ce
  have pb : 1 ≤ 1 * gi M a₀ 3 ∧ 1 * gi M a₀ 3 ≤ 12 * 10 := ⟨Int.mul_pos (by omega) (by omega), Int.mul_le_mul (by omega) (by omega) (by omega) (by omega)⟩
  obtain ⟨⟨k6₀, g0, g1, g3₀, g4, g5₀⟩, ⟨kt, s5, s3₀, s4₀, kct, ⟨kht, lht⟩, ⟨kwt, lwt⟩⟩, ⟨ku, r5₀, r3, r4, kcu, ⟨khu, lhu⟩, ⟨kwu, lwu⟩⟩, ⟨ka, kb, kk, kg, kbc⟩, pl⟩ := F9
  have g0n : gr M g₀ 0 ≠ 0 := by omega
  have g0k : kd M (gr M g₀ 0) = 5 := by rw [g0]; exact kt
  have g1n : gr M g₀ 1 ≠ 0 := by omega
  have g1k : kd M (gr M g₀ 1) = 5 := by rw [g1]; exact ku
  have g3n : gr M g₀ 3 ≠ 0 := by omega
  have g3k : kd M (gr M g₀ 3) = 1 := by rw [g3₀]; exact ka
  have g4n : gr M g₀ 4 ≠ 0 := by omega
  have g4k : kd M (gr M g₀ 4) = 1 := by rw [g4]; exact kb
  have g5n : gr M g₀ 5 ≠ 0 := by omega
  have g5k : kd M (gr M g₀ 5) = 2 := by rw [g5₀]; exact kk
  have t5₀ : gr M (gr M g₀ 0) 5 = t₀ + 3 := by rw [g0]; exact s5
  have t5n : gr M (gr M g₀ 0) 5 ≠ 0 := by omega
  have t5k : kd M (gr M (gr M g₀ 0) 5) = 4 := by rw [t5₀]; exact kct
  have t3₀ : gr M (gr M g₀ 0) 3 = t₀ + 1 := by rw [g0]; exact s3₀
  have t3n : gr M (gr M g₀ 0) 3 ≠ 0 := by omega
  have t3k : kd M (gr M (gr M g₀ 0) 3) = 8 := by rw [t3₀]; exact kht
  have t3l : ln M (gr M (gr M g₀ 0) 3) = 12 := by rw [t3₀]; exact lht
  have t4₀ : gr M (gr M g₀ 0) 4 = t₀ + 2 := by rw [g0]; exact s4₀
  have t4n : gr M (gr M g₀ 0) 4 ≠ 0 := by omega
  have t4k : kd M (gr M (gr M g₀ 0) 4) = 8 := by rw [t4₀]; exact kwt
  have t4l : ln M (gr M (gr M g₀ 0) 4) = 10 := by rw [t4₀]; exact lwt
  have u5 : gr M (gr M g₀ 1) 5 = u₀ + 3 := by rw [g1]; exact r5₀
  have u5n : gr M (gr M g₀ 1) 5 ≠ 0 := by omega
  have u5k : kd M (gr M (gr M g₀ 1) 5) = 4 := by rw [u5]; exact kcu
  have u3 : gr M (gr M g₀ 1) 3 = u₀ + 1 := by rw [g1]; exact r3
  have u3n : gr M (gr M g₀ 1) 3 ≠ 0 := by omega
  have u3k : kd M (gr M (gr M g₀ 1) 3) = 8 := by rw [u3]; exact khu
  have u3l : ln M (gr M (gr M g₀ 1) 3) = 12 := by rw [u3]; exact lhu
  have u4₀ : gr M (gr M g₀ 1) 4 = u₀ + 2 := by rw [g1]; exact r4
  have u4n : gr M (gr M g₀ 1) 4 ≠ 0 := by omega
  have u4k : kd M (gr M (gr M g₀ 1) 4) = 8 := by rw [u4₀]; exact kwu
  have u4l : ln M (gr M (gr M g₀ 1) 4) = 10 := by rw [u4₀]; exact lwu
  have e0₀ : gi M (gr M g₀ 0) 0 = gi M t₀ 0 := by rw [g0]
  have e1₀ : gi M (gr M g₀ 0) 1 = gi M t₀ 1 := by rw [g0]
  have e2₀ : gi M (gr M g₀ 0) 2 = gi M t₀ 2 := by rw [g0]
  clear G w1₀ w3₀ w4₀ w5 tl nb tbu clu G0' w0₀ eo
  refine hK₀ _ _ _ _ _ ?_
  (repeat' (((conv => whnf); first | (show (_ : Option mg_V) = _ ∧ _; assumption) | (show K _ _ _ _ _; assumption) | (show mm_th _ _ _ _; assumption) | refine And.intro (by first | assumption | omega | (simp only [true_and]; first | done | assumption | omega)) ?_ | (refine And.intro (fun _ => ?_) (fun _ => ?_) <;> first | (exfalso; omega) | skip) | intro _ | fail)))
  all_goals (try ((conv => whnf); (refine Exists.intro _ (Exists.intro _ (And.intro (ck) (And.intro ?_ (fun _ _ h₀ => h₀.elim)))); rintro _ _ ⟨rfl, e₀⟩; have e2₀ := e₀.symm; clear e₀; subst e2₀); (repeat' (((conv => whnf); first | (show (_ : Option mg_V) = _ ∧ _; assumption) | (show K _ _ _ _ _; assumption) | (show mm_th _ _ _ _; assumption) | refine And.intro (by first | assumption | omega | (simp only [true_and]; first | done | assumption | omega)) ?_ | (refine And.intro (fun _ => ?_) (fun _ => ?_) <;> first | (exfalso; omega) | skip) | intro _ | fail)))))
  all_goals ((conv => whnf); (try rw [g0]); (try rw [g1]); (try rw [s5]); (try rw [s3₀]); (try rw [s4₀]); (try rw [r5₀]); (try rw [g3₀]); (try rw [g4]); (try rw [g5₀]))
  (refine Exists.intro _ (Exists.intro _ (And.intro (ce) (And.intro ?_ (fun _ _ h₀ => h₀.elim)))); rintro _ _ ⟨rfl, e₀⟩; have e2₀ := e₀.symm; clear e₀; subst e2₀)
  (repeat' (((conv => whnf); first | (show (_ : Option mg_V) = _ ∧ _; assumption) | (show K _ _ _ _ _; assumption) | (show mm_th _ _ _ _; assumption) | refine And.intro (by first | assumption | omega | (simp only [true_and]; first | done | assumption | omega)) ?_ | (refine And.intro (fun _ => ?_) (fun _ => ?_) <;> first | (exfalso; omega) | skip) | intro _ | fail)))
  all_goals ((conv => whnf); skip)
  refine Exists.intro _ (Exists.intro _ (And.intro (RM₀) (And.intro ?_ (fun _ _ h₀ => h₀.elim))))
  rintro _ N1 ⟨rfl, Rr⟩
  obtain ⟨K1, E1₀, FR, h21⟩ := mh_rmb_K K9 Rr
  clear RM₀
  obtain ⟨tl1, nb1⟩ := K1.2.2.2.1
  have v1₀ := (E1₀ t₀ (by omega) (by omega)).2.2.2
  have v10 := v1₀ 0
  have v11 := v1₀ 1
  have v12 := v1₀ 2
  have OP := (fun (E1' : mh_eq M N1 t₀) => @cX4_part D l hl N1 t₀ a₀ i0₀ 99 (gi M a₀ 0) (gi M a₀ 1) (gi M a₀ 2) (gi M a₀ 3) (gi M a₀ 4) (gi M a₀ 5) tl1 nb1 (by have := (E1' (t₀ + 3) (by omega) (by omega)).2.2.2 0; omega) (by rw [(mh_eq_cells E1' tlM.2.1 (i₀ := i0₀) (by omega)).1]; exact ea) (by have := (mh_eq_cells E1' tlM.2.1 (i₀ := i0₀) (by omega)).2; rw [ea] at this; exact ⟨this 0, this 1, this 2, this 3, this 4, this 5⟩)) E1₀
  have F1₀ := mh_gF_of K1
  rw [if_pos rfl, if_neg (by decide)] at OP
  clear u4l u4k u4n u4₀ u3l u3k u3n u3 u5k u5n u5 t4l t4k t4n t4₀ t3l t3k t3n t3₀ t5k t5n t5₀ g5k g5n g4k g4n g3k g3n g1k g1n g0k g0n pl kbc kg kk kb ka lwu kwu lhu khu kcu r4 r3 r5₀ ku lwt kwt lht kht kct s4₀ s3₀ s5 kt g5₀ g4 g3₀ g1 g0 k6₀
  have F1' := F1₀
  obtain ⟨⟨k61_, g01_, g11_, g31_, g41_, g51_⟩, ⟨kt1_, s51_, s31_, s41_, kct1_, ⟨kht1_, lht1_⟩, ⟨kwt1_, lwt1_⟩⟩, ⟨ku1_, r51_, r31_, r41_, kcu1_, ⟨khu1_, lhu1_⟩, ⟨kwu1_, lwu1_⟩⟩, ⟨ka1_, kb1_, kk1_, kg1_, kbc1_⟩, pl1_⟩ := F1₀
  have g0n1_ : gr N1 g₀ 0 ≠ 0 := by omega
  have g0k1_ : kd N1 (gr N1 g₀ 0) = 5 := by rw [g01_]; exact kt1_
  have g1n1_ : gr N1 g₀ 1 ≠ 0 := by omega
  have g1k1_ : kd N1 (gr N1 g₀ 1) = 5 := by rw [g11_]; exact ku1_
  have g3n1_ : gr N1 g₀ 3 ≠ 0 := by omega
  have g3k1_ : kd N1 (gr N1 g₀ 3) = 1 := by rw [g31_]; exact ka1_
  have g4n1_ : gr N1 g₀ 4 ≠ 0 := by omega
  have g4k1_ : kd N1 (gr N1 g₀ 4) = 1 := by rw [g41_]; exact kb1_
  have g5n1_ : gr N1 g₀ 5 ≠ 0 := by omega
  have g5k1_ : kd N1 (gr N1 g₀ 5) = 2 := by rw [g51_]; exact kk1_
  have t51_ : gr N1 (gr N1 g₀ 0) 5 = t₀ + 3 := by rw [g01_]; exact s51_
  have t5n1_ : gr N1 (gr N1 g₀ 0) 5 ≠ 0 := by omega
  have t5k1_ : kd N1 (gr N1 (gr N1 g₀ 0) 5) = 4 := by rw [t51_]; exact kct1_
  have t31_ : gr N1 (gr N1 g₀ 0) 3 = t₀ + 1 := by rw [g01_]; exact s31_
  have t3n1_ : gr N1 (gr N1 g₀ 0) 3 ≠ 0 := by omega
  have t3k1_ : kd N1 (gr N1 (gr N1 g₀ 0) 3) = 8 := by rw [t31_]; exact kht1_
  have t3l1_ : ln N1 (gr N1 (gr N1 g₀ 0) 3) = 12 := by rw [t31_]; exact lht1_
  have t41_ : gr N1 (gr N1 g₀ 0) 4 = t₀ + 2 := by rw [g01_]; exact s41_
  have t4n1_ : gr N1 (gr N1 g₀ 0) 4 ≠ 0 := by omega
  have t4k1_ : kd N1 (gr N1 (gr N1 g₀ 0) 4) = 8 := by rw [t41_]; exact kwt1_
  have t4l1_ : ln N1 (gr N1 (gr N1 g₀ 0) 4) = 10 := by rw [t41_]; exact lwt1_
  have u51_ : gr N1 (gr N1 g₀ 1) 5 = u₀ + 3 := by rw [g11_]; exact r51_
  have u5n1_ : gr N1 (gr N1 g₀ 1) 5 ≠ 0 := by omega
  have u5k1_ : kd N1 (gr N1 (gr N1 g₀ 1) 5) = 4 := by rw [u51_]; exact kcu1_
  have u31_ : gr N1 (gr N1 g₀ 1) 3 = u₀ + 1 := by rw [g11_]; exact r31_
  have u3n1_ : gr N1 (gr N1 g₀ 1) 3 ≠ 0 := by omega
  have u3k1_ : kd N1 (gr N1 (gr N1 g₀ 1) 3) = 8 := by rw [u31_]; exact khu1_
  have u3l1_ : ln N1 (gr N1 (gr N1 g₀ 1) 3) = 12 := by rw [u31_]; exact lhu1_
  have u41_ : gr N1 (gr N1 g₀ 1) 4 = u₀ + 2 := by rw [g11_]; exact r41_
  have u4n1_ : gr N1 (gr N1 g₀ 1) 4 ≠ 0 := by omega
  have u4k1_ : kd N1 (gr N1 (gr N1 g₀ 1) 4) = 8 := by rw [u41_]; exact kwu1_
  have u4l1_ : ln N1 (gr N1 (gr N1 g₀ 1) 4) = 10 := by rw [u41_]; exact lwu1_
  (repeat' (((conv => whnf); first | (show (_ : Option mg_V) = _ ∧ _; assumption) | (show K _ _ _ _ _; assumption) | (show mm_th _ _ _ _; assumption) | refine And.intro (by first | assumption | omega | (simp only [true_and]; first | done | assumption | omega)) ?_ | (refine And.intro (fun _ => ?_) (fun _ => ?_) <;> first | (exfalso; omega) | skip) | intro _ | fail)))
  all_goals ((conv => whnf); (try rw [g01_]); (try rw [g11_]); (try rw [s51_]); (try rw [s31_]); (try rw [s41_]); (try rw [r51_]); (try rw [g31_]); (try rw [g41_]); (try rw [g51_]))
  refine Exists.intro _ (Exists.intro _ (And.intro (OP) (And.intro ?_ (fun _ _ h₀ => h₀.elim))))
  rintro _ N2 ⟨rfl, q₀⟩
  clear OP
  clear u4l1_ u4k1_ u4n1_ u41_ u3l1_ u3k1_ u3n1_ u31_ u5k1_ u5n1_ u51_ t4l1_ t4k1_ t4n1_ t41_ t3l1_ t3k1_ t3n1_ t31_ t5k1_ t5n1_ t51_ g5k1_ g5n1_ g4k1_ g4n1_ g3k1_ g3n1_ g1k1_ g1n1_ g0k1_ g0n1_ pl1_ kbc1_ kg1_ kk1_ kb1_ ka1_ lwu1_ kwu1_ lhu1_ khu1_ kcu1_ r41_ r31_ r51_ ku1_ lwt1_ kwt1_ lht1_ kht1_ kct1_ s41_ s31_ s51_ kt1_ g51_ g41_ g31_ g11_ g01_ k61_
  have F2 := mh_gF_fr F1' q₀.1.1 q₀.1.2.1 q₀.1.2.2.1
  have SF := @cX5_selectFirst D l hl N2 g₀ t₀ (g₀ + 259) (mh_gF_G0 F2) F2.1.2.2.2.1 (by omega) F2.2.2.2.1.1 q₀.2.1.1 (by have := q₀.2.2.1; omega)
  have F2' := F2
  obtain ⟨⟨k62_, g02_, g12_, g32_, g42_, g52_⟩, ⟨kt2_, s52_, s32_, s42_, kct2_, ⟨kht2_, lht2_⟩, ⟨kwt2_, lwt2_⟩⟩, ⟨ku2_, r52_, r32_, r42_, kcu2_, ⟨khu2_, lhu2_⟩, ⟨kwu2_, lwu2_⟩⟩, ⟨ka2_, kb2_, kk2_, kg2_, kbc2_⟩, pl2_⟩ := F2
  have g0n2_ : gr N2 g₀ 0 ≠ 0 := by omega
  have g0k2_ : kd N2 (gr N2 g₀ 0) = 5 := by rw [g02_]; exact kt2_
  have g1n2_ : gr N2 g₀ 1 ≠ 0 := by omega
  have g1k2_ : kd N2 (gr N2 g₀ 1) = 5 := by rw [g12_]; exact ku2_
  have g3n2_ : gr N2 g₀ 3 ≠ 0 := by omega
  have g3k2_ : kd N2 (gr N2 g₀ 3) = 1 := by rw [g32_]; exact ka2_
  have g4n2_ : gr N2 g₀ 4 ≠ 0 := by omega
  have g4k2_ : kd N2 (gr N2 g₀ 4) = 1 := by rw [g42_]; exact kb2_
  have g5n2_ : gr N2 g₀ 5 ≠ 0 := by omega
  have g5k2_ : kd N2 (gr N2 g₀ 5) = 2 := by rw [g52_]; exact kk2_
  have t52_ : gr N2 (gr N2 g₀ 0) 5 = t₀ + 3 := by rw [g02_]; exact s52_
  have t5n2_ : gr N2 (gr N2 g₀ 0) 5 ≠ 0 := by omega
  have t5k2_ : kd N2 (gr N2 (gr N2 g₀ 0) 5) = 4 := by rw [t52_]; exact kct2_
  have t32_ : gr N2 (gr N2 g₀ 0) 3 = t₀ + 1 := by rw [g02_]; exact s32_
  have t3n2_ : gr N2 (gr N2 g₀ 0) 3 ≠ 0 := by omega
  have t3k2_ : kd N2 (gr N2 (gr N2 g₀ 0) 3) = 8 := by rw [t32_]; exact kht2_
  have t3l2_ : ln N2 (gr N2 (gr N2 g₀ 0) 3) = 12 := by rw [t32_]; exact lht2_
  have t42_ : gr N2 (gr N2 g₀ 0) 4 = t₀ + 2 := by rw [g02_]; exact s42_
  have t4n2_ : gr N2 (gr N2 g₀ 0) 4 ≠ 0 := by omega
  have t4k2_ : kd N2 (gr N2 (gr N2 g₀ 0) 4) = 8 := by rw [t42_]; exact kwt2_
  have t4l2_ : ln N2 (gr N2 (gr N2 g₀ 0) 4) = 10 := by rw [t42_]; exact lwt2_
  have u52_ : gr N2 (gr N2 g₀ 1) 5 = u₀ + 3 := by rw [g12_]; exact r52_
  have u5n2_ : gr N2 (gr N2 g₀ 1) 5 ≠ 0 := by omega
  have u5k2_ : kd N2 (gr N2 (gr N2 g₀ 1) 5) = 4 := by rw [u52_]; exact kcu2_
  have u32_ : gr N2 (gr N2 g₀ 1) 3 = u₀ + 1 := by rw [g12_]; exact r32_
  have u3n2_ : gr N2 (gr N2 g₀ 1) 3 ≠ 0 := by omega
  have u3k2_ : kd N2 (gr N2 (gr N2 g₀ 1) 3) = 8 := by rw [u32_]; exact khu2_
  have u3l2_ : ln N2 (gr N2 (gr N2 g₀ 1) 3) = 12 := by rw [u32_]; exact lhu2_
  have u42_ : gr N2 (gr N2 g₀ 1) 4 = u₀ + 2 := by rw [g12_]; exact r42_
  have u4n2_ : gr N2 (gr N2 g₀ 1) 4 ≠ 0 := by omega
  have u4k2_ : kd N2 (gr N2 (gr N2 g₀ 1) 4) = 8 := by rw [u42_]; exact kwu2_
  have u4l2_ : ln N2 (gr N2 (gr N2 g₀ 1) 4) = 10 := by rw [u42_]; exact lwu2_
  clear F1'
  have q9₀ := q₀
  clear q₀ tl1 nb1
  (repeat' (((conv => whnf); first | (show (_ : Option mg_V) = _ ∧ _; assumption) | (show K _ _ _ _ _; assumption) | (show mm_th _ _ _ _; assumption) | refine And.intro (by first | assumption | omega | (simp only [true_and]; first | done | assumption | omega)) ?_ | (refine And.intro (fun _ => ?_) (fun _ => ?_) <;> first | (exfalso; omega) | skip) | intro _ | fail)))
  all_goals ((conv => whnf); skip)
  refine Exists.intro _ (Exists.intro _ (And.intro (SF) (And.intro ?_ (fun _ _ h₀ => h₀.elim))))
  rintro _ N ⟨rfl, q2₀⟩
  clear SF
  clear u4l2_ u4k2_ u4n2_ u42_ u3l2_ u3k2_ u3n2_ u32_ u5k2_ u5n2_ u52_ t4l2_ t4k2_ t4n2_ t42_ t3l2_ t3k2_ t3n2_ t32_ t5k2_ t5n2_ t52_ g5k2_ g5n2_ g4k2_ g4n2_ g3k2_ g3n2_ g1k2_ g1n2_ g0k2_ g0n2_ pl2_ kbc2_ kg2_ kk2_ kb2_ ka2_ lwu2_ kwu2_ lhu2_ khu2_ kcu2_ r42_ r32_ r52_ ku2_ lwt2_ kwt2_ lht2_ kht2_ kct2_ s42_ s32_ s52_ kt2_ g52_ g42_ g32_ g12_ g02_ k62_
  have Q₀ : some (Sum.inl (1 * gi M a₀ 3) : mg_V) = some (.inl (1 * gi M a₀ 3)) ∧ ∃ N1 N2, mh_rmb M N1 g₀ t₀ u₀ ∧ mh_np N1 N2 t₀ (gi N1 t₀ 0) (gi N1 t₀ 1) (gi N1 t₀ 2) (mh_q0 N1 t₀ 99 (gi M a₀ 0) (gi M a₀ 1) (gi M a₀ 2) (gi M a₀ 3)) (mh_q1 N1 t₀ 99 (gi M a₀ 0) (gi M a₀ 1) (gi M a₀ 2) (gi M a₀ 3)) (mh_q2 N1 t₀ 99 (gi M a₀ 0) (gi M a₀ 1) (gi M a₀ 2) (gi M a₀ 3)) (mh_q3 N1 t₀ 99 (gi M a₀ 0) (gi M a₀ 1) (gi M a₀ 2) (gi M a₀ 3)) (mh_q4 N1 t₀ 99 (gi M a₀ 4) (gi M a₀ 0) (gi M a₀ 1) (gi M a₀ 2) (gi M a₀ 3)) (mh_q5 N1 t₀ (gi M a₀ 5) (gi M a₀ 0) (gi M a₀ 1) (gi M a₀ 2) (gi M a₀ 3)) (fun k₀ => gi N1 (t₀ + 2) k₀.toNat) (fun k₀ => gi N1 (t₀ + 1) k₀.toNat) ∧ mh_hs N2 N t₀ (g₀ + 259) 0 0 0 0 := ⟨rfl, N1, N2, Rr, q9₀, q2₀⟩
  clear q9₀ q2₀ Rr K1 E1₀ FR K9 F2'
  (repeat' (((conv => whnf); first | (show (_ : Option mg_V) = _ ∧ _; assumption) | (show K _ _ _ _ _; assumption) | (show mm_th _ _ _ _; assumption) | refine And.intro (by first | assumption | omega | (simp only [true_and]; first | done | assumption | omega)) ?_ | (refine And.intro (fun _ => ?_) (fun _ => ?_) <;> first | (exfalso; omega) | skip) | intro _ | fail)))
set_option maxRecDepth 100000 in
theorem cX5_split1 {D : mg_D} {l : Launch} (hl : l.stackTraces = false) {M : mg_M} {g₀ t₀ u₀ : Nat} {r₀ c₀ k₀ : Int} (K9 : mh_K M g₀ t₀ u₀) (h₀ : ¬ mh_rg (gi M t₀ 0) (gi M t₀ 1) r₀ c₀) : mg_Mt D l 94 [.inr (.inl g₀), .inl r₀, .inl c₀, .inl k₀] M mh_nN (mh_tX 1 M) := by
  refine mg_of2 hl ok_X5_split al_X5_split rfl (fun K hK₀ => ?_)
  have F9 := mh_gF_of K9
  obtain ⟨⟨k6₀, g0, g1, g3₀, g4, g5₀⟩, ⟨kt, s5, s3₀, s4₀, kct, ⟨kht, lht⟩, ⟨kwt, lwt⟩⟩, ⟨ku, r5₀, r3, r4, kcu, ⟨khu, lhu⟩, ⟨kwu, lwu⟩⟩, ⟨ka, kb, kk, kg, kbc⟩, pl⟩ := F9
  have g0n : gr M g₀ 0 ≠ 0 := by omega
  have g0k : kd M (gr M g₀ 0) = 5 := by rw [g0]; exact kt
  have g1n : gr M g₀ 1 ≠ 0 := by omega
  have g1k : kd M (gr M g₀ 1) = 5 := by rw [g1]; exact ku
  have g3n : gr M g₀ 3 ≠ 0 := by omega
  have g3k : kd M (gr M g₀ 3) = 1 := by rw [g3₀]; exact ka
  have g4n : gr M g₀ 4 ≠ 0 := by omega
  have g4k : kd M (gr M g₀ 4) = 1 := by rw [g4]; exact kb
  have g5n : gr M g₀ 5 ≠ 0 := by omega
  have g5k : kd M (gr M g₀ 5) = 2 := by rw [g5₀]; exact kk
  have t5₀ : gr M (gr M g₀ 0) 5 = t₀ + 3 := by rw [g0]; exact s5
  have t5n : gr M (gr M g₀ 0) 5 ≠ 0 := by omega
  have t5k : kd M (gr M (gr M g₀ 0) 5) = 4 := by rw [t5₀]; exact kct
  have t3₀ : gr M (gr M g₀ 0) 3 = t₀ + 1 := by rw [g0]; exact s3₀
  have t3n : gr M (gr M g₀ 0) 3 ≠ 0 := by omega
  have t3k : kd M (gr M (gr M g₀ 0) 3) = 8 := by rw [t3₀]; exact kht
  have t3l : ln M (gr M (gr M g₀ 0) 3) = 12 := by rw [t3₀]; exact lht
  have t4₀ : gr M (gr M g₀ 0) 4 = t₀ + 2 := by rw [g0]; exact s4₀
  have t4n : gr M (gr M g₀ 0) 4 ≠ 0 := by omega
  have t4k : kd M (gr M (gr M g₀ 0) 4) = 8 := by rw [t4₀]; exact kwt
  have t4l : ln M (gr M (gr M g₀ 0) 4) = 10 := by rw [t4₀]; exact lwt
  have u5 : gr M (gr M g₀ 1) 5 = u₀ + 3 := by rw [g1]; exact r5₀
  have u5n : gr M (gr M g₀ 1) 5 ≠ 0 := by omega
  have u5k : kd M (gr M (gr M g₀ 1) 5) = 4 := by rw [u5]; exact kcu
  have u3 : gr M (gr M g₀ 1) 3 = u₀ + 1 := by rw [g1]; exact r3
  have u3n : gr M (gr M g₀ 1) 3 ≠ 0 := by omega
  have u3k : kd M (gr M (gr M g₀ 1) 3) = 8 := by rw [u3]; exact khu
  have u3l : ln M (gr M (gr M g₀ 1) 3) = 12 := by rw [u3]; exact lhu
  have u4₀ : gr M (gr M g₀ 1) 4 = u₀ + 2 := by rw [g1]; exact r4
  have u4n : gr M (gr M g₀ 1) 4 ≠ 0 := by omega
  have u4k : kd M (gr M (gr M g₀ 1) 4) = 8 := by rw [u4₀]; exact kwu
  have u4l : ln M (gr M (gr M g₀ 1) 4) = 10 := by rw [u4₀]; exact lwu
  have e0₀ : gi M (gr M g₀ 0) 0 = gi M t₀ 0 := by rw [g0]
  have e1₀ : gi M (gr M g₀ 0) 1 = gi M t₀ 1 := by rw [g0]
  have e2₀ : gi M (gr M g₀ 0) 2 = gi M t₀ 2 := by rw [g0]
  have c1₀ := @cX5_checkSquare1 D l hl M g₀ t₀ r₀ c₀ K9.1.1 h₀
  clear K9
  refine hK₀ _ _ _ _ _ ?_
  (repeat' (((conv => whnf); first | (show (_ : Option mg_V) = _ ∧ _; assumption) | (show K _ _ _ _ _; assumption) | (show mm_th _ _ _ _; assumption) | refine And.intro (by first | assumption | omega | (simp only [true_and]; first | done | assumption | omega)) ?_ | (refine And.intro (fun _ => ?_) (fun _ => ?_) <;> first | (exfalso; omega) | skip) | intro _ | fail)))
  all_goals ((conv => whnf); skip)
  (refine Exists.intro _ (Exists.intro _ (And.intro (c1₀) (And.intro (fun _ _ h₀ => h₀.elim) ?_))); rintro _ _ ⟨rfl, n9, hn9, rfl⟩; (conv => whnf); first | exact ⟨rfl, n9, hn9, rfl⟩ | exact ⟨n9, hn9, rfl⟩)
set_option maxRecDepth 100000 in
theorem cX5_split2 {D : mg_D} {l : Launch} (hl : l.stackTraces = false) {M : mg_M} {g₀ t₀ u₀ : Nat} {r₀ c₀ k₀ : Int} (K9 : mh_K M g₀ t₀ u₀) (h₀ : mh_rg (gi M t₀ 0) (gi M t₀ 1) r₀ c₀) (hk : k₀ ≠ 115 ∧ k₀ ≠ 114 ∧ k₀ ≠ 99) : mg_Mt D l 94 [.inr (.inl g₀), .inl r₀, .inl c₀, .inl k₀] M mh_nN (mh_tX 3 M) := by
  refine mg_of2 hl ok_X5_split al_X5_split rfl (fun K hK₀ => ?_)
  have F9 := mh_gF_of K9
  obtain ⟨⟨k6₀, g0, g1, g3₀, g4, g5₀⟩, ⟨kt, s5, s3₀, s4₀, kct, ⟨kht, lht⟩, ⟨kwt, lwt⟩⟩, ⟨ku, r5₀, r3, r4, kcu, ⟨khu, lhu⟩, ⟨kwu, lwu⟩⟩, ⟨ka, kb, kk, kg, kbc⟩, pl⟩ := F9
  have g0n : gr M g₀ 0 ≠ 0 := by omega
  have g0k : kd M (gr M g₀ 0) = 5 := by rw [g0]; exact kt
  have g1n : gr M g₀ 1 ≠ 0 := by omega
  have g1k : kd M (gr M g₀ 1) = 5 := by rw [g1]; exact ku
  have g3n : gr M g₀ 3 ≠ 0 := by omega
  have g3k : kd M (gr M g₀ 3) = 1 := by rw [g3₀]; exact ka
  have g4n : gr M g₀ 4 ≠ 0 := by omega
  have g4k : kd M (gr M g₀ 4) = 1 := by rw [g4]; exact kb
  have g5n : gr M g₀ 5 ≠ 0 := by omega
  have g5k : kd M (gr M g₀ 5) = 2 := by rw [g5₀]; exact kk
  have t5₀ : gr M (gr M g₀ 0) 5 = t₀ + 3 := by rw [g0]; exact s5
  have t5n : gr M (gr M g₀ 0) 5 ≠ 0 := by omega
  have t5k : kd M (gr M (gr M g₀ 0) 5) = 4 := by rw [t5₀]; exact kct
  have t3₀ : gr M (gr M g₀ 0) 3 = t₀ + 1 := by rw [g0]; exact s3₀
  have t3n : gr M (gr M g₀ 0) 3 ≠ 0 := by omega
  have t3k : kd M (gr M (gr M g₀ 0) 3) = 8 := by rw [t3₀]; exact kht
  have t3l : ln M (gr M (gr M g₀ 0) 3) = 12 := by rw [t3₀]; exact lht
  have t4₀ : gr M (gr M g₀ 0) 4 = t₀ + 2 := by rw [g0]; exact s4₀
  have t4n : gr M (gr M g₀ 0) 4 ≠ 0 := by omega
  have t4k : kd M (gr M (gr M g₀ 0) 4) = 8 := by rw [t4₀]; exact kwt
  have t4l : ln M (gr M (gr M g₀ 0) 4) = 10 := by rw [t4₀]; exact lwt
  have u5 : gr M (gr M g₀ 1) 5 = u₀ + 3 := by rw [g1]; exact r5₀
  have u5n : gr M (gr M g₀ 1) 5 ≠ 0 := by omega
  have u5k : kd M (gr M (gr M g₀ 1) 5) = 4 := by rw [u5]; exact kcu
  have u3 : gr M (gr M g₀ 1) 3 = u₀ + 1 := by rw [g1]; exact r3
  have u3n : gr M (gr M g₀ 1) 3 ≠ 0 := by omega
  have u3k : kd M (gr M (gr M g₀ 1) 3) = 8 := by rw [u3]; exact khu
  have u3l : ln M (gr M (gr M g₀ 1) 3) = 12 := by rw [u3]; exact lhu
  have u4₀ : gr M (gr M g₀ 1) 4 = u₀ + 2 := by rw [g1]; exact r4
  have u4n : gr M (gr M g₀ 1) 4 ≠ 0 := by omega
  have u4k : kd M (gr M (gr M g₀ 1) 4) = 8 := by rw [u4₀]; exact kwu
  have u4l : ln M (gr M (gr M g₀ 1) 4) = 10 := by rw [u4₀]; exact lwu
  have e0₀ : gi M (gr M g₀ 0) 0 = gi M t₀ 0 := by rw [g0]
  have e1₀ : gi M (gr M g₀ 0) 1 = gi M t₀ 1 := by rw [g0]
  have e2₀ : gi M (gr M g₀ 0) 2 = gi M t₀ 2 := by rw [g0]
  have c1₀ := @cX5_checkSquare0 D l hl M g₀ t₀ r₀ c₀ K9.1.1 h₀
  clear K9
  refine hK₀ _ _ _ _ _ ?_
  (repeat' (((conv => whnf); first | (show (_ : Option mg_V) = _ ∧ _; assumption) | (show K _ _ _ _ _; assumption) | (show mm_th _ _ _ _; assumption) | refine And.intro (by first | assumption | omega | (simp only [true_and]; first | done | assumption | omega)) ?_ | (refine And.intro (fun _ => ?_) (fun _ => ?_) <;> first | (exfalso; omega) | skip) | intro _ | fail)))
  all_goals (try ((conv => whnf); (refine Exists.intro _ (Exists.intro _ (And.intro (c1₀) (And.intro ?_ (fun _ _ h₀ => h₀.elim)))); rintro _ _ ⟨rfl, e₀⟩; have e2₀ := e₀.symm; clear e₀; subst e2₀); (repeat' (((conv => whnf); first | (show (_ : Option mg_V) = _ ∧ _; assumption) | (show K _ _ _ _ _; assumption) | (show mm_th _ _ _ _; assumption) | refine And.intro (by first | assumption | omega | (simp only [true_and]; first | done | assumption | omega)) ?_ | (refine And.intro (fun _ => ?_) (fun _ => ?_) <;> first | (exfalso; omega) | skip) | intro _ | fail)))))
  all_goals (first | exact ⟨_, by assumption, rfl⟩ | (exfalso; omega))
set_option maxRecDepth 100000 in
theorem cX5_split3 {D : mg_D} {l : Launch} (hl : l.stackTraces = false) {M : mg_M} {g₀ t₀ u₀ : Nat} {r₀ c₀ k₀ : Int} {a₀ : Nat} (K9 : mh_K M g₀ t₀ u₀) (h₀ : mh_rg (gi M t₀ 0) (gi M t₀ 1) r₀ c₀) (hk : k₀ = 115 ∨ k₀ = 114 ∨ k₀ = 99) (ha₀ : mh_co M t₀ r₀ c₀ = a₀) (h3 : mh_dn k₀ (gi M a₀ 2) * mh_ax k₀ (gi M a₀ 3) = 1) : mg_Mt D l 94 [.inr (.inl g₀), .inl r₀, .inl c₀, .inl k₀] M mh_nN (mh_tX 2 M) := by
  refine mg_of2 hl ok_X5_split al_X5_split rfl (fun K hK₀ => ?_)
  have F9 := mh_gF_of K9
  obtain ⟨⟨k6₀, g0, g1, g3₀, g4, g5₀⟩, ⟨kt, s5, s3₀, s4₀, kct, ⟨kht, lht⟩, ⟨kwt, lwt⟩⟩, ⟨ku, r5₀, r3, r4, kcu, ⟨khu, lhu⟩, ⟨kwu, lwu⟩⟩, ⟨ka, kb, kk, kg, kbc⟩, pl⟩ := F9
  have g0n : gr M g₀ 0 ≠ 0 := by omega
  have g0k : kd M (gr M g₀ 0) = 5 := by rw [g0]; exact kt
  have g1n : gr M g₀ 1 ≠ 0 := by omega
  have g1k : kd M (gr M g₀ 1) = 5 := by rw [g1]; exact ku
  have g3n : gr M g₀ 3 ≠ 0 := by omega
  have g3k : kd M (gr M g₀ 3) = 1 := by rw [g3₀]; exact ka
  have g4n : gr M g₀ 4 ≠ 0 := by omega
  have g4k : kd M (gr M g₀ 4) = 1 := by rw [g4]; exact kb
  have g5n : gr M g₀ 5 ≠ 0 := by omega
  have g5k : kd M (gr M g₀ 5) = 2 := by rw [g5₀]; exact kk
  have t5₀ : gr M (gr M g₀ 0) 5 = t₀ + 3 := by rw [g0]; exact s5
  have t5n : gr M (gr M g₀ 0) 5 ≠ 0 := by omega
  have t5k : kd M (gr M (gr M g₀ 0) 5) = 4 := by rw [t5₀]; exact kct
  have t3₀ : gr M (gr M g₀ 0) 3 = t₀ + 1 := by rw [g0]; exact s3₀
  have t3n : gr M (gr M g₀ 0) 3 ≠ 0 := by omega
  have t3k : kd M (gr M (gr M g₀ 0) 3) = 8 := by rw [t3₀]; exact kht
  have t3l : ln M (gr M (gr M g₀ 0) 3) = 12 := by rw [t3₀]; exact lht
  have t4₀ : gr M (gr M g₀ 0) 4 = t₀ + 2 := by rw [g0]; exact s4₀
  have t4n : gr M (gr M g₀ 0) 4 ≠ 0 := by omega
  have t4k : kd M (gr M (gr M g₀ 0) 4) = 8 := by rw [t4₀]; exact kwt
  have t4l : ln M (gr M (gr M g₀ 0) 4) = 10 := by rw [t4₀]; exact lwt
  have u5 : gr M (gr M g₀ 1) 5 = u₀ + 3 := by rw [g1]; exact r5₀
  have u5n : gr M (gr M g₀ 1) 5 ≠ 0 := by omega
  have u5k : kd M (gr M (gr M g₀ 1) 5) = 4 := by rw [u5]; exact kcu
  have u3 : gr M (gr M g₀ 1) 3 = u₀ + 1 := by rw [g1]; exact r3
  have u3n : gr M (gr M g₀ 1) 3 ≠ 0 := by omega
  have u3k : kd M (gr M (gr M g₀ 1) 3) = 8 := by rw [u3]; exact khu
  have u3l : ln M (gr M (gr M g₀ 1) 3) = 12 := by rw [u3]; exact lhu
  have u4₀ : gr M (gr M g₀ 1) 4 = u₀ + 2 := by rw [g1]; exact r4
  have u4n : gr M (gr M g₀ 1) 4 ≠ 0 := by omega
  have u4k : kd M (gr M (gr M g₀ 1) 4) = 8 := by rw [u4₀]; exact kwu
  have u4l : ln M (gr M (gr M g₀ 1) 4) = 10 := by rw [u4₀]; exact lwu
  have e0₀ : gi M (gr M g₀ 0) 0 = gi M t₀ 0 := by rw [g0]
  have e1₀ : gi M (gr M g₀ 0) 1 = gi M t₀ 1 := by rw [g0]
  have e2₀ : gi M (gr M g₀ 0) 2 = gi M t₀ 2 := by rw [g0]
  have c1₀ := @cX5_checkSquare0 D l hl M g₀ t₀ r₀ c₀ K9.1.1 h₀
  obtain ⟨tl, nb⟩ := K9.2.2.2.1
  have sm₀ := (mh_co_sm tl nb h₀.1 h₀.2).1
  rw [ha₀] at sm₀
  have ce := @cX4_cellAt D l hl M t₀ r₀ c₀ tl h₀.1 h₀.2 (nb r₀ c₀ h₀.1.1 h₀.1.2 h₀.2.1 h₀.2.2)
  rw [ha₀] at ce
  have p1₀ : k₀ = 115 → gi M a₀ 2 * gi M a₀ 3 = 1 := fun w₀ => by rw [w₀] at h3; exact h3
  have p2₀ : k₀ = 114 → gi M a₀ 2 * 1 = 1 := fun w₀ => by rw [w₀] at h3; exact h3
  have p3₀ : k₀ = 99 → 1 * gi M a₀ 3 = 1 := fun w₀ => by rw [w₀] at h3; exact h3
  clear K9 tl nb h3
  refine hK₀ _ _ _ _ _ ?_
  (repeat' (((conv => whnf); first | (show (_ : Option mg_V) = _ ∧ _; assumption) | (show K _ _ _ _ _; assumption) | (show mm_th _ _ _ _; assumption) | refine And.intro (by first | assumption | omega | (simp only [true_and]; first | done | assumption | omega)) ?_ | (refine And.intro (fun _ => ?_) (fun _ => ?_) <;> first | (exfalso; omega) | skip) | intro _ | fail)))
  all_goals (try ((conv => whnf); (refine Exists.intro _ (Exists.intro _ (And.intro (c1₀) (And.intro ?_ (fun _ _ h₀ => h₀.elim)))); rintro _ _ ⟨rfl, e₀⟩; have e2₀ := e₀.symm; clear e₀; subst e2₀); (repeat' (((conv => whnf); first | (show (_ : Option mg_V) = _ ∧ _; assumption) | (show K _ _ _ _ _; assumption) | (show mm_th _ _ _ _; assumption) | refine And.intro (by first | assumption | omega | (simp only [true_and]; first | done | assumption | omega)) ?_ | (refine And.intro (fun _ => ?_) (fun _ => ?_) <;> first | (exfalso; omega) | skip) | intro _ | fail)))))
  all_goals ((conv => whnf); (try rw [g0]); (try rw [g1]); (try rw [s5]); (try rw [s3₀]); (try rw [s4₀]); (try rw [r5₀]); (try rw [g3₀]); (try rw [g4]); (try rw [g5₀]))
  all_goals (try ((refine Exists.intro _ (Exists.intro _ (And.intro (ce) (And.intro ?_ (fun _ _ h₀ => h₀.elim)))); rintro _ _ ⟨rfl, e₀⟩; have e2₀ := e₀.symm; clear e₀; subst e2₀); (repeat' (((conv => whnf); first | (show (_ : Option mg_V) = _ ∧ _; assumption) | (show K _ _ _ _ _; assumption) | (show mm_th _ _ _ _; assumption) | refine And.intro (by first | assumption | omega | (simp only [true_and]; first | done | assumption | omega)) ?_ | (refine And.intro (fun _ => ?_) (fun _ => ?_) <;> first | (exfalso; omega) | skip) | intro _ | fail)))))
  all_goals (first | exact ⟨_, by assumption, rfl⟩ | (exfalso; omega) | skip)
set_option maxRecDepth 100000 in
theorem cX5_merge0 {D : mg_D} {l : Launch} (hl : l.stackTraces = false) {M : mg_M} {g₀ t₀ u₀ : Nat} {a₀ b₀ su : Int} (K9 : mh_K M g₀ t₀ u₀) (V9 : mh_V M t₀) (ha₀ : mh_sum (fun i₀ => mh_bi (mh_in M (gr M (t₀ + 3 + 1) i₀) (g₀ + 259))) (gi M (t₀ + 3) 0).toNat = a₀) (hb₀ : mh_sum (fun i₀ => (if mh_bi (mh_in M (gr M (t₀ + 3 + 1) i₀) (g₀ + 259)) = 0 then (0 : Int) else if gi M (gr M (t₀ + 3 + 1) i₀) 4 = 0 then (0 : Int) else 1)) (gi M (t₀ + 3) 0).toNat = b₀) (hsu : mh_sum (fun i₀ => (if mh_bi (mh_in M (gr M (t₀ + 3 + 1) i₀) (g₀ + 259)) = 0 then (0 : Int) else gi M (gr M (t₀ + 3 + 1) i₀) 4)) (gi M (t₀ + 3) 0).toNat = su) (hc₀ : mh_cc M t₀ (gi M (g₀ + 259) 0) (gi M (g₀ + 259) 2) (gi M (g₀ + 259) 1) (gi M (g₀ + 259) 3)) (h1 : 1 < a₀) (h2 : b₀ ≤ 1) (h3 : gi M (g₀ + 259) 0 < gi M t₀ 2 ↔ gi M (g₀ + 259) 2 < gi M t₀ 2) : mg_Mt D l 93 [.inr (.inl g₀)] M (fun v₀ N => v₀ = some (.inl a₀) ∧ ∃ N1, mh_rmb M N1 g₀ t₀ u₀ ∧ mh_np N1 N t₀ (gi N1 t₀ 0) (gi N1 t₀ 1) (gi N1 t₀ 2) (fun p₀ q₀ => if (gi M (g₀ + 259) 0 ≤ p₀ ∧ p₀ ≤ gi M (g₀ + 259) 2) ∧ (gi M (g₀ + 259) 1 ≤ q₀ ∧ q₀ ≤ gi M (g₀ + 259) 3) then gi M (g₀ + 259) 0 else gi N1 (mh_co N1 t₀ p₀ q₀) 0) (fun p₀ q₀ => if (gi M (g₀ + 259) 0 ≤ p₀ ∧ p₀ ≤ gi M (g₀ + 259) 2) ∧ (gi M (g₀ + 259) 1 ≤ q₀ ∧ q₀ ≤ gi M (g₀ + 259) 3) then gi M (g₀ + 259) 1 else gi N1 (mh_co N1 t₀ p₀ q₀) 1) (fun p₀ q₀ => if (gi M (g₀ + 259) 0 ≤ p₀ ∧ p₀ ≤ gi M (g₀ + 259) 2) ∧ (gi M (g₀ + 259) 1 ≤ q₀ ∧ q₀ ≤ gi M (g₀ + 259) 3) then gi M (g₀ + 259) 2 - gi M (g₀ + 259) 0 + 1 else gi N1 (mh_co N1 t₀ p₀ q₀) 2) (fun p₀ q₀ => if (gi M (g₀ + 259) 0 ≤ p₀ ∧ p₀ ≤ gi M (g₀ + 259) 2) ∧ (gi M (g₀ + 259) 1 ≤ q₀ ∧ q₀ ≤ gi M (g₀ + 259) 3) then gi M (g₀ + 259) 3 - gi M (g₀ + 259) 1 + 1 else gi N1 (mh_co N1 t₀ p₀ q₀) 3) (fun p₀ q₀ => if (gi M (g₀ + 259) 0 ≤ p₀ ∧ p₀ ≤ gi M (g₀ + 259) 2) ∧ (gi M (g₀ + 259) 1 ≤ q₀ ∧ q₀ ≤ gi M (g₀ + 259) 3) then su else gi N1 (mh_co N1 t₀ p₀ q₀) 4) (fun p₀ q₀ => if (gi M (g₀ + 259) 0 ≤ p₀ ∧ p₀ ≤ gi M (g₀ + 259) 2) ∧ (gi M (g₀ + 259) 1 ≤ q₀ ∧ q₀ ≤ gi M (g₀ + 259) 3) then gi N1 (mh_co N1 t₀ (gi M (g₀ + 259) 0) (gi M (g₀ + 259) 1)) 5 else gi N1 (mh_co N1 t₀ p₀ q₀) 5) (fun k₀ => gi N1 (t₀ + 2) k₀.toNat) (fun k₀ => gi N1 (t₀ + 1) k₀.toNat)) mg_no := by
  refine mg_of2 hl ok_X5_merge al_X5_merge rfl (fun K hK₀ => ?_)
  have F9 := mh_gF_of K9
  have K0 := K9
  obtain ⟨⟨G, w1₀, w3₀, w4₀, w5⟩, _, wpl, ⟨tl, nb⟩, ⟨tbu, clu⟩, rb⟩ := K0
  have RM₀ := @cX5_remember D l hl M g₀ t₀ u₀ G w1₀ (by omega) tl.1 tbu tl.2.1 clu (by omega)
  have bb := tl.1.2.2
  have G0' := G
  have tlM := tl
  have arM := rb.2.2
  have c1₀ := @cX3_countIn D l hl M (t₀ + 3) (g₀ + 259) tl.2.1 (mh_tl_sm tl) F9.2.2.2.1.1
  have c2₀ := @cX3_filledIn D l hl M (t₀ + 3) (g₀ + 259) tl.2.1 (mh_tl_sm tl) F9.2.2.2.1.1
  rw [ha₀] at c1₀
  rw [hb₀] at c2₀
  have c3₀ := @cX4_isInHeader D l hl M t₀ (gi M (g₀ + 259) 0) G.2.2.1
  have c4₀ := @cX4_isInHeader D l hl M t₀ (gi M (g₀ + 259) 2) G.2.2.1
  obtain ⟨⟨k6₀, g0, g1, g3₀, g4, g5₀⟩, ⟨kt, s5, s3₀, s4₀, kct, ⟨kht, lht⟩, ⟨kwt, lwt⟩⟩, ⟨ku, r5₀, r3, r4, kcu, ⟨khu, lhu⟩, ⟨kwu, lwu⟩⟩, ⟨ka, kb, kk, kg, kbc⟩, pl⟩ := F9
  have g0n : gr M g₀ 0 ≠ 0 := by omega
  have g0k : kd M (gr M g₀ 0) = 5 := by rw [g0]; exact kt
  have g1n : gr M g₀ 1 ≠ 0 := by omega
  have g1k : kd M (gr M g₀ 1) = 5 := by rw [g1]; exact ku
  have g3n : gr M g₀ 3 ≠ 0 := by omega
  have g3k : kd M (gr M g₀ 3) = 1 := by rw [g3₀]; exact ka
  have g4n : gr M g₀ 4 ≠ 0 := by omega
  have g4k : kd M (gr M g₀ 4) = 1 := by rw [g4]; exact kb
  have g5n : gr M g₀ 5 ≠ 0 := by omega
  have g5k : kd M (gr M g₀ 5) = 2 := by rw [g5₀]; exact kk
  have t5₀ : gr M (gr M g₀ 0) 5 = t₀ + 3 := by rw [g0]; exact s5
  have t5n : gr M (gr M g₀ 0) 5 ≠ 0 := by omega
  have t5k : kd M (gr M (gr M g₀ 0) 5) = 4 := by rw [t5₀]; exact kct
  have t3₀ : gr M (gr M g₀ 0) 3 = t₀ + 1 := by rw [g0]; exact s3₀
  have t3n : gr M (gr M g₀ 0) 3 ≠ 0 := by omega
  have t3k : kd M (gr M (gr M g₀ 0) 3) = 8 := by rw [t3₀]; exact kht
  have t3l : ln M (gr M (gr M g₀ 0) 3) = 12 := by rw [t3₀]; exact lht
  have t4₀ : gr M (gr M g₀ 0) 4 = t₀ + 2 := by rw [g0]; exact s4₀
  have t4n : gr M (gr M g₀ 0) 4 ≠ 0 := by omega
  have t4k : kd M (gr M (gr M g₀ 0) 4) = 8 := by rw [t4₀]; exact kwt
  have t4l : ln M (gr M (gr M g₀ 0) 4) = 10 := by rw [t4₀]; exact lwt
  have u5 : gr M (gr M g₀ 1) 5 = u₀ + 3 := by rw [g1]; exact r5₀
  have u5n : gr M (gr M g₀ 1) 5 ≠ 0 := by omega
  have u5k : kd M (gr M (gr M g₀ 1) 5) = 4 := by rw [u5]; exact kcu
  have u3 : gr M (gr M g₀ 1) 3 = u₀ + 1 := by rw [g1]; exact r3
  have u3n : gr M (gr M g₀ 1) 3 ≠ 0 := by omega
  have u3k : kd M (gr M (gr M g₀ 1) 3) = 8 := by rw [u3]; exact khu
  have u3l : ln M (gr M (gr M g₀ 1) 3) = 12 := by rw [u3]; exact lhu
  have u4₀ : gr M (gr M g₀ 1) 4 = u₀ + 2 := by rw [g1]; exact r4
  have u4n : gr M (gr M g₀ 1) 4 ≠ 0 := by omega
  have u4k : kd M (gr M (gr M g₀ 1) 4) = 8 := by rw [u4₀]; exact kwu
  have u4l : ln M (gr M (gr M g₀ 1) 4) = 10 := by rw [u4₀]; exact lwu
  have e0₀ : gi M (gr M g₀ 0) 0 = gi M t₀ 0 := by rw [g0]
  have e1₀ : gi M (gr M g₀ 0) 1 = gi M t₀ 1 := by rw [g0]
  have e2₀ : gi M (gr M g₀ 0) 2 = gi M t₀ 2 := by rw [g0]
  have ez0 : gi M (gr M g₀ 3) 0 = gi M (g₀ + 259) 0 := by rw [g3₀]
  have ez2 : gi M (gr M g₀ 3) 2 = gi M (g₀ + 259) 2 := by rw [g3₀]
  clear G w1₀ w3₀ w4₀ w5 tl nb tbu clu G0' ha₀ hb₀
  refine hK₀ _ _ _ _ _ ?_
  (repeat' (((conv => whnf); first | (show (_ : Option mg_V) = _ ∧ _; assumption) | (show K _ _ _ _ _; assumption) | (show mm_th _ _ _ _; assumption) | refine And.intro (by first | assumption | omega | (simp only [true_and]; first | done | assumption | omega)) ?_ | (refine And.intro (fun _ => ?_) (fun _ => ?_) <;> first | (exfalso; omega) | skip) | intro _ | fail)))
  all_goals ((conv => whnf); (try rw [g0]); (try rw [g1]); (try rw [s5]); (try rw [s3₀]); (try rw [s4₀]); (try rw [r5₀]); (try rw [g3₀]); (try rw [g4]); (try rw [g5₀]))
  (refine Exists.intro _ (Exists.intro _ (And.intro (c1₀) (And.intro ?_ (fun _ _ h₀ => h₀.elim)))); rintro _ _ ⟨rfl, e₀⟩; have e2₀ := e₀.symm; clear e₀; subst e2₀)
  (repeat' (((conv => whnf); first | (show (_ : Option mg_V) = _ ∧ _; assumption) | (show K _ _ _ _ _; assumption) | (show mm_th _ _ _ _; assumption) | refine And.intro (by first | assumption | omega | (simp only [true_and]; first | done | assumption | omega)) ?_ | (refine And.intro (fun _ => ?_) (fun _ => ?_) <;> first | (exfalso; omega) | skip) | intro _ | fail)))
  all_goals ((conv => whnf); (try rw [g0]); (try rw [g1]); (try rw [s5]); (try rw [s3₀]); (try rw [s4₀]); (try rw [r5₀]); (try rw [g3₀]); (try rw [g4]); (try rw [g5₀]))
  (refine Exists.intro _ (Exists.intro _ (And.intro (c2₀) (And.intro ?_ (fun _ _ h₀ => h₀.elim)))); rintro _ _ ⟨rfl, e₀⟩; have e2₀ := e₀.symm; clear e₀; subst e2₀)
  (repeat' (((conv => whnf); first | (show (_ : Option mg_V) = _ ∧ _; assumption) | (show K _ _ _ _ _; assumption) | (show mm_th _ _ _ _; assumption) | refine And.intro (by first | assumption | omega | (simp only [true_and]; first | done | assumption | omega)) ?_ | (refine And.intro (fun _ => ?_) (fun _ => ?_) <;> first | (exfalso; omega) | skip) | intro _ | fail)))
  all_goals ((conv => whnf); (try rw [g0]); (try rw [g1]); (try rw [s5]); (try rw [s3₀]); (try rw [s4₀]); (try rw [r5₀]); (try rw [g3₀]); (try rw [g4]); (try rw [g5₀]))
  (refine Exists.intro _ (Exists.intro _ (And.intro (c3₀) (And.intro ?_ (fun _ _ h₀ => h₀.elim)))); rintro _ _ ⟨rfl, e₀⟩; have e2₀ := e₀.symm; clear e₀; subst e2₀)
  (repeat' (((conv => whnf); first | (show (_ : Option mg_V) = _ ∧ _; assumption) | (show K _ _ _ _ _; assumption) | (show mm_th _ _ _ _; assumption) | refine And.intro (by first | assumption | omega | (simp only [true_and]; first | done | assumption | omega)) ?_ | (refine And.intro (fun _ => ?_) (fun _ => ?_) <;> first | (exfalso; omega) | skip) | intro _ | fail)))
  all_goals ((conv => whnf); (try rw [g0]); (try rw [g1]); (try rw [s5]); (try rw [s3₀]); (try rw [s4₀]); (try rw [r5₀]); (try rw [g3₀]); (try rw [g4]); (try rw [g5₀]))
  (refine Exists.intro _ (Exists.intro _ (And.intro (c4₀) (And.intro ?_ (fun _ _ h₀ => h₀.elim)))); rintro _ _ ⟨rfl, e₀⟩; have e2₀ := e₀.symm; clear e₀; subst e2₀)
  (repeat' (((conv => whnf); first | (show (_ : Option mg_V) = _ ∧ _; assumption) | (show K _ _ _ _ _; assumption) | (show mm_th _ _ _ _; assumption) | refine And.intro (by first | assumption | omega | (simp only [true_and]; first | done | assumption | omega)) ?_ | (refine And.intro (fun _ => ?_) (fun _ => ?_) <;> first | (exfalso; omega) | skip) | intro _ | fail)))
  all_goals (first | (exfalso; (repeat' split at *) <;> omega) | skip)
  all_goals ((conv => whnf); skip)
  refine Exists.intro _ (Exists.intro _ (And.intro (RM₀) (And.intro ?_ (fun _ _ h₀ => h₀.elim))))
  rintro _ N1 ⟨rfl, Rr⟩
  obtain ⟨K1, E1₀, FR, h21⟩ := mh_rmb_K K9 Rr
  clear RM₀
  obtain ⟨tl1, nb1⟩ := K1.2.2.2.1
  have v1₀ := (E1₀ t₀ (by omega) (by omega)).2.2.2
  have v10 := v1₀ 0
  have v11 := v1₀ 1
  have v12 := v1₀ 2
  have OP := (fun (e₀ : mh_eq M N1 t₀) (ez : ∀ k₀, gi N1 (g₀ + 259) k₀ = gi M (g₀ + 259) k₀) => @cX4_join D l hl N1 t₀ (g₀ + 259) su tl1 nb1 K1.2.1.1 K1.2.2.2.2.2.2.2 (by omega) (fun i₀ hi => by
    have v3 := (e₀ (t₀ + 3) (by omega) (by omega)).2.2.2 0
    have z₀ := tlM.2.1.2.2.2.2.2.2.1
    obtain ⟨x1₀, x2₀⟩ := mh_eq_cells e₀ tlM.2.1 (i₀ := i₀) (by omega)
    rw [x1₀, x2₀]
    exact V9.1 i₀ (by omega)) (fun i₀ hi p₀ q₀ w1₀ w2₀ => by
    have v3 := (e₀ (t₀ + 3) (by omega) (by omega)).2.2.2 0
    have z₀ := tlM.2.1.2.2.2.2.2.2.1
    obtain ⟨x1₀, x2₀⟩ := mh_eq_cells e₀ tlM.2.1 (i₀ := i₀) (by omega)
    have y₀ := hc₀ i₀ (by omega)
    unfold mh_cv at w1₀
    unfold mh_in
    rw [x1₀] at w1₀ ⊢
    simp only [x2₀, ez] at w1₀ w2₀ ⊢
    exact decide_eq_true (by omega)) (by
    have v3 := (e₀ (t₀ + 3) (by omega) (by omega)).2.2.2 0
    have z₀ := tlM.2.1.2.2.2.2.2.2.1
    rw [v3]
    refine (mh_sum_cg _ (fun i₀ hi => ?_)).trans hsu
    obtain ⟨x1₀, x2₀⟩ := mh_eq_cells e₀ tlM.2.1 (i₀ := i₀) (by omega)
    unfold mh_in
    rw [x1₀]
    simp only [x2₀, ez])) E1₀ (fun k₀ => mm_f_gi FR (g₀ + 259) k₀ (by omega))
  have F1₀ := mh_gF_of K1
  have ezN : ∀ k₀, gi N1 (g₀ + 259) k₀ = gi M (g₀ + 259) k₀ := fun k₀ => mm_f_gi FR (g₀ + 259) k₀ (by omega)
  simp only [ezN] at OP
  clear ezN
  clear u4l u4k u4n u4₀ u3l u3k u3n u3 u5k u5n u5 t4l t4k t4n t4₀ t3l t3k t3n t3₀ t5k t5n t5₀ g5k g5n g4k g4n g3k g3n g1k g1n g0k g0n pl kbc kg kk kb ka lwu kwu lhu khu kcu r4 r3 r5₀ ku lwt kwt lht kht kct s4₀ s3₀ s5 kt g5₀ g4 g3₀ g1 g0 k6₀
  have F1' := F1₀
  obtain ⟨⟨k61_, g01_, g11_, g31_, g41_, g51_⟩, ⟨kt1_, s51_, s31_, s41_, kct1_, ⟨kht1_, lht1_⟩, ⟨kwt1_, lwt1_⟩⟩, ⟨ku1_, r51_, r31_, r41_, kcu1_, ⟨khu1_, lhu1_⟩, ⟨kwu1_, lwu1_⟩⟩, ⟨ka1_, kb1_, kk1_, kg1_, kbc1_⟩, pl1_⟩ := F1₀
  have g0n1_ : gr N1 g₀ 0 ≠ 0 := by omega
  have g0k1_ : kd N1 (gr N1 g₀ 0) = 5 := by rw [g01_]; exact kt1_
  have g1n1_ : gr N1 g₀ 1 ≠ 0 := by omega
  have g1k1_ : kd N1 (gr N1 g₀ 1) = 5 := by rw [g11_]; exact ku1_
  have g3n1_ : gr N1 g₀ 3 ≠ 0 := by omega
  have g3k1_ : kd N1 (gr N1 g₀ 3) = 1 := by rw [g31_]; exact ka1_
  have g4n1_ : gr N1 g₀ 4 ≠ 0 := by omega
  have g4k1_ : kd N1 (gr N1 g₀ 4) = 1 := by rw [g41_]; exact kb1_
  have g5n1_ : gr N1 g₀ 5 ≠ 0 := by omega
  have g5k1_ : kd N1 (gr N1 g₀ 5) = 2 := by rw [g51_]; exact kk1_
  have t51_ : gr N1 (gr N1 g₀ 0) 5 = t₀ + 3 := by rw [g01_]; exact s51_
  have t5n1_ : gr N1 (gr N1 g₀ 0) 5 ≠ 0 := by omega
  have t5k1_ : kd N1 (gr N1 (gr N1 g₀ 0) 5) = 4 := by rw [t51_]; exact kct1_
  have t31_ : gr N1 (gr N1 g₀ 0) 3 = t₀ + 1 := by rw [g01_]; exact s31_
  have t3n1_ : gr N1 (gr N1 g₀ 0) 3 ≠ 0 := by omega
  have t3k1_ : kd N1 (gr N1 (gr N1 g₀ 0) 3) = 8 := by rw [t31_]; exact kht1_
  have t3l1_ : ln N1 (gr N1 (gr N1 g₀ 0) 3) = 12 := by rw [t31_]; exact lht1_
  have t41_ : gr N1 (gr N1 g₀ 0) 4 = t₀ + 2 := by rw [g01_]; exact s41_
  have t4n1_ : gr N1 (gr N1 g₀ 0) 4 ≠ 0 := by omega
  have t4k1_ : kd N1 (gr N1 (gr N1 g₀ 0) 4) = 8 := by rw [t41_]; exact kwt1_
  have t4l1_ : ln N1 (gr N1 (gr N1 g₀ 0) 4) = 10 := by rw [t41_]; exact lwt1_
  have u51_ : gr N1 (gr N1 g₀ 1) 5 = u₀ + 3 := by rw [g11_]; exact r51_
  have u5n1_ : gr N1 (gr N1 g₀ 1) 5 ≠ 0 := by omega
  have u5k1_ : kd N1 (gr N1 (gr N1 g₀ 1) 5) = 4 := by rw [u51_]; exact kcu1_
  have u31_ : gr N1 (gr N1 g₀ 1) 3 = u₀ + 1 := by rw [g11_]; exact r31_
  have u3n1_ : gr N1 (gr N1 g₀ 1) 3 ≠ 0 := by omega
  have u3k1_ : kd N1 (gr N1 (gr N1 g₀ 1) 3) = 8 := by rw [u31_]; exact khu1_
  have u3l1_ : ln N1 (gr N1 (gr N1 g₀ 1) 3) = 12 := by rw [u31_]; exact lhu1_
  have u41_ : gr N1 (gr N1 g₀ 1) 4 = u₀ + 2 := by rw [g11_]; exact r41_
  have u4n1_ : gr N1 (gr N1 g₀ 1) 4 ≠ 0 := by omega
  have u4k1_ : kd N1 (gr N1 (gr N1 g₀ 1) 4) = 8 := by rw [u41_]; exact kwu1_
  have u4l1_ : ln N1 (gr N1 (gr N1 g₀ 1) 4) = 10 := by rw [u41_]; exact lwu1_
  (repeat' (((conv => whnf); first | (show (_ : Option mg_V) = _ ∧ _; assumption) | (show K _ _ _ _ _; assumption) | (show mm_th _ _ _ _; assumption) | refine And.intro (by first | assumption | omega | (simp only [true_and]; first | done | assumption | omega)) ?_ | (refine And.intro (fun _ => ?_) (fun _ => ?_) <;> first | (exfalso; omega) | skip) | intro _ | fail)))
  all_goals ((conv => whnf); (try rw [g01_]); (try rw [g11_]); (try rw [s51_]); (try rw [s31_]); (try rw [s41_]); (try rw [r51_]); (try rw [g31_]); (try rw [g41_]); (try rw [g51_]))
  refine Exists.intro _ (Exists.intro _ (And.intro (OP) (And.intro ?_ (fun _ _ h₀ => h₀.elim))))
  rintro _ N ⟨rfl, q₀⟩
  clear OP
  have Q₀ : some (Sum.inl a₀ : mg_V) = some (.inl a₀) ∧ ∃ N1, mh_rmb M N1 g₀ t₀ u₀ ∧ mh_np N1 N t₀ (gi N1 t₀ 0) (gi N1 t₀ 1) (gi N1 t₀ 2) (fun p₀ q₀ => if (gi M (g₀ + 259) 0 ≤ p₀ ∧ p₀ ≤ gi M (g₀ + 259) 2) ∧ (gi M (g₀ + 259) 1 ≤ q₀ ∧ q₀ ≤ gi M (g₀ + 259) 3) then gi M (g₀ + 259) 0 else gi N1 (mh_co N1 t₀ p₀ q₀) 0) (fun p₀ q₀ => if (gi M (g₀ + 259) 0 ≤ p₀ ∧ p₀ ≤ gi M (g₀ + 259) 2) ∧ (gi M (g₀ + 259) 1 ≤ q₀ ∧ q₀ ≤ gi M (g₀ + 259) 3) then gi M (g₀ + 259) 1 else gi N1 (mh_co N1 t₀ p₀ q₀) 1) (fun p₀ q₀ => if (gi M (g₀ + 259) 0 ≤ p₀ ∧ p₀ ≤ gi M (g₀ + 259) 2) ∧ (gi M (g₀ + 259) 1 ≤ q₀ ∧ q₀ ≤ gi M (g₀ + 259) 3) then gi M (g₀ + 259) 2 - gi M (g₀ + 259) 0 + 1 else gi N1 (mh_co N1 t₀ p₀ q₀) 2) (fun p₀ q₀ => if (gi M (g₀ + 259) 0 ≤ p₀ ∧ p₀ ≤ gi M (g₀ + 259) 2) ∧ (gi M (g₀ + 259) 1 ≤ q₀ ∧ q₀ ≤ gi M (g₀ + 259) 3) then gi M (g₀ + 259) 3 - gi M (g₀ + 259) 1 + 1 else gi N1 (mh_co N1 t₀ p₀ q₀) 3) (fun p₀ q₀ => if (gi M (g₀ + 259) 0 ≤ p₀ ∧ p₀ ≤ gi M (g₀ + 259) 2) ∧ (gi M (g₀ + 259) 1 ≤ q₀ ∧ q₀ ≤ gi M (g₀ + 259) 3) then su else gi N1 (mh_co N1 t₀ p₀ q₀) 4) (fun p₀ q₀ => if (gi M (g₀ + 259) 0 ≤ p₀ ∧ p₀ ≤ gi M (g₀ + 259) 2) ∧ (gi M (g₀ + 259) 1 ≤ q₀ ∧ q₀ ≤ gi M (g₀ + 259) 3) then gi N1 (mh_co N1 t₀ (gi M (g₀ + 259) 0) (gi M (g₀ + 259) 1)) 5 else gi N1 (mh_co N1 t₀ p₀ q₀) 5) (fun k₀ => gi N1 (t₀ + 2) k₀.toNat) (fun k₀ => gi N1 (t₀ + 1) k₀.toNat) := ⟨rfl, N1, Rr, q₀⟩
  clear q₀ Rr K1 E1₀ FR K9 F1'
  (repeat' (((conv => whnf); first | (show (_ : Option mg_V) = _ ∧ _; assumption) | (show K _ _ _ _ _; assumption) | (show mm_th _ _ _ _; assumption) | refine And.intro (by first | assumption | omega | (simp only [true_and]; first | done | assumption | omega)) ?_ | (refine And.intro (fun _ => ?_) (fun _ => ?_) <;> first | (exfalso; omega) | skip) | intro _ | fail)))
set_option maxRecDepth 100000 in
theorem cX5_merge1 {D : mg_D} {l : Launch} (hl : l.stackTraces = false) {M : mg_M} {g₀ t₀ u₀ : Nat} (K9 : mh_K M g₀ t₀ u₀) (ha₀ : mh_sum (fun i₀ => mh_bi (mh_in M (gr M (t₀ + 3 + 1) i₀) (g₀ + 259))) (gi M (t₀ + 3) 0).toNat ≤ 1) : mg_Mt D l 93 [.inr (.inl g₀)] M mh_nN (mh_tX 2 M) := by
  refine mg_of2 hl ok_X5_merge al_X5_merge rfl (fun K hK₀ => ?_)
  have F9 := mh_gF_of K9
  obtain ⟨⟨k6₀, g0, g1, g3₀, g4, g5₀⟩, ⟨kt, s5, s3₀, s4₀, kct, ⟨kht, lht⟩, ⟨kwt, lwt⟩⟩, ⟨ku, r5₀, r3, r4, kcu, ⟨khu, lhu⟩, ⟨kwu, lwu⟩⟩, ⟨ka, kb, kk, kg, kbc⟩, pl⟩ := F9
  have g0n : gr M g₀ 0 ≠ 0 := by omega
  have g0k : kd M (gr M g₀ 0) = 5 := by rw [g0]; exact kt
  have g1n : gr M g₀ 1 ≠ 0 := by omega
  have g1k : kd M (gr M g₀ 1) = 5 := by rw [g1]; exact ku
  have g3n : gr M g₀ 3 ≠ 0 := by omega
  have g3k : kd M (gr M g₀ 3) = 1 := by rw [g3₀]; exact ka
  have g4n : gr M g₀ 4 ≠ 0 := by omega
  have g4k : kd M (gr M g₀ 4) = 1 := by rw [g4]; exact kb
  have g5n : gr M g₀ 5 ≠ 0 := by omega
  have g5k : kd M (gr M g₀ 5) = 2 := by rw [g5₀]; exact kk
  have t5₀ : gr M (gr M g₀ 0) 5 = t₀ + 3 := by rw [g0]; exact s5
  have t5n : gr M (gr M g₀ 0) 5 ≠ 0 := by omega
  have t5k : kd M (gr M (gr M g₀ 0) 5) = 4 := by rw [t5₀]; exact kct
  have t3₀ : gr M (gr M g₀ 0) 3 = t₀ + 1 := by rw [g0]; exact s3₀
  have t3n : gr M (gr M g₀ 0) 3 ≠ 0 := by omega
  have t3k : kd M (gr M (gr M g₀ 0) 3) = 8 := by rw [t3₀]; exact kht
  have t3l : ln M (gr M (gr M g₀ 0) 3) = 12 := by rw [t3₀]; exact lht
  have t4₀ : gr M (gr M g₀ 0) 4 = t₀ + 2 := by rw [g0]; exact s4₀
  have t4n : gr M (gr M g₀ 0) 4 ≠ 0 := by omega
  have t4k : kd M (gr M (gr M g₀ 0) 4) = 8 := by rw [t4₀]; exact kwt
  have t4l : ln M (gr M (gr M g₀ 0) 4) = 10 := by rw [t4₀]; exact lwt
  have u5 : gr M (gr M g₀ 1) 5 = u₀ + 3 := by rw [g1]; exact r5₀
  have u5n : gr M (gr M g₀ 1) 5 ≠ 0 := by omega
  have u5k : kd M (gr M (gr M g₀ 1) 5) = 4 := by rw [u5]; exact kcu
  have u3 : gr M (gr M g₀ 1) 3 = u₀ + 1 := by rw [g1]; exact r3
  have u3n : gr M (gr M g₀ 1) 3 ≠ 0 := by omega
  have u3k : kd M (gr M (gr M g₀ 1) 3) = 8 := by rw [u3]; exact khu
  have u3l : ln M (gr M (gr M g₀ 1) 3) = 12 := by rw [u3]; exact lhu
  have u4₀ : gr M (gr M g₀ 1) 4 = u₀ + 2 := by rw [g1]; exact r4
  have u4n : gr M (gr M g₀ 1) 4 ≠ 0 := by omega
  have u4k : kd M (gr M (gr M g₀ 1) 4) = 8 := by rw [u4₀]; exact kwu
  have u4l : ln M (gr M (gr M g₀ 1) 4) = 10 := by rw [u4₀]; exact lwu
  have e0₀ : gi M (gr M g₀ 0) 0 = gi M t₀ 0 := by rw [g0]
  have e1₀ : gi M (gr M g₀ 0) 1 = gi M t₀ 1 := by rw [g0]
  have e2₀ : gi M (gr M g₀ 0) 2 = gi M t₀ 2 := by rw [g0]
  have tl := K9.2.2.2.1.1
  have c1₀ := @cX3_countIn D l hl M (t₀ + 3) (g₀ + 259) tl.2.1 (mh_tl_sm tl) ka
  generalize mh_sum (fun i₀ => mh_bi (mh_in M (gr M (t₀ + 3 + 1) i₀) (g₀ + 259))) (gi M (t₀ + 3) 0).toNat = zz at *
  clear K9 tl
  refine hK₀ _ _ _ _ _ ?_
  (repeat' (((conv => whnf); first | (show (_ : Option mg_V) = _ ∧ _; assumption) | (show K _ _ _ _ _; assumption) | (show mm_th _ _ _ _; assumption) | refine And.intro (by first | assumption | omega | (simp only [true_and]; first | done | assumption | omega)) ?_ | (refine And.intro (fun _ => ?_) (fun _ => ?_) <;> first | (exfalso; omega) | skip) | intro _ | fail)))
  all_goals ((conv => whnf); (try rw [g0]); (try rw [g1]); (try rw [s5]); (try rw [s3₀]); (try rw [s4₀]); (try rw [r5₀]); (try rw [g3₀]); (try rw [g4]); (try rw [g5₀]))
  (refine Exists.intro _ (Exists.intro _ (And.intro (c1₀) (And.intro ?_ (fun _ _ h₀ => h₀.elim)))); rintro _ _ ⟨rfl, e₀⟩; have e2₀ := e₀.symm; clear e₀; subst e2₀)
  (repeat' (((conv => whnf); first | (show (_ : Option mg_V) = _ ∧ _; assumption) | (show K _ _ _ _ _; assumption) | (show mm_th _ _ _ _; assumption) | refine And.intro (by first | assumption | omega | (simp only [true_and]; first | done | assumption | omega)) ?_ | (refine And.intro (fun _ => ?_) (fun _ => ?_) <;> first | (exfalso; omega) | skip) | intro _ | fail)))
  all_goals (first | exact ⟨_, by assumption, rfl⟩ | exact ⟨rfl, _, by assumption, rfl⟩)
set_option maxRecDepth 100000 in
theorem cX5_merge2 {D : mg_D} {l : Launch} (hl : l.stackTraces = false) {M : mg_M} {g₀ t₀ u₀ : Nat} (K9 : mh_K M g₀ t₀ u₀) (ha₀ : 1 < mh_sum (fun i₀ => mh_bi (mh_in M (gr M (t₀ + 3 + 1) i₀) (g₀ + 259))) (gi M (t₀ + 3) 0).toNat) (h2 : 1 < mh_sum (fun i₀ => (if mh_bi (mh_in M (gr M (t₀ + 3 + 1) i₀) (g₀ + 259)) = 0 then (0 : Int) else if gi M (gr M (t₀ + 3 + 1) i₀) 4 = 0 then (0 : Int) else 1)) (gi M (t₀ + 3) 0).toNat ∨ ¬ (gi M (g₀ + 259) 0 < gi M t₀ 2 ↔ gi M (g₀ + 259) 2 < gi M t₀ 2)) : mg_Mt D l 93 [.inr (.inl g₀)] M mh_nN (mh_tX 4 M) := by
  refine mg_of2 hl ok_X5_merge al_X5_merge rfl (fun K hK₀ => ?_)
  have F9 := mh_gF_of K9
  obtain ⟨⟨k6₀, g0, g1, g3₀, g4, g5₀⟩, ⟨kt, s5, s3₀, s4₀, kct, ⟨kht, lht⟩, ⟨kwt, lwt⟩⟩, ⟨ku, r5₀, r3, r4, kcu, ⟨khu, lhu⟩, ⟨kwu, lwu⟩⟩, ⟨ka, kb, kk, kg, kbc⟩, pl⟩ := F9
  have g0n : gr M g₀ 0 ≠ 0 := by omega
  have g0k : kd M (gr M g₀ 0) = 5 := by rw [g0]; exact kt
  have g1n : gr M g₀ 1 ≠ 0 := by omega
  have g1k : kd M (gr M g₀ 1) = 5 := by rw [g1]; exact ku
  have g3n : gr M g₀ 3 ≠ 0 := by omega
  have g3k : kd M (gr M g₀ 3) = 1 := by rw [g3₀]; exact ka
  have g4n : gr M g₀ 4 ≠ 0 := by omega
  have g4k : kd M (gr M g₀ 4) = 1 := by rw [g4]; exact kb
  have g5n : gr M g₀ 5 ≠ 0 := by omega
  have g5k : kd M (gr M g₀ 5) = 2 := by rw [g5₀]; exact kk
  have t5₀ : gr M (gr M g₀ 0) 5 = t₀ + 3 := by rw [g0]; exact s5
  have t5n : gr M (gr M g₀ 0) 5 ≠ 0 := by omega
  have t5k : kd M (gr M (gr M g₀ 0) 5) = 4 := by rw [t5₀]; exact kct
  have t3₀ : gr M (gr M g₀ 0) 3 = t₀ + 1 := by rw [g0]; exact s3₀
  have t3n : gr M (gr M g₀ 0) 3 ≠ 0 := by omega
  have t3k : kd M (gr M (gr M g₀ 0) 3) = 8 := by rw [t3₀]; exact kht
  have t3l : ln M (gr M (gr M g₀ 0) 3) = 12 := by rw [t3₀]; exact lht
  have t4₀ : gr M (gr M g₀ 0) 4 = t₀ + 2 := by rw [g0]; exact s4₀
  have t4n : gr M (gr M g₀ 0) 4 ≠ 0 := by omega
  have t4k : kd M (gr M (gr M g₀ 0) 4) = 8 := by rw [t4₀]; exact kwt
  have t4l : ln M (gr M (gr M g₀ 0) 4) = 10 := by rw [t4₀]; exact lwt
  have u5 : gr M (gr M g₀ 1) 5 = u₀ + 3 := by rw [g1]; exact r5₀
  have u5n : gr M (gr M g₀ 1) 5 ≠ 0 := by omega
  have u5k : kd M (gr M (gr M g₀ 1) 5) = 4 := by rw [u5]; exact kcu
  have u3 : gr M (gr M g₀ 1) 3 = u₀ + 1 := by rw [g1]; exact r3
  have u3n : gr M (gr M g₀ 1) 3 ≠ 0 := by omega
  have u3k : kd M (gr M (gr M g₀ 1) 3) = 8 := by rw [u3]; exact khu
  have u3l : ln M (gr M (gr M g₀ 1) 3) = 12 := by rw [u3]; exact lhu
  have u4₀ : gr M (gr M g₀ 1) 4 = u₀ + 2 := by rw [g1]; exact r4
  have u4n : gr M (gr M g₀ 1) 4 ≠ 0 := by omega
  have u4k : kd M (gr M (gr M g₀ 1) 4) = 8 := by rw [u4₀]; exact kwu
  have u4l : ln M (gr M (gr M g₀ 1) 4) = 10 := by rw [u4₀]; exact lwu
  have e0₀ : gi M (gr M g₀ 0) 0 = gi M t₀ 0 := by rw [g0]
  have e1₀ : gi M (gr M g₀ 0) 1 = gi M t₀ 1 := by rw [g0]
  have e2₀ : gi M (gr M g₀ 0) 2 = gi M t₀ 2 := by rw [g0]
  have tl := K9.2.2.2.1.1
  have c1₀ := @cX3_countIn D l hl M (t₀ + 3) (g₀ + 259) tl.2.1 (mh_tl_sm tl) ka
  have c2₀ := @cX3_filledIn D l hl M (t₀ + 3) (g₀ + 259) tl.2.1 (mh_tl_sm tl) ka
  have c3₀ := @cX4_isInHeader D l hl M t₀ (gi M (g₀ + 259) 0) kt
  have c4₀ := @cX4_isInHeader D l hl M t₀ (gi M (g₀ + 259) 2) kt
  have ez0 : gi M (gr M g₀ 3) 0 = gi M (g₀ + 259) 0 := by rw [g3₀]
  have ez2 : gi M (gr M g₀ 3) 2 = gi M (g₀ + 259) 2 := by rw [g3₀]
  generalize mh_sum (fun i₀ => mh_bi (mh_in M (gr M (t₀ + 3 + 1) i₀) (g₀ + 259))) (gi M (t₀ + 3) 0).toNat = zz at *
  generalize mh_sum (fun i₀ => (if mh_bi (mh_in M (gr M (t₀ + 3 + 1) i₀) (g₀ + 259)) = 0 then (0 : Int) else if gi M (gr M (t₀ + 3 + 1) i₀) 4 = 0 then (0 : Int) else 1)) (gi M (t₀ + 3) 0).toNat = yy at *
  clear K9 tl
  by_cases h5 : 1 < yy
  · refine hK₀ _ _ _ _ _ ?_
    (repeat' (((conv => whnf); first | (show (_ : Option mg_V) = _ ∧ _; assumption) | (show K _ _ _ _ _; assumption) | (show mm_th _ _ _ _; assumption) | refine And.intro (by first | assumption | omega | (simp only [true_and]; first | done | assumption | omega)) ?_ | (refine And.intro (fun _ => ?_) (fun _ => ?_) <;> first | (exfalso; omega) | skip) | intro _ | fail)))
    all_goals ((conv => whnf); (try rw [g0]); (try rw [g1]); (try rw [s5]); (try rw [s3₀]); (try rw [s4₀]); (try rw [r5₀]); (try rw [g3₀]); (try rw [g4]); (try rw [g5₀]))
    (refine Exists.intro _ (Exists.intro _ (And.intro (c1₀) (And.intro ?_ (fun _ _ h₀ => h₀.elim)))); rintro _ _ ⟨rfl, e₀⟩; have e2₀ := e₀.symm; clear e₀; subst e2₀)
    (repeat' (((conv => whnf); first | (show (_ : Option mg_V) = _ ∧ _; assumption) | (show K _ _ _ _ _; assumption) | (show mm_th _ _ _ _; assumption) | refine And.intro (by first | assumption | omega | (simp only [true_and]; first | done | assumption | omega)) ?_ | (refine And.intro (fun _ => ?_) (fun _ => ?_) <;> first | (exfalso; omega) | skip) | intro _ | fail)))
    all_goals ((conv => whnf); (try rw [g0]); (try rw [g1]); (try rw [s5]); (try rw [s3₀]); (try rw [s4₀]); (try rw [r5₀]); (try rw [g3₀]); (try rw [g4]); (try rw [g5₀]))
    (refine Exists.intro _ (Exists.intro _ (And.intro (c2₀) (And.intro ?_ (fun _ _ h₀ => h₀.elim)))); rintro _ _ ⟨rfl, e₀⟩; have e2₀ := e₀.symm; clear e₀; subst e2₀)
    (repeat' (((conv => whnf); first | (show (_ : Option mg_V) = _ ∧ _; assumption) | (show K _ _ _ _ _; assumption) | (show mm_th _ _ _ _; assumption) | refine And.intro (by first | assumption | omega | (simp only [true_and]; first | done | assumption | omega)) ?_ | (refine And.intro (fun _ => ?_) (fun _ => ?_) <;> first | (exfalso; omega) | skip) | intro _ | fail)))
    all_goals (first | exact ⟨_, by assumption, rfl⟩ | exact ⟨rfl, _, by assumption, rfl⟩)
  · have h6 := h2.resolve_left h5
    refine hK₀ _ _ _ _ _ ?_
    (repeat' (((conv => whnf); first | (show (_ : Option mg_V) = _ ∧ _; assumption) | (show K _ _ _ _ _; assumption) | (show mm_th _ _ _ _; assumption) | refine And.intro (by first | assumption | omega | (simp only [true_and]; first | done | assumption | omega)) ?_ | (refine And.intro (fun _ => ?_) (fun _ => ?_) <;> first | (exfalso; omega) | skip) | intro _ | fail)))
    all_goals ((conv => whnf); (try rw [g0]); (try rw [g1]); (try rw [s5]); (try rw [s3₀]); (try rw [s4₀]); (try rw [r5₀]); (try rw [g3₀]); (try rw [g4]); (try rw [g5₀]))
    (refine Exists.intro _ (Exists.intro _ (And.intro (c1₀) (And.intro ?_ (fun _ _ h₀ => h₀.elim)))); rintro _ _ ⟨rfl, e₀⟩; have e2₀ := e₀.symm; clear e₀; subst e2₀)
    (repeat' (((conv => whnf); first | (show (_ : Option mg_V) = _ ∧ _; assumption) | (show K _ _ _ _ _; assumption) | (show mm_th _ _ _ _; assumption) | refine And.intro (by first | assumption | omega | (simp only [true_and]; first | done | assumption | omega)) ?_ | (refine And.intro (fun _ => ?_) (fun _ => ?_) <;> first | (exfalso; omega) | skip) | intro _ | fail)))
    all_goals ((conv => whnf); (try rw [g0]); (try rw [g1]); (try rw [s5]); (try rw [s3₀]); (try rw [s4₀]); (try rw [r5₀]); (try rw [g3₀]); (try rw [g4]); (try rw [g5₀]))
    (refine Exists.intro _ (Exists.intro _ (And.intro (c2₀) (And.intro ?_ (fun _ _ h₀ => h₀.elim)))); rintro _ _ ⟨rfl, e₀⟩; have e2₀ := e₀.symm; clear e₀; subst e2₀)
    (repeat' (((conv => whnf); first | (show (_ : Option mg_V) = _ ∧ _; assumption) | (show K _ _ _ _ _; assumption) | (show mm_th _ _ _ _; assumption) | refine And.intro (by first | assumption | omega | (simp only [true_and]; first | done | assumption | omega)) ?_ | (refine And.intro (fun _ => ?_) (fun _ => ?_) <;> first | (exfalso; omega) | skip) | intro _ | fail)))
    all_goals ((conv => whnf); (try rw [g0]); (try rw [g1]); (try rw [s5]); (try rw [s3₀]); (try rw [s4₀]); (try rw [r5₀]); (try rw [g3₀]); (try rw [g4]); (try rw [g5₀]))
    (refine Exists.intro _ (Exists.intro _ (And.intro (c3₀) (And.intro ?_ (fun _ _ h₀ => h₀.elim)))); rintro _ _ ⟨rfl, e₀⟩; have e2₀ := e₀.symm; clear e₀; subst e2₀)
    (repeat' (((conv => whnf); first | (show (_ : Option mg_V) = _ ∧ _; assumption) | (show K _ _ _ _ _; assumption) | (show mm_th _ _ _ _; assumption) | refine And.intro (by first | assumption | omega | (simp only [true_and]; first | done | assumption | omega)) ?_ | (refine And.intro (fun _ => ?_) (fun _ => ?_) <;> first | (exfalso; omega) | skip) | intro _ | fail)))
    all_goals ((conv => whnf); (try rw [g0]); (try rw [g1]); (try rw [s5]); (try rw [s3₀]); (try rw [s4₀]); (try rw [r5₀]); (try rw [g3₀]); (try rw [g4]); (try rw [g5₀]))
    (refine Exists.intro _ (Exists.intro _ (And.intro (c4₀) (And.intro ?_ (fun _ _ h₀ => h₀.elim)))); rintro _ _ ⟨rfl, e₀⟩; have e2₀ := e₀.symm; clear e₀; subst e2₀)
    (repeat' (((conv => whnf); first | (show (_ : Option mg_V) = _ ∧ _; assumption) | (show K _ _ _ _ _; assumption) | (show mm_th _ _ _ _; assumption) | refine And.intro (by first | assumption | omega | (simp only [true_and]; first | done | assumption | omega)) ?_ | (refine And.intro (fun _ => ?_) (fun _ => ?_) <;> first | (exfalso; omega) | skip) | intro _ | fail)))
    all_goals (first | exact ⟨_, by assumption, rfl⟩ | (exfalso; (repeat' split at *) <;> omega))
