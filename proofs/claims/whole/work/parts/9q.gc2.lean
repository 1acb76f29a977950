/-! MergeGrid.moveRow, MergeGrid.sort -/
theorem mh_pm_mv {x₀ y₀ R r₀ : Int} (hx : 0 ≤ x₀ ∧ x₀ < R) (hy : 0 ≤ y₀ ∧ y₀ < R) (hr : 0 ≤ r₀ ∧ r₀ < R) : ((0 ≤ mh_pm x₀ y₀ r₀.toNat ∧ mh_pm x₀ y₀ r₀.toNat < R) ∧ mh_mv x₀ y₀ (mh_pm x₀ y₀ r₀.toNat) = r₀) ∧ ((0 ≤ mh_mv x₀ y₀ r₀ ∧ mh_mv x₀ y₀ r₀ < R) ∧ mh_pm x₀ y₀ (mh_mv x₀ y₀ r₀).toNat = r₀) := by
  unfold mh_pm mh_mv
  refine ⟨⟨?_, ?_⟩, ?_, ?_⟩ <;> ((repeat' split) <;> omega)
theorem mh_eq_ct {M N : mg_M} {t₀ : Nat} (e₀ : mh_eq M N t₀) (tl : mh_tl M t₀) (nb : mh_nb M t₀) {p₀ q₀ : Int} (h₀ : mh_rg (gi M t₀ 0) (gi M t₀ 1) p₀ q₀) (k₀ : Nat) : gi N (mh_co N t₀ p₀ q₀) k₀ = gi M (mh_co M t₀ p₀ q₀) k₀ := by
  obtain ⟨i₀, hi, w₀, eo⟩ := @mh_tl_ow M t₀ p₀ q₀ tl h₀.1 h₀.2 (nb p₀ q₀ h₀.1.1 h₀.1.2 h₀.2.1 h₀.2.2)
  have z₀ := tl.2.1.2.2.2.2.2.2.1
  rw [mh_eq_co e₀, mh_co_at h₀ (tl.2.2.2.1 i₀ hi p₀ q₀ w₀)]
  exact (mh_eq_cells e₀ tl.2.1 (i₀ := i₀) (by omega)).2 k₀
theorem mh_eq_ps {M N : mg_M} {t₀ : Nat} (e₀ : mh_eq M N t₀) (tl : mh_tl M t₀) (nb : mh_nb M t₀) {c₀ a₀ : Int} (hc₀ : 0 ≤ c₀ ∧ c₀ < gi M t₀ 1) (hh : 0 ≤ gi M t₀ 2) : mh_ps N t₀ c₀ a₀ = mh_ps M t₀ c₀ a₀ := by
  have v0₀ := (e₀ t₀ (by omega) (by omega)).2.2.2
  funext i₀
  unfold mh_ps
  rw [v0₀, v0₀]
  by_cases x₀ : gi M t₀ 2 ≤ (i₀ : Int) ∧ (i₀ : Int) < gi M t₀ 0
  · rw [if_pos x₀, if_pos x₀]
    congr 1
    refine mh_sum_cg _ (fun k₀ hk => ?_)
    unfold mh_rb mh_ct
    rw [mh_eq_ct e₀ tl nb (by omega), mh_eq_ct e₀ tl nb (by omega)]
  · rw [if_neg x₀, if_neg x₀]
set_option maxRecDepth 100000 in
theorem cX5_moveRow0 {D : mg_D} {l : Launch} (hl : l.stackTraces = false) {M : mg_M} {g₀ t₀ u₀ : Nat} {x₀ y₀ : Int} (K9 : mh_K M g₀ t₀ u₀) (hx : 0 ≤ x₀ ∧ x₀ < gi M t₀ 0) (hy : 0 ≤ y₀ ∧ y₀ < gi M t₀ 0) (hn : x₀ ≠ y₀) (hh : x₀ < gi M t₀ 2 ↔ y₀ < gi M t₀ 2) (ht : ¬ ∃ i₀ : Nat, (i₀ : Int) < gi M (t₀ + 3) 0 ∧ 1 < gi M (gr M (t₀ + 3 + 1) i₀) 2 ∧ gi M (gr M (t₀ + 3 + 1) i₀) 0 ≤ max x₀ y₀ ∧ min x₀ y₀ ≤ gi M (gr M (t₀ + 3 + 1) i₀) 0 + gi M (gr M (t₀ + 3 + 1) i₀) 2 - 1) : mg_Mt D l 80 [.inr (.inl g₀), .inl x₀, .inl y₀] M (fun v₀ N => v₀ = some (.inl (mh_sum (fun i₀ => if mh_mv x₀ y₀ (i₀ : Int) = i₀ then (0 : Int) else 1) (gi M t₀ 0).toNat)) ∧ ∃ N1 N5 N2, mh_rmb M N1 g₀ t₀ u₀ ∧ mh_fx (t₀ + 127) N1 N5 ∧ mh_nv N5 N2 t₀ (gi N5 t₀ 0) (gi N5 t₀ 1) (gi N5 t₀ 2) (fun p₀ q₀ => mh_at N5 t₀ (mh_mv x₀ y₀ p₀) q₀) (mh_cn N5 t₀ 4) (mh_cn N5 t₀ 5) (fun k₀ => gi N5 (t₀ + 2) k₀.toNat) (fun k₀ => gi N5 (t₀ + 1) (mh_mv x₀ y₀ k₀).toNat) ∧ mh_hs N2 N t₀ (g₀ + 259) 0 0 0 0) mg_no := by
  refine mg_of2 hl ok_X5_moveRow al_X5_moveRow rfl (fun K hK₀ => ?_)
  have F9 := mh_gF_of K9
  have K0 := K9
  obtain ⟨⟨G, w1₀, w3₀, w4₀, w5⟩, _, wpl, ⟨tl, nb⟩, ⟨tbu, clu⟩, rb⟩ := K0
  have RM₀ := @cX5_remember D l hl M g₀ t₀ u₀ G w1₀ (by omega) tl.1 tbu tl.2.1 clu (by omega)
  have bb := tl.1.2.2
  have G0' := G
  have tlM := tl
  have nbM := nb
  have HP := fun r₀ (r0 : 0 ≤ r₀) (r1₀ : r₀ < gi M t₀ 0) => (@mh_pm_mv x₀ y₀ (gi M t₀ 0) r₀ hx hy ⟨r0, r1₀⟩).1
  have HV := fun r₀ (r0 : 0 ≤ r₀) (r1₀ : r₀ < gi M t₀ 0) => (@mh_pm_mv x₀ y₀ (gi M t₀ 0) r₀ hx hy ⟨r0, r1₀⟩).2
  have c1₀ := @cX5_checkRow0 D l hl M g₀ t₀ x₀ G hx
  have c2₀ := @cX5_checkRow0 D l hl M g₀ t₀ y₀ G hy
  have c3₀ := @cX4_isInHeader D l hl M t₀ x₀ G.2.2.1
  have c4₀ := @cX4_isInHeader D l hl M t₀ y₀ G.2.2.1
  have c5₀ := @cX3_tallP D l hl M (t₀ + 3) (min x₀ y₀) (max x₀ y₀) tl.2.1 (mh_tl_sm tl)
  rw [mh_pr0 ht] at c5₀
  obtain ⟨⟨k6₀, g0, g1, g3₀, g4, g5₀⟩, ⟨kt, s5, s3₀, s4₀, kct, ⟨kht, lht⟩, ⟨kwt, lwt⟩⟩, ⟨ku, r5₀, r3, r4, kcu, ⟨khu, lhu⟩, ⟨kwu, lwu⟩⟩, ⟨ka, kb, kk, kg, kbc⟩, pl⟩ := F9
  have g0n : gr M g₀ 0 ≠ 0 := by omega
  have g0k : kd M (gr M g₀ 0) = 5 := by rw [g0]; exact kt
  have g1n : gr M g₀ 1 ≠ 0 := by omega
  have g1k : kd M (gr M g₀ 1) = 5 := by rw [g1]; exact ku
  have g3n : gr M g₀ 3 ≠ 0 := by omega
  have g3k : kd M (gr M g₀ 3) = 1 := by rw [g3₀]; exact ka
  have g4n : gr M g₀ 4 ≠ 0 := by omega
  have g4k : kd M (gr M g₀ 4) = 1 := by rw [g4]; exact kb
  have g5n : gr M g₀ 5 ≠ 0 := by omega
  have g5k : kd M (gr M g₀ 5) = 2 := by rw [g5₀]; exact kk
  have t5₀ : gr M (gr M g₀ 0) 5 = t₀ + 3 := by rw [g0]; exact s5
  have t5n : gr M (gr M g₀ 0) 5 ≠ 0 := by omega
  have t5k : kd M (gr M (gr M g₀ 0) 5) = 4 := by rw [t5₀]; exact kct
  have t3₀ : gr M (gr M g₀ 0) 3 = t₀ + 1 := by rw [g0]; exact s3₀
  have t3n : gr M (gr M g₀ 0) 3 ≠ 0 := by omega
  have t3k : kd M (gr M (gr M g₀ 0) 3) = 8 := by rw [t3₀]; exact kht
  have t3l : ln M (gr M (gr M g₀ 0) 3) = 12 := by rw [t3₀]; exact lht
  have t4₀ : gr M (gr M g₀ 0) 4 = t₀ + 2 := by rw [g0]; exact s4₀
  have t4n : gr M (gr M g₀ 0) 4 ≠ 0 := by omega
  have t4k : kd M (gr M (gr M g₀ 0) 4) = 8 := by rw [t4₀]; exact kwt
  have t4l : ln M (gr M (gr M g₀ 0) 4) = 10 := by rw [t4₀]; exact lwt
  have u5 : gr M (gr M g₀ 1) 5 = u₀ + 3 := by rw [g1]; exact r5₀
  have u5n : gr M (gr M g₀ 1) 5 ≠ 0 := by omega
  have u5k : kd M (gr M (gr M g₀ 1) 5) = 4 := by rw [u5]; exact kcu
  have u3 : gr M (gr M g₀ 1) 3 = u₀ + 1 := by rw [g1]; exact r3
  have u3n : gr M (gr M g₀ 1) 3 ≠ 0 := by omega
  have u3k : kd M (gr M (gr M g₀ 1) 3) = 8 := by rw [u3]; exact khu
  have u3l : ln M (gr M (gr M g₀ 1) 3) = 12 := by rw [u3]; exact lhu
  have u4₀ : gr M (gr M g₀ 1) 4 = u₀ + 2 := by rw [g1]; exact r4
  have u4n : gr M (gr M g₀ 1) 4 ≠ 0 := by omega
  have u4k : kd M (gr M (gr M g₀ 1) 4) = 8 := by rw [u4₀]; exact kwu
  have u4l : ln M (gr M (gr M g₀ 1) 4) = 10 := by rw [u4₀]; exact lwu
  have e0₀ : gi M (gr M g₀ 0) 0 = gi M t₀ 0 := by rw [g0]
  have e1₀ : gi M (gr M g₀ 0) 1 = gi M t₀ 1 := by rw [g0]
  have e2₀ : gi M (gr M g₀ 0) 2 = gi M t₀ 2 := by rw [g0]
  clear G w1₀ w3₀ w4₀ w5 tl nb tbu clu G0'
  refine hK₀ _ _ _ _ _ ?_
  (repeat' (((conv => whnf); first | (show (_ : Option mg_V) = _ ∧ _; assumption) | (show K _ _ _ _ _; assumption) | (show mm_th _ _ _ _; assumption) | refine And.intro (by first | assumption | omega | (simp only [true_and]; first | done | assumption | omega)) ?_ | (refine And.intro (fun _ => ?_) (fun _ => ?_) <;> first | (exfalso; omega) | skip) | intro _ | fail)))
  all_goals (try ((conv => whnf); (refine Exists.intro _ (Exists.intro _ (And.intro (c1₀) (And.intro ?_ (fun _ _ h₀ => h₀.elim)))); rintro _ _ ⟨rfl, e₀⟩; have e2₀ := e₀.symm; clear e₀; subst e2₀); (repeat' (((conv => whnf); first | (show (_ : Option mg_V) = _ ∧ _; assumption) | (show K _ _ _ _ _; assumption) | (show mm_th _ _ _ _; assumption) | refine And.intro (by first | assumption | omega | (simp only [true_and]; first | done | assumption | omega)) ?_ | (refine And.intro (fun _ => ?_) (fun _ => ?_) <;> first | (exfalso; omega) | skip) | intro _ | fail)))))
  all_goals (try ((conv => whnf); (refine Exists.intro _ (Exists.intro _ (And.intro (c2₀) (And.intro ?_ (fun _ _ h₀ => h₀.elim)))); rintro _ _ ⟨rfl, e₀⟩; have e2₀ := e₀.symm; clear e₀; subst e2₀); (repeat' (((conv => whnf); first | (show (_ : Option mg_V) = _ ∧ _; assumption) | (show K _ _ _ _ _; assumption) | (show mm_th _ _ _ _; assumption) | refine And.intro (by first | assumption | omega | (simp only [true_and]; first | done | assumption | omega)) ?_ | (refine And.intro (fun _ => ?_) (fun _ => ?_) <;> first | (exfalso; omega) | skip) | intro _ | fail)))))
  all_goals ((conv => whnf); (try rw [g0]); (try rw [g1]); (try rw [s5]); (try rw [s3₀]); (try rw [s4₀]); (try rw [r5₀]); (try rw [g3₀]); (try rw [g4]); (try rw [g5₀]))
  (refine Exists.intro _ (Exists.intro _ (And.intro (c3₀) (And.intro ?_ (fun _ _ h₀ => h₀.elim)))); rintro _ _ ⟨rfl, e₀⟩; have e2₀ := e₀.symm; clear e₀; subst e2₀)
  (repeat' (((conv => whnf); first | (show (_ : Option mg_V) = _ ∧ _; assumption) | (show K _ _ _ _ _; assumption) | (show mm_th _ _ _ _; assumption) | refine And.intro (by first | assumption | omega | (simp only [true_and]; first | done | assumption | omega)) ?_ | (refine And.intro (fun _ => ?_) (fun _ => ?_) <;> first | (exfalso; omega) | skip) | intro _ | fail)))
  all_goals ((conv => whnf); (try rw [g0]); (try rw [g1]); (try rw [s5]); (try rw [s3₀]); (try rw [s4₀]); (try rw [r5₀]); (try rw [g3₀]); (try rw [g4]); (try rw [g5₀]))
  (refine Exists.intro _ (Exists.intro _ (And.intro (c4₀) (And.intro ?_ (fun _ _ h₀ => h₀.elim)))); rintro _ _ ⟨rfl, e₀⟩; have e2₀ := e₀.symm; clear e₀; subst e2₀)
  (repeat' (((conv => whnf); first | (show (_ : Option mg_V) = _ ∧ _; assumption) | (show K _ _ _ _ _; assumption) | (show mm_th _ _ _ _; assumption) | refine And.intro (by first | assumption | omega | (simp only [true_and]; first | done | assumption | omega)) ?_ | (refine And.intro (fun _ => ?_) (fun _ => ?_) <;> first | (exfalso; omega) | skip) | intro _ | fail)))
  all_goals (first | (exfalso; (repeat' split at *) <;> omega) | skip)
  all_goals ((conv => whnf); (try rw [g0]); (try rw [g1]); (try rw [s5]); (try rw [s3₀]); (try rw [s4₀]); (try rw [r5₀]); (try rw [g3₀]); (try rw [g4]); (try rw [g5₀]))
  (refine Exists.intro _ (Exists.intro _ (And.intro (c5₀) (And.intro ?_ (fun _ _ h₀ => h₀.elim)))); rintro _ _ ⟨rfl, e₀⟩; have e2₀ := e₀.symm; clear e₀; subst e2₀)
  (repeat' (((conv => whnf); first | (show (_ : Option mg_V) = _ ∧ _; assumption) | (show K _ _ _ _ _; assumption) | (show mm_th _ _ _ _; assumption) | refine And.intro (by first | assumption | omega | (simp only [true_and]; first | done | assumption | omega)) ?_ | (refine And.intro (fun _ => ?_) (fun _ => ?_) <;> first | (exfalso; omega) | skip) | intro _ | fail)))
  all_goals ((conv => whnf); skip)
  refine Exists.intro _ (Exists.intro _ (And.intro (RM₀) (And.intro ?_ (fun _ _ h₀ => h₀.elim))))
  rintro _ N1 ⟨rfl, Rr⟩
  obtain ⟨K1, E1₀, FR, h21⟩ := mh_rmb_K K9 Rr
  clear RM₀
  obtain ⟨tl1, nb1⟩ := K1.2.2.2.1
  have v1₀ := (E1₀ t₀ (by omega) (by omega)).2.2.2
  have v10 := v1₀ 0
  have v11 := v1₀ 1
  have v12 := v1₀ 2
  have OP := @cX4_planMove D l hl N1 t₀ x₀ y₀ tl1.1
  have F1₀ := mh_gF_of K1
  clear u4l u4k u4n u4₀ u3l u3k u3n u3 u5k u5n u5 t4l t4k t4n t4₀ t3l t3k t3n t3₀ t5k t5n t5₀ g5k g5n g4k g4n g3k g3n g1k g1n g0k g0n pl kbc kg kk kb ka lwu kwu lhu khu kcu r4 r3 r5₀ ku lwt kwt lht kht kct s4₀ s3₀ s5 kt g5₀ g4 g3₀ g1 g0 k6₀
  have F1' := F1₀
  obtain ⟨⟨k61_, g01_, g11_, g31_, g41_, g51_⟩, ⟨kt1_, s51_, s31_, s41_, kct1_, ⟨kht1_, lht1_⟩, ⟨kwt1_, lwt1_⟩⟩, ⟨ku1_, r51_, r31_, r41_, kcu1_, ⟨khu1_, lhu1_⟩, ⟨kwu1_, lwu1_⟩⟩, ⟨ka1_, kb1_, kk1_, kg1_, kbc1_⟩, pl1_⟩ := F1₀
  have g0n1_ : gr N1 g₀ 0 ≠ 0 := by omega
  have g0k1_ : kd N1 (gr N1 g₀ 0) = 5 := by rw [g01_]; exact kt1_
  have g1n1_ : gr N1 g₀ 1 ≠ 0 := by omega
  have g1k1_ : kd N1 (gr N1 g₀ 1) = 5 := by rw [g11_]; exact ku1_
  have g3n1_ : gr N1 g₀ 3 ≠ 0 := by omega
  have g3k1_ : kd N1 (gr N1 g₀ 3) = 1 := by rw [g31_]; exact ka1_
  have g4n1_ : gr N1 g₀ 4 ≠ 0 := by omega
  have g4k1_ : kd N1 (gr N1 g₀ 4) = 1 := by rw [g41_]; exact kb1_
  have g5n1_ : gr N1 g₀ 5 ≠ 0 := by omega
  have g5k1_ : kd N1 (gr N1 g₀ 5) = 2 := by rw [g51_]; exact kk1_
  have t51_ : gr N1 (gr N1 g₀ 0) 5 = t₀ + 3 := by rw [g01_]; exact s51_
  have t5n1_ : gr N1 (gr N1 g₀ 0) 5 ≠ 0 := by omega
  have t5k1_ : kd N1 (gr N1 (gr N1 g₀ 0) 5) = 4 := by rw [t51_]; exact kct1_
  have t31_ : gr N1 (gr N1 g₀ 0) 3 = t₀ + 1 := by rw [g01_]; exact s31_
  have t3n1_ : gr N1 (gr N1 g₀ 0) 3 ≠ 0 := by omega
  have t3k1_ : kd N1 (gr N1 (gr N1 g₀ 0) 3) = 8 := by rw [t31_]; exact kht1_
  have t3l1_ : ln N1 (gr N1 (gr N1 g₀ 0) 3) = 12 := by rw [t31_]; exact lht1_
  have t41_ : gr N1 (gr N1 g₀ 0) 4 = t₀ + 2 := by rw [g01_]; exact s41_
  have t4n1_ : gr N1 (gr N1 g₀ 0) 4 ≠ 0 := by omega
  have t4k1_ : kd N1 (gr N1 (gr N1 g₀ 0) 4) = 8 := by rw [t41_]; exact kwt1_
  have t4l1_ : ln N1 (gr N1 (gr N1 g₀ 0) 4) = 10 := by rw [t41_]; exact lwt1_
  have u51_ : gr N1 (gr N1 g₀ 1) 5 = u₀ + 3 := by rw [g11_]; exact r51_
  have u5n1_ : gr N1 (gr N1 g₀ 1) 5 ≠ 0 := by omega
  have u5k1_ : kd N1 (gr N1 (gr N1 g₀ 1) 5) = 4 := by rw [u51_]; exact kcu1_
  have u31_ : gr N1 (gr N1 g₀ 1) 3 = u₀ + 1 := by rw [g11_]; exact r31_
  have u3n1_ : gr N1 (gr N1 g₀ 1) 3 ≠ 0 := by omega
  have u3k1_ : kd N1 (gr N1 (gr N1 g₀ 1) 3) = 8 := by rw [u31_]; exact khu1_
  have u3l1_ : ln N1 (gr N1 (gr N1 g₀ 1) 3) = 12 := by rw [u31_]; exact lhu1_
  have u41_ : gr N1 (gr N1 g₀ 1) 4 = u₀ + 2 := by rw [g11_]; exact r41_
  have u4n1_ : gr N1 (gr N1 g₀ 1) 4 ≠ 0 := by omega
  have u4k1_ : kd N1 (gr N1 (gr N1 g₀ 1) 4) = 8 := by rw [u41_]; exact kwu1_
  have u4l1_ : ln N1 (gr N1 (gr N1 g₀ 1) 4) = 10 := by rw [u41_]; exact lwu1_
  (repeat' (((conv => whnf); first | (show (_ : Option mg_V) = _ ∧ _; assumption) | (show K _ _ _ _ _; assumption) | (show mm_th _ _ _ _; assumption) | refine And.intro (by first | assumption | omega | (simp only [true_and]; first | done | assumption | omega)) ?_ | (refine And.intro (fun _ => ?_) (fun _ => ?_) <;> first | (exfalso; omega) | skip) | intro _ | fail)))
  all_goals ((conv => whnf); (try rw [g01_]); (try rw [g11_]); (try rw [s51_]); (try rw [s31_]); (try rw [s41_]); (try rw [r51_]); (try rw [g31_]); (try rw [g41_]); (try rw [g51_]))
  refine Exists.intro _ (Exists.intro _ (And.intro (OP) (And.intro ?_ (fun _ _ h₀ => h₀.elim))))
  rintro _ N5 ⟨rfl, fx5, pv5⟩
  clear OP
  clear u4l1_ u4k1_ u4n1_ u41_ u3l1_ u3k1_ u3n1_ u31_ u5k1_ u5n1_ u51_ t4l1_ t4k1_ t4n1_ t41_ t3l1_ t3k1_ t3n1_ t31_ t5k1_ t5n1_ t51_ g5k1_ g5n1_ g4k1_ g4n1_ g3k1_ g3n1_ g1k1_ g1n1_ g0k1_ g0n1_ pl1_ kbc1_ kg1_ kk1_ kb1_ ka1_ lwu1_ kwu1_ lhu1_ khu1_ kcu1_ r41_ r31_ r51_ ku1_ lwt1_ kwt1_ lht1_ kht1_ kct1_ s41_ s31_ s51_ kt1_ g51_ g41_ g31_ g11_ g01_ k61_
  obtain ⟨tl5, at5₀, co5, z50₀, z51, z53₀⟩ := mh_fx_tl7 fx5 tl1
  have nb5 : mh_nb N5 t₀ := fun p₀ q₀ h1 h2 h3 h4 => by rw [at5₀]; exact nb1 p₀ q₀ h1 (by omega) h3 (by omega)
  have bb1 := tl1.1.2.2
  have pl5 : ∀ r₀, 0 ≤ r₀ → r₀ < gi N5 t₀ 0 → mh_pl N5 t₀ r₀ = mh_pm x₀ y₀ r₀.toNat := by
    intro r₀ r0 r1₀
    unfold mh_pl
    rw [if_pos ⟨r0, r1₀⟩, pv5 _ (by omega)]

  have cells5 : ∀ i₀ : Nat, (i₀ : Int) < gi N5 (t₀ + 3) 0 → ∀ k₀, gi N5 (gr N5 (t₀ + 3 + 1) i₀) k₀ = gi M (gr M (t₀ + 3 + 1) i₀) k₀ := by
    intro i₀ hi k₀
    have z₀ := tlM.2.1.2.2.2.2.2.2.1
    have v3 := (E1₀ (t₀ + 3) (by omega) (by omega)).2.2.2 0
    have c9₀ := tlM.2.1.2.2.2.2.2.2.2.1 i₀ (by omega)
    obtain ⟨c1₀, c2₀⟩ := mh_eq_cells E1₀ tlM.2.1 (i₀ := i₀) (by omega)
    rw [fx5.2.2.1, c1₀, fx5.2.2.2.2.2.2 _ k₀ (by omega), c2₀]
  have z5M : gi N5 t₀ 0 = gi M t₀ 0 := by omega
  have RN₀ := @cX4_renumberRows7 D l hl N5 t₀ (mh_mv x₀ y₀) tl5 nb5 (fun r₀ r0 r1₀ => by rw [pl5 r₀ r0 r1₀, z5M]; exact HP r₀ r0 (by omega)) (fun r₀ r0 r1₀ => by rw [pl5 _ (HV r₀ r0 (by omega)).1.1 (by have := (HV r₀ r0 (by omega)).1.2; omega), z5M]; exact HV r₀ r0 (by omega)) (fun i₀ hi h1 r₀ r0 r1₀ => by
    rw [cells5 i₀ hi] at h1 r0 r1₀
    rw [cells5 i₀ hi] at r1₀
    have o := tlM.2.2.1 i₀ (by have v3 := (E1₀ (t₀ + 3) (by omega) (by omega)).2.2.2 0; omega)
    unfold mh_ok at o
    rw [pl5 r₀ (by omega) (by omega)]
    refine Classical.byContradiction (fun w₀ => ht ⟨i₀, by have v3 := (E1₀ (t₀ + 3) (by omega) (by omega)).2.2.2 0; omega, h1, ?_, ?_⟩)
    · refine Classical.byContradiction (fun w2₀ => w₀ ?_)
      unfold mh_pm
      (repeat' split) <;> omega
    · refine Classical.byContradiction (fun w2₀ => w₀ ?_)
      unfold mh_pm
      (repeat' split) <;> omega)
  rw [show gi N5 t₀ 0 = gi M t₀ 0 by omega] at pl5
  have F5 := mh_gF_fr F1' fx5.1 fx5.2.1 (fun a₀ k₀ => Or.inr (fx5.2.2.1 a₀ k₀))
  have F5' := F5
  obtain ⟨⟨k65_, g05_, g15_, g35_, g45_, g55_⟩, ⟨kt5_, s55_, s35_, s45_, kct5_, ⟨kht5_, lht5_⟩, ⟨kwt5_, lwt5_⟩⟩, ⟨ku5_, r55_, r35_, r45_, kcu5_, ⟨khu5_, lhu5_⟩, ⟨kwu5_, lwu5_⟩⟩, ⟨ka5_, kb5_, kk5_, kg5_, kbc5_⟩, pl5_⟩ := F5
  have g0n5_ : gr N5 g₀ 0 ≠ 0 := by omega
  have g0k5_ : kd N5 (gr N5 g₀ 0) = 5 := by rw [g05_]; exact kt5_
  have g1n5_ : gr N5 g₀ 1 ≠ 0 := by omega
  have g1k5_ : kd N5 (gr N5 g₀ 1) = 5 := by rw [g15_]; exact ku5_
  have g3n5_ : gr N5 g₀ 3 ≠ 0 := by omega
  have g3k5_ : kd N5 (gr N5 g₀ 3) = 1 := by rw [g35_]; exact ka5_
  have g4n5_ : gr N5 g₀ 4 ≠ 0 := by omega
  have g4k5_ : kd N5 (gr N5 g₀ 4) = 1 := by rw [g45_]; exact kb5_
  have g5n5_ : gr N5 g₀ 5 ≠ 0 := by omega
  have g5k5_ : kd N5 (gr N5 g₀ 5) = 2 := by rw [g55_]; exact kk5_
  have t55_ : gr N5 (gr N5 g₀ 0) 5 = t₀ + 3 := by rw [g05_]; exact s55_
  have t5n5_ : gr N5 (gr N5 g₀ 0) 5 ≠ 0 := by omega
  have t5k5_ : kd N5 (gr N5 (gr N5 g₀ 0) 5) = 4 := by rw [t55_]; exact kct5_
  have t35_ : gr N5 (gr N5 g₀ 0) 3 = t₀ + 1 := by rw [g05_]; exact s35_
  have t3n5_ : gr N5 (gr N5 g₀ 0) 3 ≠ 0 := by omega
  have t3k5_ : kd N5 (gr N5 (gr N5 g₀ 0) 3) = 8 := by rw [t35_]; exact kht5_
  have t3l5_ : ln N5 (gr N5 (gr N5 g₀ 0) 3) = 12 := by rw [t35_]; exact lht5_
  have t45_ : gr N5 (gr N5 g₀ 0) 4 = t₀ + 2 := by rw [g05_]; exact s45_
  have t4n5_ : gr N5 (gr N5 g₀ 0) 4 ≠ 0 := by omega
  have t4k5_ : kd N5 (gr N5 (gr N5 g₀ 0) 4) = 8 := by rw [t45_]; exact kwt5_
  have t4l5_ : ln N5 (gr N5 (gr N5 g₀ 0) 4) = 10 := by rw [t45_]; exact lwt5_
  have u55_ : gr N5 (gr N5 g₀ 1) 5 = u₀ + 3 := by rw [g15_]; exact r55_
  have u5n5_ : gr N5 (gr N5 g₀ 1) 5 ≠ 0 := by omega
  have u5k5_ : kd N5 (gr N5 (gr N5 g₀ 1) 5) = 4 := by rw [u55_]; exact kcu5_
  have u35_ : gr N5 (gr N5 g₀ 1) 3 = u₀ + 1 := by rw [g15_]; exact r35_
  have u3n5_ : gr N5 (gr N5 g₀ 1) 3 ≠ 0 := by omega
  have u3k5_ : kd N5 (gr N5 (gr N5 g₀ 1) 3) = 8 := by rw [u35_]; exact khu5_
  have u3l5_ : ln N5 (gr N5 (gr N5 g₀ 1) 3) = 12 := by rw [u35_]; exact lhu5_
  have u45_ : gr N5 (gr N5 g₀ 1) 4 = u₀ + 2 := by rw [g15_]; exact r45_
  have u4n5_ : gr N5 (gr N5 g₀ 1) 4 ≠ 0 := by omega
  have u4k5_ : kd N5 (gr N5 (gr N5 g₀ 1) 4) = 8 := by rw [u45_]; exact kwu5_
  have u4l5_ : ln N5 (gr N5 (gr N5 g₀ 1) 4) = 10 := by rw [u45_]; exact lwu5_
  clear F1'
  (repeat' (((conv => whnf); first | (show (_ : Option mg_V) = _ ∧ _; assumption) | (show K _ _ _ _ _; assumption) | (show mm_th _ _ _ _; assumption) | refine And.intro (by first | assumption | omega | (simp only [true_and]; first | done | assumption | omega)) ?_ | (refine And.intro (fun _ => ?_) (fun _ => ?_) <;> first | (exfalso; omega) | skip) | intro _ | fail)))
  all_goals ((conv => whnf); (try rw [g05_]); (try rw [g15_]); (try rw [s55_]); (try rw [s35_]); (try rw [s45_]); (try rw [r55_]); (try rw [g35_]); (try rw [g45_]); (try rw [g55_]))
  refine Exists.intro _ (Exists.intro _ (And.intro (RN₀) (And.intro ?_ (fun _ _ h₀ => h₀.elim))))
  rintro _ N2 ⟨rfl, q0, q7₀⟩
  clear RN₀
  have q₀ := mh_nv_of q0
  clear u4l5_ u4k5_ u4n5_ u45_ u3l5_ u3k5_ u3n5_ u35_ u5k5_ u5n5_ u55_ t4l5_ t4k5_ t4n5_ t45_ t3l5_ t3k5_ t3n5_ t35_ t5k5_ t5n5_ t55_ g5k5_ g5n5_ g4k5_ g4n5_ g3k5_ g3n5_ g1k5_ g1n5_ g0k5_ g0n5_ pl5_ kbc5_ kg5_ kk5_ kb5_ ka5_ lwu5_ kwu5_ lhu5_ khu5_ kcu5_ r45_ r35_ r55_ ku5_ lwt5_ kwt5_ lht5_ kht5_ kct5_ s45_ s35_ s55_ kt5_ g55_ g45_ g35_ g15_ g05_ k65_
  have F2 := mh_gF_fr F5' q₀.1.1 q₀.1.2.1 q₀.1.2.2.1
  have SF := @cX5_selectFirst D l hl N2 g₀ t₀ (g₀ + 259) (mh_gF_G0 F2) F2.1.2.2.2.1 (by omega) F2.2.2.2.1.1 q₀.2.1.1 (by have := q₀.2.2.1; omega)
  have F2' := F2
  obtain ⟨⟨k62_, g02_, g12_, g32_, g42_, g52_⟩, ⟨kt2_, s52_, s32_, s42_, kct2_, ⟨kht2_, lht2_⟩, ⟨kwt2_, lwt2_⟩⟩, ⟨ku2_, r52_, r32_, r42_, kcu2_, ⟨khu2_, lhu2_⟩, ⟨kwu2_, lwu2_⟩⟩, ⟨ka2_, kb2_, kk2_, kg2_, kbc2_⟩, pl2_⟩ := F2
  have g0n2_ : gr N2 g₀ 0 ≠ 0 := by omega
  have g0k2_ : kd N2 (gr N2 g₀ 0) = 5 := by rw [g02_]; exact kt2_
  have g1n2_ : gr N2 g₀ 1 ≠ 0 := by omega
  have g1k2_ : kd N2 (gr N2 g₀ 1) = 5 := by rw [g12_]; exact ku2_
  have g3n2_ : gr N2 g₀ 3 ≠ 0 := by omega
  have g3k2_ : kd N2 (gr N2 g₀ 3) = 1 := by rw [g32_]; exact ka2_
  have g4n2_ : gr N2 g₀ 4 ≠ 0 := by omega
  have g4k2_ : kd N2 (gr N2 g₀ 4) = 1 := by rw [g42_]; exact kb2_
  have g5n2_ : gr N2 g₀ 5 ≠ 0 := by omega
  have g5k2_ : kd N2 (gr N2 g₀ 5) = 2 := by rw [g52_]; exact kk2_
  have t52_ : gr N2 (gr N2 g₀ 0) 5 = t₀ + 3 := by rw [g02_]; exact s52_
  have t5n2_ : gr N2 (gr N2 g₀ 0) 5 ≠ 0 := by omega
  have t5k2_ : kd N2 (gr N2 (gr N2 g₀ 0) 5) = 4 := by rw [t52_]; exact kct2_
  have t32_ : gr N2 (gr N2 g₀ 0) 3 = t₀ + 1 := by rw [g02_]; exact s32_
  have t3n2_ : gr N2 (gr N2 g₀ 0) 3 ≠ 0 := by omega
  have t3k2_ : kd N2 (gr N2 (gr N2 g₀ 0) 3) = 8 := by rw [t32_]; exact kht2_
  have t3l2_ : ln N2 (gr N2 (gr N2 g₀ 0) 3) = 12 := by rw [t32_]; exact lht2_
  have t42_ : gr N2 (gr N2 g₀ 0) 4 = t₀ + 2 := by rw [g02_]; exact s42_
  have t4n2_ : gr N2 (gr N2 g₀ 0) 4 ≠ 0 := by omega
  have t4k2_ : kd N2 (gr N2 (gr N2 g₀ 0) 4) = 8 := by rw [t42_]; exact kwt2_
  have t4l2_ : ln N2 (gr N2 (gr N2 g₀ 0) 4) = 10 := by rw [t42_]; exact lwt2_
  have u52_ : gr N2 (gr N2 g₀ 1) 5 = u₀ + 3 := by rw [g12_]; exact r52_
  have u5n2_ : gr N2 (gr N2 g₀ 1) 5 ≠ 0 := by omega
  have u5k2_ : kd N2 (gr N2 (gr N2 g₀ 1) 5) = 4 := by rw [u52_]; exact kcu2_
  have u32_ : gr N2 (gr N2 g₀ 1) 3 = u₀ + 1 := by rw [g12_]; exact r32_
  have u3n2_ : gr N2 (gr N2 g₀ 1) 3 ≠ 0 := by omega
  have u3k2_ : kd N2 (gr N2 (gr N2 g₀ 1) 3) = 8 := by rw [u32_]; exact khu2_
  have u3l2_ : ln N2 (gr N2 (gr N2 g₀ 1) 3) = 12 := by rw [u32_]; exact lhu2_
  have u42_ : gr N2 (gr N2 g₀ 1) 4 = u₀ + 2 := by rw [g12_]; exact r42_
  have u4n2_ : gr N2 (gr N2 g₀ 1) 4 ≠ 0 := by omega
  have u4k2_ : kd N2 (gr N2 (gr N2 g₀ 1) 4) = 8 := by rw [u42_]; exact kwu2_
  have u4l2_ : ln N2 (gr N2 (gr N2 g₀ 1) 4) = 10 := by rw [u42_]; exact lwu2_
  clear F5'
  (repeat' (((conv => whnf); first | (show (_ : Option mg_V) = _ ∧ _; assumption) | (show K _ _ _ _ _; assumption) | (show mm_th _ _ _ _; assumption) | refine And.intro (by first | assumption | omega | (simp only [true_and]; first | done | assumption | omega)) ?_ | (refine And.intro (fun _ => ?_) (fun _ => ?_) <;> first | (exfalso; omega) | skip) | intro _ | fail)))
  all_goals ((conv => whnf); skip)
  refine Exists.intro _ (Exists.intro _ (And.intro (SF) (And.intro ?_ (fun _ _ h₀ => h₀.elim))))
  rintro _ N ⟨rfl, q2₀⟩
  clear SF
  clear u4l2_ u4k2_ u4n2_ u42_ u3l2_ u3k2_ u3n2_ u32_ u5k2_ u5n2_ u52_ t4l2_ t4k2_ t4n2_ t42_ t3l2_ t3k2_ t3n2_ t32_ t5k2_ t5n2_ t52_ g5k2_ g5n2_ g4k2_ g4n2_ g3k2_ g3n2_ g1k2_ g1n2_ g0k2_ g0n2_ pl2_ kbc2_ kg2_ kk2_ kb2_ ka2_ lwu2_ kwu2_ lhu2_ khu2_ kcu2_ r42_ r32_ r52_ ku2_ lwt2_ kwt2_ lht2_ kht2_ kct2_ s42_ s32_ s52_ kt2_ g52_ g42_ g32_ g12_ g02_ k62_
  have F3 := mh_gF_fr F2' q2₀.1.1 q2₀.1.2.1 (fun a₀ k₀ => Or.inr (q2₀.1.2.2.1 a₀ k₀))
  have tbN₀ : mg_tb N t₀ := mh_fx_tb q2₀.1 (by omega) q₀.2.1.1.1
  have MV₀ := @cX4_movedRows D l hl N t₀ tbN₀
  have szN₀ : gi N t₀ 0 = gi M t₀ 0 := by
    have z1 := q2₀.1.2.2.2.2.2.2 t₀ 0 (by omega)
    have z2 := q₀.2.2.1.1
    omega
  have em : mh_sum (fun i₀ => if mh_pl N t₀ i₀ = i₀ then (0 : Int) else 1) (gi N t₀ 0).toNat = mh_sum (fun i₀ => if mh_mv x₀ y₀ (i₀ : Int) = i₀ then (0 : Int) else 1) (gi M t₀ 0).toNat := by
    rw [szN₀]
    refine mh_sum_cg _ (fun i₀ hi => ?_)
    have e1₀ : mh_pl N t₀ i₀ = mh_pl N5 t₀ i₀ := by
      unfold mh_pl
      rw [szN₀, z50₀, v10, q2₀.1.2.2.2.2.2.2 (t₀ + 127) _ (by omega), q7₀]
    rw [e1₀, pl5 i₀ (by omega) (by omega)]
    have h1 := HP i₀ (by omega) (by omega)
    have h2 := HV i₀ (by omega) (by omega)
    by_cases y₀ : mh_mv x₀ y₀ (i₀ : Int) = i₀
    · rw [if_pos y₀]
      have h3 := h2.2
      rw [y₀] at h3
      rw [if_pos h3]
    · rw [if_neg y₀, if_neg]
      intro w₀
      have h3 := h1.2
      rw [w₀] at h3
      exact y₀ h3
  rw [em] at MV₀
  have Q₀ : some (Sum.inl (mh_sum (fun i₀ => if mh_mv x₀ y₀ (i₀ : Int) = i₀ then (0 : Int) else 1) (gi M t₀ 0).toNat) : mg_V) = some (.inl (mh_sum (fun i₀ => if mh_mv x₀ y₀ (i₀ : Int) = i₀ then (0 : Int) else 1) (gi M t₀ 0).toNat)) ∧ ∃ N1 N5 N2, mh_rmb M N1 g₀ t₀ u₀ ∧ mh_fx (t₀ + 127) N1 N5 ∧ mh_nv N5 N2 t₀ (gi N5 t₀ 0) (gi N5 t₀ 1) (gi N5 t₀ 2) (fun p₀ q₀ => mh_at N5 t₀ (mh_mv x₀ y₀ p₀) q₀) (mh_cn N5 t₀ 4) (mh_cn N5 t₀ 5) (fun k₀ => gi N5 (t₀ + 2) k₀.toNat) (fun k₀ => gi N5 (t₀ + 1) (mh_mv x₀ y₀ k₀).toNat) ∧ mh_hs N2 N t₀ (g₀ + 259) 0 0 0 0 := ⟨rfl, N1, N5, N2, Rr, fx5, q₀, q2₀⟩
  obtain ⟨⟨k63_, g03_, g13_, g33_, g43_, g53_⟩, ⟨kt3_, s53_, s33_, s43_, kct3_, ⟨kht3_, lht3_⟩, ⟨kwt3_, lwt3_⟩⟩, ⟨ku3_, r53_, r33_, r43_, kcu3_, ⟨khu3_, lhu3_⟩, ⟨kwu3_, lwu3_⟩⟩, ⟨ka3_, kb3_, kk3_, kg3_, kbc3_⟩, pl3_⟩ := F3
  have g0n3_ : gr N g₀ 0 ≠ 0 := by omega
  have g0k3_ : kd N (gr N g₀ 0) = 5 := by rw [g03_]; exact kt3_
  have g1n3_ : gr N g₀ 1 ≠ 0 := by omega
  have g1k3_ : kd N (gr N g₀ 1) = 5 := by rw [g13_]; exact ku3_
  have g3n3_ : gr N g₀ 3 ≠ 0 := by omega
  have g3k3_ : kd N (gr N g₀ 3) = 1 := by rw [g33_]; exact ka3_
  have g4n3_ : gr N g₀ 4 ≠ 0 := by omega
  have g4k3_ : kd N (gr N g₀ 4) = 1 := by rw [g43_]; exact kb3_
  have g5n3_ : gr N g₀ 5 ≠ 0 := by omega
  have g5k3_ : kd N (gr N g₀ 5) = 2 := by rw [g53_]; exact kk3_
  have t53_ : gr N (gr N g₀ 0) 5 = t₀ + 3 := by rw [g03_]; exact s53_
  have t5n3_ : gr N (gr N g₀ 0) 5 ≠ 0 := by omega
  have t5k3_ : kd N (gr N (gr N g₀ 0) 5) = 4 := by rw [t53_]; exact kct3_
  have t33_ : gr N (gr N g₀ 0) 3 = t₀ + 1 := by rw [g03_]; exact s33_
  have t3n3_ : gr N (gr N g₀ 0) 3 ≠ 0 := by omega
  have t3k3_ : kd N (gr N (gr N g₀ 0) 3) = 8 := by rw [t33_]; exact kht3_
  have t3l3_ : ln N (gr N (gr N g₀ 0) 3) = 12 := by rw [t33_]; exact lht3_
  have t43_ : gr N (gr N g₀ 0) 4 = t₀ + 2 := by rw [g03_]; exact s43_
  have t4n3_ : gr N (gr N g₀ 0) 4 ≠ 0 := by omega
  have t4k3_ : kd N (gr N (gr N g₀ 0) 4) = 8 := by rw [t43_]; exact kwt3_
  have t4l3_ : ln N (gr N (gr N g₀ 0) 4) = 10 := by rw [t43_]; exact lwt3_
  have u53_ : gr N (gr N g₀ 1) 5 = u₀ + 3 := by rw [g13_]; exact r53_
  have u5n3_ : gr N (gr N g₀ 1) 5 ≠ 0 := by omega
  have u5k3_ : kd N (gr N (gr N g₀ 1) 5) = 4 := by rw [u53_]; exact kcu3_
  have u33_ : gr N (gr N g₀ 1) 3 = u₀ + 1 := by rw [g13_]; exact r33_
  have u3n3_ : gr N (gr N g₀ 1) 3 ≠ 0 := by omega
  have u3k3_ : kd N (gr N (gr N g₀ 1) 3) = 8 := by rw [u33_]; exact khu3_
  have u3l3_ : ln N (gr N (gr N g₀ 1) 3) = 12 := by rw [u33_]; exact lhu3_
  have u43_ : gr N (gr N g₀ 1) 4 = u₀ + 2 := by rw [g13_]; exact r43_
  have u4n3_ : gr N (gr N g₀ 1) 4 ≠ 0 := by omega
  have u4k3_ : kd N (gr N (gr N g₀ 1) 4) = 8 := by rw [u43_]; exact kwu3_
  have u4l3_ : ln N (gr N (gr N g₀ 1) 4) = 10 := by rw [u43_]; exact lwu3_
  clear F2' q₀ q2₀ Rr K1 E1₀ FR K9 HP HV pl5 cells5 q0 q7₀ fx5 pv5 tl5 nb5 at5₀ co5 em tlM nbM tl1 nb1 tbN₀
  generalize mh_sum (fun i₀ => if mh_mv x₀ y₀ (i₀ : Int) = i₀ then (0 : Int) else 1) (gi M t₀ 0).toNat = zz at *
  (repeat' (((conv => whnf); first | (show (_ : Option mg_V) = _ ∧ _; assumption) | (show K _ _ _ _ _; assumption) | (show mm_th _ _ _ _; assumption) | refine And.intro (by first | assumption | omega | (simp only [true_and]; first | done | assumption | omega)) ?_ | (refine And.intro (fun _ => ?_) (fun _ => ?_) <;> first | (exfalso; omega) | skip) | intro _ | fail)))
  all_goals ((conv => whnf); (try rw [g03_]); (try rw [g13_]); (try rw [s53_]); (try rw [s33_]); (try rw [s43_]); (try rw [r53_]); (try rw [g33_]); (try rw [g43_]); (try rw [g53_]))
  (refine Exists.intro _ (Exists.intro _ (And.intro (MV₀) (And.intro ?_ (fun _ _ h₀ => h₀.elim)))); rintro _ _ ⟨rfl, e₀⟩; have e2₀ := e₀.symm; clear e₀; subst e2₀)
  (repeat' (((conv => whnf); first | (show (_ : Option mg_V) = _ ∧ _; assumption) | (show K _ _ _ _ _; assumption) | (show mm_th _ _ _ _; assumption) | refine And.intro (by first | assumption | omega | (simp only [true_and]; first | done | assumption | omega)) ?_ | (refine And.intro (fun _ => ?_) (fun _ => ?_) <;> first | (exfalso; omega) | skip) | intro _ | fail)))
set_option maxRecDepth 100000 in
theorem cX5_sort0 {D : mg_D} {l : Launch} (hl : l.stackTraces = false) {M : mg_M} {g₀ t₀ u₀ : Nat} {x₀ y₀ : Int} {iv₀ : Int → Int} (K9 : mh_K M g₀ t₀ u₀) (hx : 0 ≤ x₀ ∧ x₀ < gi M t₀ 1) (ht : ¬ ∃ i₀ : Nat, (i₀ : Int) < gi M (t₀ + 3) 0 ∧ 1 < gi M (gr M (t₀ + 3 + 1) i₀) 2 ∧ gi M (gr M (t₀ + 3 + 1) i₀) 0 ≤ gi M t₀ 0 - 1 ∧ gi M t₀ 2 ≤ gi M (gr M (t₀ + 3 + 1) i₀) 0 + gi M (gr M (t₀ + 3 + 1) i₀) 2 - 1) (HP : ∀ r₀, 0 ≤ r₀ → r₀ < gi M t₀ 0 → (0 ≤ mh_ps M t₀ x₀ y₀ r₀.toNat ∧ mh_ps M t₀ x₀ y₀ r₀.toNat < gi M t₀ 0) ∧ iv₀ (mh_ps M t₀ x₀ y₀ r₀.toNat) = r₀) (HV : ∀ r₀, 0 ≤ r₀ → r₀ < gi M t₀ 0 → (0 ≤ iv₀ r₀ ∧ iv₀ r₀ < gi M t₀ 0) ∧ mh_ps M t₀ x₀ y₀ (iv₀ r₀).toNat = r₀) : mg_Mt D l 100 [.inr (.inl g₀), .inl x₀, .inl y₀] M (fun v₀ N => v₀ = some (.inl (mh_sum (fun i₀ => if iv₀ (i₀ : Int) = i₀ then (0 : Int) else 1) (gi M t₀ 0).toNat)) ∧ ∃ N1 N5 N2, mh_rmb M N1 g₀ t₀ u₀ ∧ mh_fx (t₀ + 127) N1 N5 ∧ mh_nv N5 N2 t₀ (gi N5 t₀ 0) (gi N5 t₀ 1) (gi N5 t₀ 2) (fun p₀ q₀ => mh_at N5 t₀ (iv₀ p₀) q₀) (mh_cn N5 t₀ 4) (mh_cn N5 t₀ 5) (fun k₀ => gi N5 (t₀ + 2) k₀.toNat) (fun k₀ => gi N5 (t₀ + 1) (iv₀ k₀).toNat) ∧ mh_hs N2 N t₀ (g₀ + 259) 0 0 0 0) mg_no := by
  refine mg_of2 hl ok_X5_sort al_X5_sort rfl (fun K hK₀ => ?_)
  have F9 := mh_gF_of K9
  have K0 := K9
  obtain ⟨⟨G, w1₀, w3₀, w4₀, w5⟩, _, wpl, ⟨tl, nb⟩, ⟨tbu, clu⟩, rb⟩ := K0
  have RM₀ := @cX5_remember D l hl M g₀ t₀ u₀ G w1₀ (by omega) tl.1 tbu tl.2.1 clu (by omega)
  have bb := tl.1.2.2
  have G0' := G
  have tlM := tl
  have nbM := nb
  have c1₀ := @cX5_checkColumn0 D l hl M g₀ t₀ x₀ G hx
  have c5₀ := @cX3_tallP D l hl M (t₀ + 3) (gi M t₀ 2) (gi M t₀ 0 - 1) tl.2.1 (mh_tl_sm tl)
  rw [mh_pr0 ht] at c5₀
  obtain ⟨⟨k6₀, g0, g1, g3₀, g4, g5₀⟩, ⟨kt, s5, s3₀, s4₀, kct, ⟨kht, lht⟩, ⟨kwt, lwt⟩⟩, ⟨ku, r5₀, r3, r4, kcu, ⟨khu, lhu⟩, ⟨kwu, lwu⟩⟩, ⟨ka, kb, kk, kg, kbc⟩, pl⟩ := F9
  have g0n : gr M g₀ 0 ≠ 0 := by omega
  have g0k : kd M (gr M g₀ 0) = 5 := by rw [g0]; exact kt
  have g1n : gr M g₀ 1 ≠ 0 := by omega
  have g1k : kd M (gr M g₀ 1) = 5 := by rw [g1]; exact ku
  have g3n : gr M g₀ 3 ≠ 0 := by omega
  have g3k : kd M (gr M g₀ 3) = 1 := by rw [g3₀]; exact ka
  have g4n : gr M g₀ 4 ≠ 0 := by omega
  have g4k : kd M (gr M g₀ 4) = 1 := by rw [g4]; exact kb
  have g5n : gr M g₀ 5 ≠ 0 := by omega
  have g5k : kd M (gr M g₀ 5) = 2 := by rw [g5₀]; exact kk
  have t5₀ : gr M (gr M g₀ 0) 5 = t₀ + 3 := by rw [g0]; exact s5
  have t5n : gr M (gr M g₀ 0) 5 ≠ 0 := by omega
  have t5k : kd M (gr M (gr M g₀ 0) 5) = 4 := by rw [t5₀]; exact kct
  have t3₀ : gr M (gr M g₀ 0) 3 = t₀ + 1 := by rw [g0]; exact s3₀
  have t3n : gr M (gr M g₀ 0) 3 ≠ 0 := by omega
  have t3k : kd M (gr M (gr M g₀ 0) 3) = 8 := by rw [t3₀]; exact kht
  have t3l : ln M (gr M (gr M g₀ 0) 3) = 12 := by rw [t3₀]; exact lht
  have t4₀ : gr M (gr M g₀ 0) 4 = t₀ + 2 := by rw [g0]; exact s4₀
  have t4n : gr M (gr M g₀ 0) 4 ≠ 0 := by omega
  have t4k : kd M (gr M (gr M g₀ 0) 4) = 8 := by rw [t4₀]; exact kwt
  have t4l : ln M (gr M (gr M g₀ 0) 4) = 10 := by rw [t4₀]; exact lwt
  have u5 : gr M (gr M g₀ 1) 5 = u₀ + 3 := by rw [g1]; exact r5₀
  have u5n : gr M (gr M g₀ 1) 5 ≠ 0 := by omega
  have u5k : kd M (gr M (gr M g₀ 1) 5) = 4 := by rw [u5]; exact kcu
  have u3 : gr M (gr M g₀ 1) 3 = u₀ + 1 := by rw [g1]; exact r3
  have u3n : gr M (gr M g₀ 1) 3 ≠ 0 := by omega
  have u3k : kd M (gr M (gr M g₀ 1) 3) = 8 := by rw [u3]; exact khu
  have u3l : ln M (gr M (gr M g₀ 1) 3) = 12 := by rw [u3]; exact lhu
  have u4₀ : gr M (gr M g₀ 1) 4 = u₀ + 2 := by rw [g1]; exact r4
  have u4n : gr M (gr M g₀ 1) 4 ≠ 0 := by omega
  have u4k : kd M (gr M (gr M g₀ 1) 4) = 8 := by rw [u4₀]; exact kwu
  have u4l : ln M (gr M (gr M g₀ 1) 4) = 10 := by rw [u4₀]; exact lwu
  have e0₀ : gi M (gr M g₀ 0) 0 = gi M t₀ 0 := by rw [g0]
  have e1₀ : gi M (gr M g₀ 0) 1 = gi M t₀ 1 := by rw [g0]
  have e2₀ : gi M (gr M g₀ 0) 2 = gi M t₀ 2 := by rw [g0]
  have e3₀ : gi M (gr M g₀ 0) 0 - 1 = gi M t₀ 0 - 1 := by rw [g0]
  clear G w1₀ w3₀ w4₀ w5 tl nb tbu clu G0'
  refine hK₀ _ _ _ _ _ ?_
  (repeat' (((conv => whnf); first | (show (_ : Option mg_V) = _ ∧ _; assumption) | (show K _ _ _ _ _; assumption) | (show mm_th _ _ _ _; assumption) | refine And.intro (by first | assumption | omega | (simp only [true_and]; first | done | assumption | omega)) ?_ | (refine And.intro (fun _ => ?_) (fun _ => ?_) <;> first | (exfalso; omega) | skip) | intro _ | fail)))
  all_goals (try ((conv => whnf); (refine Exists.intro _ (Exists.intro _ (And.intro (c1₀) (And.intro ?_ (fun _ _ h₀ => h₀.elim)))); rintro _ _ ⟨rfl, e₀⟩; have e2₀ := e₀.symm; clear e₀; subst e2₀); (repeat' (((conv => whnf); first | (show (_ : Option mg_V) = _ ∧ _; assumption) | (show K _ _ _ _ _; assumption) | (show mm_th _ _ _ _; assumption) | refine And.intro (by first | assumption | omega | (simp only [true_and]; first | done | assumption | omega)) ?_ | (refine And.intro (fun _ => ?_) (fun _ => ?_) <;> first | (exfalso; omega) | skip) | intro _ | fail)))))
  all_goals ((conv => whnf); (try rw [g0]); (try rw [g1]); (try rw [s5]); (try rw [s3₀]); (try rw [s4₀]); (try rw [r5₀]); (try rw [g3₀]); (try rw [g4]); (try rw [g5₀]))
  (refine Exists.intro _ (Exists.intro _ (And.intro (c5₀) (And.intro ?_ (fun _ _ h₀ => h₀.elim)))); rintro _ _ ⟨rfl, e₀⟩; have e2₀ := e₀.symm; clear e₀; subst e2₀)
  (repeat' (((conv => whnf); first | (show (_ : Option mg_V) = _ ∧ _; assumption) | (show K _ _ _ _ _; assumption) | (show mm_th _ _ _ _; assumption) | refine And.intro (by first | assumption | omega | (simp only [true_and]; first | done | assumption | omega)) ?_ | (refine And.intro (fun _ => ?_) (fun _ => ?_) <;> first | (exfalso; omega) | skip) | intro _ | fail)))
  all_goals ((conv => whnf); skip)
  refine Exists.intro _ (Exists.intro _ (And.intro (RM₀) (And.intro ?_ (fun _ _ h₀ => h₀.elim))))
  rintro _ N1 ⟨rfl, Rr⟩
  obtain ⟨K1, E1₀, FR, h21⟩ := mh_rmb_K K9 Rr
  clear RM₀
  obtain ⟨tl1, nb1⟩ := K1.2.2.2.1
  have v1₀ := (E1₀ t₀ (by omega) (by omega)).2.2.2
  have v10 := v1₀ 0
  have v11 := v1₀ 1
  have v12 := v1₀ 2
  have OP := @cX4_planSort D l hl N1 t₀ x₀ y₀ tl1 nb1 (by omega) (by omega)
  have F1₀ := mh_gF_of K1
  clear u4l u4k u4n u4₀ u3l u3k u3n u3 u5k u5n u5 t4l t4k t4n t4₀ t3l t3k t3n t3₀ t5k t5n t5₀ g5k g5n g4k g4n g3k g3n g1k g1n g0k g0n pl kbc kg kk kb ka lwu kwu lhu khu kcu r4 r3 r5₀ ku lwt kwt lht kht kct s4₀ s3₀ s5 kt g5₀ g4 g3₀ g1 g0 k6₀
  have F1' := F1₀
  obtain ⟨⟨k61_, g01_, g11_, g31_, g41_, g51_⟩, ⟨kt1_, s51_, s31_, s41_, kct1_, ⟨kht1_, lht1_⟩, ⟨kwt1_, lwt1_⟩⟩, ⟨ku1_, r51_, r31_, r41_, kcu1_, ⟨khu1_, lhu1_⟩, ⟨kwu1_, lwu1_⟩⟩, ⟨ka1_, kb1_, kk1_, kg1_, kbc1_⟩, pl1_⟩ := F1₀
  have g0n1_ : gr N1 g₀ 0 ≠ 0 := by omega
  have g0k1_ : kd N1 (gr N1 g₀ 0) = 5 := by rw [g01_]; exact kt1_
  have g1n1_ : gr N1 g₀ 1 ≠ 0 := by omega
  have g1k1_ : kd N1 (gr N1 g₀ 1) = 5 := by rw [g11_]; exact ku1_
  have g3n1_ : gr N1 g₀ 3 ≠ 0 := by omega
  have g3k1_ : kd N1 (gr N1 g₀ 3) = 1 := by rw [g31_]; exact ka1_
  have g4n1_ : gr N1 g₀ 4 ≠ 0 := by omega
  have g4k1_ : kd N1 (gr N1 g₀ 4) = 1 := by rw [g41_]; exact kb1_
  have g5n1_ : gr N1 g₀ 5 ≠ 0 := by omega
  have g5k1_ : kd N1 (gr N1 g₀ 5) = 2 := by rw [g51_]; exact kk1_
  have t51_ : gr N1 (gr N1 g₀ 0) 5 = t₀ + 3 := by rw [g01_]; exact s51_
  have t5n1_ : gr N1 (gr N1 g₀ 0) 5 ≠ 0 := by omega
  have t5k1_ : kd N1 (gr N1 (gr N1 g₀ 0) 5) = 4 := by rw [t51_]; exact kct1_
  have t31_ : gr N1 (gr N1 g₀ 0) 3 = t₀ + 1 := by rw [g01_]; exact s31_
  have t3n1_ : gr N1 (gr N1 g₀ 0) 3 ≠ 0 := by omega
  have t3k1_ : kd N1 (gr N1 (gr N1 g₀ 0) 3) = 8 := by rw [t31_]; exact kht1_
  have t3l1_ : ln N1 (gr N1 (gr N1 g₀ 0) 3) = 12 := by rw [t31_]; exact lht1_
  have t41_ : gr N1 (gr N1 g₀ 0) 4 = t₀ + 2 := by rw [g01_]; exact s41_
  have t4n1_ : gr N1 (gr N1 g₀ 0) 4 ≠ 0 := by omega
  have t4k1_ : kd N1 (gr N1 (gr N1 g₀ 0) 4) = 8 := by rw [t41_]; exact kwt1_
  have t4l1_ : ln N1 (gr N1 (gr N1 g₀ 0) 4) = 10 := by rw [t41_]; exact lwt1_
  have u51_ : gr N1 (gr N1 g₀ 1) 5 = u₀ + 3 := by rw [g11_]; exact r51_
  have u5n1_ : gr N1 (gr N1 g₀ 1) 5 ≠ 0 := by omega
  have u5k1_ : kd N1 (gr N1 (gr N1 g₀ 1) 5) = 4 := by rw [u51_]; exact kcu1_
  have u31_ : gr N1 (gr N1 g₀ 1) 3 = u₀ + 1 := by rw [g11_]; exact r31_
  have u3n1_ : gr N1 (gr N1 g₀ 1) 3 ≠ 0 := by omega
  have u3k1_ : kd N1 (gr N1 (gr N1 g₀ 1) 3) = 8 := by rw [u31_]; exact khu1_
  have u3l1_ : ln N1 (gr N1 (gr N1 g₀ 1) 3) = 12 := by rw [u31_]; exact lhu1_
  have u41_ : gr N1 (gr N1 g₀ 1) 4 = u₀ + 2 := by rw [g11_]; exact r41_
  have u4n1_ : gr N1 (gr N1 g₀ 1) 4 ≠ 0 := by omega
  have u4k1_ : kd N1 (gr N1 (gr N1 g₀ 1) 4) = 8 := by rw [u41_]; exact kwu1_
  have u4l1_ : ln N1 (gr N1 (gr N1 g₀ 1) 4) = 10 := by rw [u41_]; exact lwu1_
  (repeat' (((conv => whnf); first | (show (_ : Option mg_V) = _ ∧ _; assumption) | (show K _ _ _ _ _; assumption) | (show mm_th _ _ _ _; assumption) | refine And.intro (by first | assumption | omega | (simp only [true_and]; first | done | assumption | omega)) ?_ | (refine And.intro (fun _ => ?_) (fun _ => ?_) <;> first | (exfalso; omega) | skip) | intro _ | fail)))
  all_goals ((conv => whnf); (try rw [g01_]); (try rw [g11_]); (try rw [s51_]); (try rw [s31_]); (try rw [s41_]); (try rw [r51_]); (try rw [g31_]); (try rw [g41_]); (try rw [g51_]))
  refine Exists.intro _ (Exists.intro _ (And.intro (OP) (And.intro ?_ (fun _ _ h₀ => h₀.elim))))
  rintro _ N5 ⟨rfl, fx5, pv5⟩
  clear OP
  clear u4l1_ u4k1_ u4n1_ u41_ u3l1_ u3k1_ u3n1_ u31_ u5k1_ u5n1_ u51_ t4l1_ t4k1_ t4n1_ t41_ t3l1_ t3k1_ t3n1_ t31_ t5k1_ t5n1_ t51_ g5k1_ g5n1_ g4k1_ g4n1_ g3k1_ g3n1_ g1k1_ g1n1_ g0k1_ g0n1_ pl1_ kbc1_ kg1_ kk1_ kb1_ ka1_ lwu1_ kwu1_ lhu1_ khu1_ kcu1_ r41_ r31_ r51_ ku1_ lwt1_ kwt1_ lht1_ kht1_ kct1_ s41_ s31_ s51_ kt1_ g51_ g41_ g31_ g11_ g01_ k61_
  obtain ⟨tl5, at5₀, co5, z50₀, z51, z53₀⟩ := mh_fx_tl7 fx5 tl1
  have nb5 : mh_nb N5 t₀ := fun p₀ q₀ h1 h2 h3 h4 => by rw [at5₀]; exact nb1 p₀ q₀ h1 (by omega) h3 (by omega)
  have bb1 := tl1.1.2.2
  have pl5 : ∀ r₀, 0 ≤ r₀ → r₀ < gi N5 t₀ 0 → mh_pl N5 t₀ r₀ = mh_ps M t₀ x₀ y₀ r₀.toNat := by
    intro r₀ r0 r1₀
    unfold mh_pl
    rw [if_pos ⟨r0, r1₀⟩, pv5 _ (by omega)]
    rw [mh_eq_ps E1₀ tlM nbM hx (by omega)]
  have cells5 : ∀ i₀ : Nat, (i₀ : Int) < gi N5 (t₀ + 3) 0 → ∀ k₀, gi N5 (gr N5 (t₀ + 3 + 1) i₀) k₀ = gi M (gr M (t₀ + 3 + 1) i₀) k₀ := by
    intro i₀ hi k₀
    have z₀ := tlM.2.1.2.2.2.2.2.2.1
    have v3 := (E1₀ (t₀ + 3) (by omega) (by omega)).2.2.2 0
    have c9₀ := tlM.2.1.2.2.2.2.2.2.2.1 i₀ (by omega)
    obtain ⟨c1₀, c2₀⟩ := mh_eq_cells E1₀ tlM.2.1 (i₀ := i₀) (by omega)
    rw [fx5.2.2.1, c1₀, fx5.2.2.2.2.2.2 _ k₀ (by omega), c2₀]
  have z5M : gi N5 t₀ 0 = gi M t₀ 0 := by omega
  have RN₀ := @cX4_renumberRows7 D l hl N5 t₀ (iv₀) tl5 nb5 (fun r₀ r0 r1₀ => by rw [pl5 r₀ r0 r1₀, z5M]; exact HP r₀ r0 (by omega)) (fun r₀ r0 r1₀ => by rw [pl5 _ (HV r₀ r0 (by omega)).1.1 (by have := (HV r₀ r0 (by omega)).1.2; omega), z5M]; exact HV r₀ r0 (by omega)) (fun i₀ hi h1 r₀ r0 r1₀ => by
    rw [cells5 i₀ hi] at h1 r0 r1₀
    rw [cells5 i₀ hi] at r1₀
    have o := tlM.2.2.1 i₀ (by have v3 := (E1₀ (t₀ + 3) (by omega) (by omega)).2.2.2 0; omega)
    unfold mh_ok at o
    rw [pl5 r₀ (by omega) (by omega)]
    have rh : ¬ (gi M t₀ 2 ≤ r₀ ∧ r₀ < gi M t₀ 0) := by
      intro w₀
      exact ht ⟨i₀, by have v3 := (E1₀ (t₀ + 3) (by omega) (by omega)).2.2.2 0; omega, h1, by omega, by omega⟩
    unfold mh_ps
    rw [if_neg (by omega)]
    omega)
  rw [show gi N5 t₀ 0 = gi M t₀ 0 by omega] at pl5
  have F5 := mh_gF_fr F1' fx5.1 fx5.2.1 (fun a₀ k₀ => Or.inr (fx5.2.2.1 a₀ k₀))
  have F5' := F5
  obtain ⟨⟨k65_, g05_, g15_, g35_, g45_, g55_⟩, ⟨kt5_, s55_, s35_, s45_, kct5_, ⟨kht5_, lht5_⟩, ⟨kwt5_, lwt5_⟩⟩, ⟨ku5_, r55_, r35_, r45_, kcu5_, ⟨khu5_, lhu5_⟩, ⟨kwu5_, lwu5_⟩⟩, ⟨ka5_, kb5_, kk5_, kg5_, kbc5_⟩, pl5_⟩ := F5
  have g0n5_ : gr N5 g₀ 0 ≠ 0 := by omega
  have g0k5_ : kd N5 (gr N5 g₀ 0) = 5 := by rw [g05_]; exact kt5_
  have g1n5_ : gr N5 g₀ 1 ≠ 0 := by omega
  have g1k5_ : kd N5 (gr N5 g₀ 1) = 5 := by rw [g15_]; exact ku5_
  have g3n5_ : gr N5 g₀ 3 ≠ 0 := by omega
  have g3k5_ : kd N5 (gr N5 g₀ 3) = 1 := by rw [g35_]; exact ka5_
  have g4n5_ : gr N5 g₀ 4 ≠ 0 := by omega
  have g4k5_ : kd N5 (gr N5 g₀ 4) = 1 := by rw [g45_]; exact kb5_
  have g5n5_ : gr N5 g₀ 5 ≠ 0 := by omega
  have g5k5_ : kd N5 (gr N5 g₀ 5) = 2 := by rw [g55_]; exact kk5_
  have t55_ : gr N5 (gr N5 g₀ 0) 5 = t₀ + 3 := by rw [g05_]; exact s55_
  have t5n5_ : gr N5 (gr N5 g₀ 0) 5 ≠ 0 := by omega
  have t5k5_ : kd N5 (gr N5 (gr N5 g₀ 0) 5) = 4 := by rw [t55_]; exact kct5_
  have t35_ : gr N5 (gr N5 g₀ 0) 3 = t₀ + 1 := by rw [g05_]; exact s35_
  have t3n5_ : gr N5 (gr N5 g₀ 0) 3 ≠ 0 := by omega
  have t3k5_ : kd N5 (gr N5 (gr N5 g₀ 0) 3) = 8 := by rw [t35_]; exact kht5_
  have t3l5_ : ln N5 (gr N5 (gr N5 g₀ 0) 3) = 12 := by rw [t35_]; exact lht5_
  have t45_ : gr N5 (gr N5 g₀ 0) 4 = t₀ + 2 := by rw [g05_]; exact s45_
  have t4n5_ : gr N5 (gr N5 g₀ 0) 4 ≠ 0 := by omega
  have t4k5_ : kd N5 (gr N5 (gr N5 g₀ 0) 4) = 8 := by rw [t45_]; exact kwt5_
  have t4l5_ : ln N5 (gr N5 (gr N5 g₀ 0) 4) = 10 := by rw [t45_]; exact lwt5_
  have u55_ : gr N5 (gr N5 g₀ 1) 5 = u₀ + 3 := by rw [g15_]; exact r55_
  have u5n5_ : gr N5 (gr N5 g₀ 1) 5 ≠ 0 := by omega
  have u5k5_ : kd N5 (gr N5 (gr N5 g₀ 1) 5) = 4 := by rw [u55_]; exact kcu5_
  have u35_ : gr N5 (gr N5 g₀ 1) 3 = u₀ + 1 := by rw [g15_]; exact r35_
  have u3n5_ : gr N5 (gr N5 g₀ 1) 3 ≠ 0 := by omega
  have u3k5_ : kd N5 (gr N5 (gr N5 g₀ 1) 3) = 8 := by rw [u35_]; exact khu5_
  have u3l5_ : ln N5 (gr N5 (gr N5 g₀ 1) 3) = 12 := by rw [u35_]; exact lhu5_
  have u45_ : gr N5 (gr N5 g₀ 1) 4 = u₀ + 2 := by rw [g15_]; exact r45_
  have u4n5_ : gr N5 (gr N5 g₀ 1) 4 ≠ 0 := by omega
  have u4k5_ : kd N5 (gr N5 (gr N5 g₀ 1) 4) = 8 := by rw [u45_]; exact kwu5_
  have u4l5_ : ln N5 (gr N5 (gr N5 g₀ 1) 4) = 10 := by rw [u45_]; exact lwu5_
  clear F1'
  (repeat' (((conv => whnf); first | (show (_ : Option mg_V) = _ ∧ _; assumption) | (show K _ _ _ _ _; assumption) | (show mm_th _ _ _ _; assumption) | refine And.intro (by first | assumption | omega | (simp only [true_and]; first | done | assumption | omega)) ?_ | (refine And.intro (fun _ => ?_) (fun _ => ?_) <;> first | (exfalso; omega) | skip) | intro _ | fail)))
  all_goals ((conv => whnf); (try rw [g05_]); (try rw [g15_]); (try rw [s55_]); (try rw [s35_]); (try rw [s45_]); (try rw [r55_]); (try rw [g35_]); (try rw [g45_]); (try rw [g55_]))
  refine Exists.intro _ (Exists.intro _ (And.intro (RN₀) (And.intro ?_ (fun _ _ h₀ => h₀.elim))))
  rintro _ N2 ⟨rfl, q0, q7₀⟩
  clear RN₀
  have q₀ := mh_nv_of q0
  clear u4l5_ u4k5_ u4n5_ u45_ u3l5_ u3k5_ u3n5_ u35_ u5k5_ u5n5_ u55_ t4l5_ t4k5_ t4n5_ t45_ t3l5_ t3k5_ t3n5_ t35_ t5k5_ t5n5_ t55_ g5k5_ g5n5_ g4k5_ g4n5_ g3k5_ g3n5_ g1k5_ g1n5_ g0k5_ g0n5_ pl5_ kbc5_ kg5_ kk5_ kb5_ ka5_ lwu5_ kwu5_ lhu5_ khu5_ kcu5_ r45_ r35_ r55_ ku5_ lwt5_ kwt5_ lht5_ kht5_ kct5_ s45_ s35_ s55_ kt5_ g55_ g45_ g35_ g15_ g05_ k65_
  have F2 := mh_gF_fr F5' q₀.1.1 q₀.1.2.1 q₀.1.2.2.1
  have SF := @cX5_selectFirst D l hl N2 g₀ t₀ (g₀ + 259) (mh_gF_G0 F2) F2.1.2.2.2.1 (by omega) F2.2.2.2.1.1 q₀.2.1.1 (by have := q₀.2.2.1; omega)
  have F2' := F2
  obtain ⟨⟨k62_, g02_, g12_, g32_, g42_, g52_⟩, ⟨kt2_, s52_, s32_, s42_, kct2_, ⟨kht2_, lht2_⟩, ⟨kwt2_, lwt2_⟩⟩, ⟨ku2_, r52_, r32_, r42_, kcu2_, ⟨khu2_, lhu2_⟩, ⟨kwu2_, lwu2_⟩⟩, ⟨ka2_, kb2_, kk2_, kg2_, kbc2_⟩, pl2_⟩ := F2
  have g0n2_ : gr N2 g₀ 0 ≠ 0 := by omega
  have g0k2_ : kd N2 (gr N2 g₀ 0) = 5 := by rw [g02_]; exact kt2_
  have g1n2_ : gr N2 g₀ 1 ≠ 0 := by omega
  have g1k2_ : kd N2 (gr N2 g₀ 1) = 5 := by rw [g12_]; exact ku2_
  have g3n2_ : gr N2 g₀ 3 ≠ 0 := by omega
  have g3k2_ : kd N2 (gr N2 g₀ 3) = 1 := by rw [g32_]; exact ka2_
  have g4n2_ : gr N2 g₀ 4 ≠ 0 := by omega
  have g4k2_ : kd N2 (gr N2 g₀ 4) = 1 := by rw [g42_]; exact kb2_
  have g5n2_ : gr N2 g₀ 5 ≠ 0 := by omega
  have g5k2_ : kd N2 (gr N2 g₀ 5) = 2 := by rw [g52_]; exact kk2_
  have t52_ : gr N2 (gr N2 g₀ 0) 5 = t₀ + 3 := by rw [g02_]; exact s52_
  have t5n2_ : gr N2 (gr N2 g₀ 0) 5 ≠ 0 := by omega
  have t5k2_ : kd N2 (gr N2 (gr N2 g₀ 0) 5) = 4 := by rw [t52_]; exact kct2_
  have t32_ : gr N2 (gr N2 g₀ 0) 3 = t₀ + 1 := by rw [g02_]; exact s32_
  have t3n2_ : gr N2 (gr N2 g₀ 0) 3 ≠ 0 := by omega
  have t3k2_ : kd N2 (gr N2 (gr N2 g₀ 0) 3) = 8 := by rw [t32_]; exact kht2_
  have t3l2_ : ln N2 (gr N2 (gr N2 g₀ 0) 3) = 12 := by rw [t32_]; exact lht2_
  have t42_ : gr N2 (gr N2 g₀ 0) 4 = t₀ + 2 := by rw [g02_]; exact s42_
  have t4n2_ : gr N2 (gr N2 g₀ 0) 4 ≠ 0 := by omega
  have t4k2_ : kd N2 (gr N2 (gr N2 g₀ 0) 4) = 8 := by rw [t42_]; exact kwt2_
  have t4l2_ : ln N2 (gr N2 (gr N2 g₀ 0) 4) = 10 := by rw [t42_]; exact lwt2_
  have u52_ : gr N2 (gr N2 g₀ 1) 5 = u₀ + 3 := by rw [g12_]; exact r52_
  have u5n2_ : gr N2 (gr N2 g₀ 1) 5 ≠ 0 := by omega
  have u5k2_ : kd N2 (gr N2 (gr N2 g₀ 1) 5) = 4 := by rw [u52_]; exact kcu2_
  have u32_ : gr N2 (gr N2 g₀ 1) 3 = u₀ + 1 := by rw [g12_]; exact r32_
  have u3n2_ : gr N2 (gr N2 g₀ 1) 3 ≠ 0 := by omega
  have u3k2_ : kd N2 (gr N2 (gr N2 g₀ 1) 3) = 8 := by rw [u32_]; exact khu2_
  have u3l2_ : ln N2 (gr N2 (gr N2 g₀ 1) 3) = 12 := by rw [u32_]; exact lhu2_
  have u42_ : gr N2 (gr N2 g₀ 1) 4 = u₀ + 2 := by rw [g12_]; exact r42_
  have u4n2_ : gr N2 (gr N2 g₀ 1) 4 ≠ 0 := by omega
  have u4k2_ : kd N2 (gr N2 (gr N2 g₀ 1) 4) = 8 := by rw [u42_]; exact kwu2_
  have u4l2_ : ln N2 (gr N2 (gr N2 g₀ 1) 4) = 10 := by rw [u42_]; exact lwu2_
  clear F5'
  (repeat' (((conv => whnf); first | (show (_ : Option mg_V) = _ ∧ _; assumption) | (show K _ _ _ _ _; assumption) | (show mm_th _ _ _ _; assumption) | refine And.intro (by first | assumption | omega | (simp only [true_and]; first | done | assumption | omega)) ?_ | (refine And.intro (fun _ => ?_) (fun _ => ?_) <;> first | (exfalso; omega) | skip) | intro _ | fail)))
  all_goals ((conv => whnf); skip)
  refine Exists.intro _ (Exists.intro _ (And.intro (SF) (And.intro ?_ (fun _ _ h₀ => h₀.elim))))
  rintro _ N ⟨rfl, q2₀⟩
  clear SF
  clear u4l2_ u4k2_ u4n2_ u42_ u3l2_ u3k2_ u3n2_ u32_ u5k2_ u5n2_ u52_ t4l2_ t4k2_ t4n2_ t42_ t3l2_ t3k2_ t3n2_ t32_ t5k2_ t5n2_ t52_ g5k2_ g5n2_ g4k2_ g4n2_ g3k2_ g3n2_ g1k2_ g1n2_ g0k2_ g0n2_ pl2_ kbc2_ kg2_ kk2_ kb2_ ka2_ lwu2_ kwu2_ lhu2_ khu2_ kcu2_ r42_ r32_ r52_ ku2_ lwt2_ kwt2_ lht2_ kht2_ kct2_ s42_ s32_ s52_ kt2_ g52_ g42_ g32_ g12_ g02_ k62_
  have F3 := mh_gF_fr F2' q2₀.1.1 q2₀.1.2.1 (fun a₀ k₀ => Or.inr (q2₀.1.2.2.1 a₀ k₀))
  have tbN₀ : mg_tb N t₀ := mh_fx_tb q2₀.1 (by omega) q₀.2.1.1.1
  have MV₀ := @cX4_movedRows D l hl N t₀ tbN₀
  have szN₀ : gi N t₀ 0 = gi M t₀ 0 := by
    have z1 := q2₀.1.2.2.2.2.2.2 t₀ 0 (by omega)
    have z2 := q₀.2.2.1.1
    omega
  have em : mh_sum (fun i₀ => if mh_pl N t₀ i₀ = i₀ then (0 : Int) else 1) (gi N t₀ 0).toNat = mh_sum (fun i₀ => if iv₀ (i₀ : Int) = i₀ then (0 : Int) else 1) (gi M t₀ 0).toNat := by
    rw [szN₀]
    refine mh_sum_cg _ (fun i₀ hi => ?_)
    have e1₀ : mh_pl N t₀ i₀ = mh_pl N5 t₀ i₀ := by
      unfold mh_pl
      rw [szN₀, z50₀, v10, q2₀.1.2.2.2.2.2.2 (t₀ + 127) _ (by omega), q7₀]
    rw [e1₀, pl5 i₀ (by omega) (by omega)]
    have h1 := HP i₀ (by omega) (by omega)
    have h2 := HV i₀ (by omega) (by omega)
    by_cases y₀ : iv₀ (i₀ : Int) = i₀
    · rw [if_pos y₀]
      have h3 := h2.2
      rw [y₀] at h3
      rw [if_pos h3]
    · rw [if_neg y₀, if_neg]
      intro w₀
      have h3 := h1.2
      rw [w₀] at h3
      exact y₀ h3
  rw [em] at MV₀
  have Q₀ : some (Sum.inl (mh_sum (fun i₀ => if iv₀ (i₀ : Int) = i₀ then (0 : Int) else 1) (gi M t₀ 0).toNat) : mg_V) = some (.inl (mh_sum (fun i₀ => if iv₀ (i₀ : Int) = i₀ then (0 : Int) else 1) (gi M t₀ 0).toNat)) ∧ ∃ N1 N5 N2, mh_rmb M N1 g₀ t₀ u₀ ∧ mh_fx (t₀ + 127) N1 N5 ∧ mh_nv N5 N2 t₀ (gi N5 t₀ 0) (gi N5 t₀ 1) (gi N5 t₀ 2) (fun p₀ q₀ => mh_at N5 t₀ (iv₀ p₀) q₀) (mh_cn N5 t₀ 4) (mh_cn N5 t₀ 5) (fun k₀ => gi N5 (t₀ + 2) k₀.toNat) (fun k₀ => gi N5 (t₀ + 1) (iv₀ k₀).toNat) ∧ mh_hs N2 N t₀ (g₀ + 259) 0 0 0 0 := ⟨rfl, N1, N5, N2, Rr, fx5, q₀, q2₀⟩
  obtain ⟨⟨k63_, g03_, g13_, g33_, g43_, g53_⟩, ⟨kt3_, s53_, s33_, s43_, kct3_, ⟨kht3_, lht3_⟩, ⟨kwt3_, lwt3_⟩⟩, ⟨ku3_, r53_, r33_, r43_, kcu3_, ⟨khu3_, lhu3_⟩, ⟨kwu3_, lwu3_⟩⟩, ⟨ka3_, kb3_, kk3_, kg3_, kbc3_⟩, pl3_⟩ := F3
  have g0n3_ : gr N g₀ 0 ≠ 0 := by omega
  have g0k3_ : kd N (gr N g₀ 0) = 5 := by rw [g03_]; exact kt3_
  have g1n3_ : gr N g₀ 1 ≠ 0 := by omega
  have g1k3_ : kd N (gr N g₀ 1) = 5 := by rw [g13_]; exact ku3_
  have g3n3_ : gr N g₀ 3 ≠ 0 := by omega
  have g3k3_ : kd N (gr N g₀ 3) = 1 := by rw [g33_]; exact ka3_
  have g4n3_ : gr N g₀ 4 ≠ 0 := by omega
  have g4k3_ : kd N (gr N g₀ 4) = 1 := by rw [g43_]; exact kb3_
  have g5n3_ : gr N g₀ 5 ≠ 0 := by omega
  have g5k3_ : kd N (gr N g₀ 5) = 2 := by rw [g53_]; exact kk3_
  have t53_ : gr N (gr N g₀ 0) 5 = t₀ + 3 := by rw [g03_]; exact s53_
  have t5n3_ : gr N (gr N g₀ 0) 5 ≠ 0 := by omega
  have t5k3_ : kd N (gr N (gr N g₀ 0) 5) = 4 := by rw [t53_]; exact kct3_
  have t33_ : gr N (gr N g₀ 0) 3 = t₀ + 1 := by rw [g03_]; exact s33_
  have t3n3_ : gr N (gr N g₀ 0) 3 ≠ 0 := by omega
  have t3k3_ : kd N (gr N (gr N g₀ 0) 3) = 8 := by rw [t33_]; exact kht3_
  have t3l3_ : ln N (gr N (gr N g₀ 0) 3) = 12 := by rw [t33_]; exact lht3_
  have t43_ : gr N (gr N g₀ 0) 4 = t₀ + 2 := by rw [g03_]; exact s43_
  have t4n3_ : gr N (gr N g₀ 0) 4 ≠ 0 := by omega
  have t4k3_ : kd N (gr N (gr N g₀ 0) 4) = 8 := by rw [t43_]; exact kwt3_
  have t4l3_ : ln N (gr N (gr N g₀ 0) 4) = 10 := by rw [t43_]; exact lwt3_
  have u53_ : gr N (gr N g₀ 1) 5 = u₀ + 3 := by rw [g13_]; exact r53_
  have u5n3_ : gr N (gr N g₀ 1) 5 ≠ 0 := by omega
  have u5k3_ : kd N (gr N (gr N g₀ 1) 5) = 4 := by rw [u53_]; exact kcu3_
  have u33_ : gr N (gr N g₀ 1) 3 = u₀ + 1 := by rw [g13_]; exact r33_
  have u3n3_ : gr N (gr N g₀ 1) 3 ≠ 0 := by omega
  have u3k3_ : kd N (gr N (gr N g₀ 1) 3) = 8 := by rw [u33_]; exact khu3_
  have u3l3_ : ln N (gr N (gr N g₀ 1) 3) = 12 := by rw [u33_]; exact lhu3_
  have u43_ : gr N (gr N g₀ 1) 4 = u₀ + 2 := by rw [g13_]; exact r43_
  have u4n3_ : gr N (gr N g₀ 1) 4 ≠ 0 := by omega
  have u4k3_ : kd N (gr N (gr N g₀ 1) 4) = 8 := by rw [u43_]; exact kwu3_
  have u4l3_ : ln N (gr N (gr N g₀ 1) 4) = 10 := by rw [u43_]; exact lwu3_
  clear F2' q₀ q2₀ Rr K1 E1₀ FR K9 HP HV pl5 cells5 q0 q7₀ fx5 pv5 tl5 nb5 at5₀ co5 em tlM nbM tl1 nb1 tbN₀
  generalize mh_sum (fun i₀ => if iv₀ (i₀ : Int) = i₀ then (0 : Int) else 1) (gi M t₀ 0).toNat = zz at *
  (repeat' (((conv => whnf); first | (show (_ : Option mg_V) = _ ∧ _; assumption) | (show K _ _ _ _ _; assumption) | (show mm_th _ _ _ _; assumption) | refine And.intro (by first | assumption | omega | (simp only [true_and]; first | done | assumption | omega)) ?_ | (refine And.intro (fun _ => ?_) (fun _ => ?_) <;> first | (exfalso; omega) | skip) | intro _ | fail)))
  all_goals ((conv => whnf); (try rw [g03_]); (try rw [g13_]); (try rw [s53_]); (try rw [s33_]); (try rw [s43_]); (try rw [r53_]); (try rw [g33_]); (try rw [g43_]); (try rw [g53_]))
  (refine Exists.intro _ (Exists.intro _ (And.intro (MV₀) (And.intro ?_ (fun _ _ h₀ => h₀.elim)))); rintro _ _ ⟨rfl, e₀⟩; have e2₀ := e₀.symm; clear e₀; subst e2₀)
  (repeat' (((conv => whnf); first | (show (_ : Option mg_V) = _ ∧ _; assumption) | (show K _ _ _ _ _; assumption) | (show mm_th _ _ _ _; assumption) | refine And.intro (by first | assumption | omega | (simp only [true_and]; first | done | assumption | omega)) ?_ | (refine And.intro (fun _ => ?_) (fun _ => ?_) <;> first | (exfalso; omega) | skip) | intro _ | fail)))
set_option maxRecDepth 100000 in
theorem cX5_moveRow1 {D : mg_D} {l : Launch} (hl : l.stackTraces = false) {M : mg_M} {g₀ t₀ u₀ : Nat} {x₀ y₀ : Int} (K9 : mh_K M g₀ t₀ u₀) (h₀ : ¬ ((0 ≤ x₀ ∧ x₀ < gi M t₀ 0) ∧ (0 ≤ y₀ ∧ y₀ < gi M t₀ 0))) : mg_Mt D l 80 [.inr (.inl g₀), .inl x₀, .inl y₀] M mh_nN (mh_tX 1 M) := by
  refine mg_of2 hl ok_X5_moveRow al_X5_moveRow rfl (fun K hK₀ => ?_)
  have F9 := mh_gF_of K9
  obtain ⟨⟨k6₀, g0, g1, g3₀, g4, g5₀⟩, ⟨kt, s5, s3₀, s4₀, kct, ⟨kht, lht⟩, ⟨kwt, lwt⟩⟩, ⟨ku, r5₀, r3, r4, kcu, ⟨khu, lhu⟩, ⟨kwu, lwu⟩⟩, ⟨ka, kb, kk, kg, kbc⟩, pl⟩ := F9
  have g0n : gr M g₀ 0 ≠ 0 := by omega
  have g0k : kd M (gr M g₀ 0) = 5 := by rw [g0]; exact kt
  have g1n : gr M g₀ 1 ≠ 0 := by omega
  have g1k : kd M (gr M g₀ 1) = 5 := by rw [g1]; exact ku
  have g3n : gr M g₀ 3 ≠ 0 := by omega
  have g3k : kd M (gr M g₀ 3) = 1 := by rw [g3₀]; exact ka
  have g4n : gr M g₀ 4 ≠ 0 := by omega
  have g4k : kd M (gr M g₀ 4) = 1 := by rw [g4]; exact kb
  have g5n : gr M g₀ 5 ≠ 0 := by omega
  have g5k : kd M (gr M g₀ 5) = 2 := by rw [g5₀]; exact kk
  have t5₀ : gr M (gr M g₀ 0) 5 = t₀ + 3 := by rw [g0]; exact s5
  have t5n : gr M (gr M g₀ 0) 5 ≠ 0 := by omega
  have t5k : kd M (gr M (gr M g₀ 0) 5) = 4 := by rw [t5₀]; exact kct
  have t3₀ : gr M (gr M g₀ 0) 3 = t₀ + 1 := by rw [g0]; exact s3₀
  have t3n : gr M (gr M g₀ 0) 3 ≠ 0 := by omega
  have t3k : kd M (gr M (gr M g₀ 0) 3) = 8 := by rw [t3₀]; exact kht
  have t3l : ln M (gr M (gr M g₀ 0) 3) = 12 := by rw [t3₀]; exact lht
  have t4₀ : gr M (gr M g₀ 0) 4 = t₀ + 2 := by rw [g0]; exact s4₀
  have t4n : gr M (gr M g₀ 0) 4 ≠ 0 := by omega
  have t4k : kd M (gr M (gr M g₀ 0) 4) = 8 := by rw [t4₀]; exact kwt
  have t4l : ln M (gr M (gr M g₀ 0) 4) = 10 := by rw [t4₀]; exact lwt
  have u5 : gr M (gr M g₀ 1) 5 = u₀ + 3 := by rw [g1]; exact r5₀
  have u5n : gr M (gr M g₀ 1) 5 ≠ 0 := by omega
  have u5k : kd M (gr M (gr M g₀ 1) 5) = 4 := by rw [u5]; exact kcu
  have u3 : gr M (gr M g₀ 1) 3 = u₀ + 1 := by rw [g1]; exact r3
  have u3n : gr M (gr M g₀ 1) 3 ≠ 0 := by omega
  have u3k : kd M (gr M (gr M g₀ 1) 3) = 8 := by rw [u3]; exact khu
  have u3l : ln M (gr M (gr M g₀ 1) 3) = 12 := by rw [u3]; exact lhu
  have u4₀ : gr M (gr M g₀ 1) 4 = u₀ + 2 := by rw [g1]; exact r4
  have u4n : gr M (gr M g₀ 1) 4 ≠ 0 := by omega
  have u4k : kd M (gr M (gr M g₀ 1) 4) = 8 := by rw [u4₀]; exact kwu
  have u4l : ln M (gr M (gr M g₀ 1) 4) = 10 := by rw [u4₀]; exact lwu
  have e0₀ : gi M (gr M g₀ 0) 0 = gi M t₀ 0 := by rw [g0]
  have e1₀ : gi M (gr M g₀ 0) 1 = gi M t₀ 1 := by rw [g0]
  have e2₀ : gi M (gr M g₀ 0) 2 = gi M t₀ 2 := by rw [g0]
  by_cases hx : 0 ≤ x₀ ∧ x₀ < gi M t₀ 0
  · have c1₀ := @cX5_checkRow0 D l hl M g₀ t₀ x₀ K9.1.1 hx
    have c2₀ := @cX5_checkRow1 D l hl M g₀ t₀ y₀ K9.1.1 (fun w₀ => h₀ ⟨hx, w₀⟩)
    clear K9
    refine hK₀ _ _ _ _ _ ?_
    (repeat' (((conv => whnf); first | (show (_ : Option mg_V) = _ ∧ _; assumption) | (show K _ _ _ _ _; assumption) | (show mm_th _ _ _ _; assumption) | refine And.intro (by first | assumption | omega | (simp only [true_and]; first | done | assumption | omega)) ?_ | (refine And.intro (fun _ => ?_) (fun _ => ?_) <;> first | (exfalso; omega) | skip) | intro _ | fail)))
    all_goals (try ((conv => whnf); (refine Exists.intro _ (Exists.intro _ (And.intro (c1₀) (And.intro ?_ (fun _ _ h₀ => h₀.elim)))); rintro _ _ ⟨rfl, e₀⟩; have e2₀ := e₀.symm; clear e₀; subst e2₀); (repeat' (((conv => whnf); first | (show (_ : Option mg_V) = _ ∧ _; assumption) | (show K _ _ _ _ _; assumption) | (show mm_th _ _ _ _; assumption) | refine And.intro (by first | assumption | omega | (simp only [true_and]; first | done | assumption | omega)) ?_ | (refine And.intro (fun _ => ?_) (fun _ => ?_) <;> first | (exfalso; omega) | skip) | intro _ | fail)))))
    all_goals ((conv => whnf); skip)
    (refine Exists.intro _ (Exists.intro _ (And.intro (c2₀) (And.intro (fun _ _ h₀ => h₀.elim) ?_))); rintro _ _ ⟨rfl, n9, hn9, rfl⟩; (conv => whnf); first | exact ⟨rfl, n9, hn9, rfl⟩ | exact ⟨n9, hn9, rfl⟩)
  · have c1₀ := @cX5_checkRow1 D l hl M g₀ t₀ x₀ K9.1.1 hx
    clear K9
    refine hK₀ _ _ _ _ _ ?_
    (repeat' (((conv => whnf); first | (show (_ : Option mg_V) = _ ∧ _; assumption) | (show K _ _ _ _ _; assumption) | (show mm_th _ _ _ _; assumption) | refine And.intro (by first | assumption | omega | (simp only [true_and]; first | done | assumption | omega)) ?_ | (refine And.intro (fun _ => ?_) (fun _ => ?_) <;> first | (exfalso; omega) | skip) | intro _ | fail)))
    all_goals ((conv => whnf); skip)
    (refine Exists.intro _ (Exists.intro _ (And.intro (c1₀) (And.intro (fun _ _ h₀ => h₀.elim) ?_))); rintro _ _ ⟨rfl, n9, hn9, rfl⟩; (conv => whnf); first | exact ⟨rfl, n9, hn9, rfl⟩ | exact ⟨n9, hn9, rfl⟩)
set_option maxRecDepth 100000 in
theorem cX5_moveRow2 {D : mg_D} {l : Launch} (hl : l.stackTraces = false) {M : mg_M} {g₀ t₀ u₀ : Nat} {x₀ y₀ : Int} (K9 : mh_K M g₀ t₀ u₀) (hx : 0 ≤ x₀ ∧ x₀ < gi M t₀ 0) (hy : 0 ≤ y₀ ∧ y₀ < gi M t₀ 0) (hn : x₀ = y₀) : mg_Mt D l 80 [.inr (.inl g₀), .inl x₀, .inl y₀] M mh_nN (mh_tX 3 M) := by
  refine mg_of2 hl ok_X5_moveRow al_X5_moveRow rfl (fun K hK₀ => ?_)
  have F9 := mh_gF_of K9
  obtain ⟨⟨k6₀, g0, g1, g3₀, g4, g5₀⟩, ⟨kt, s5, s3₀, s4₀, kct, ⟨kht, lht⟩, ⟨kwt, lwt⟩⟩, ⟨ku, r5₀, r3, r4, kcu, ⟨khu, lhu⟩, ⟨kwu, lwu⟩⟩, ⟨ka, kb, kk, kg, kbc⟩, pl⟩ := F9
  have g0n : gr M g₀ 0 ≠ 0 := by omega
  have g0k : kd M (gr M g₀ 0) = 5 := by rw [g0]; exact kt
  have g1n : gr M g₀ 1 ≠ 0 := by omega
  have g1k : kd M (gr M g₀ 1) = 5 := by rw [g1]; exact ku
  have g3n : gr M g₀ 3 ≠ 0 := by omega
  have g3k : kd M (gr M g₀ 3) = 1 := by rw [g3₀]; exact ka
  have g4n : gr M g₀ 4 ≠ 0 := by omega
  have g4k : kd M (gr M g₀ 4) = 1 := by rw [g4]; exact kb
  have g5n : gr M g₀ 5 ≠ 0 := by omega
  have g5k : kd M (gr M g₀ 5) = 2 := by rw [g5₀]; exact kk
  have t5₀ : gr M (gr M g₀ 0) 5 = t₀ + 3 := by rw [g0]; exact s5
  have t5n : gr M (gr M g₀ 0) 5 ≠ 0 := by omega
  have t5k : kd M (gr M (gr M g₀ 0) 5) = 4 := by rw [t5₀]; exact kct
  have t3₀ : gr M (gr M g₀ 0) 3 = t₀ + 1 := by rw [g0]; exact s3₀
  have t3n : gr M (gr M g₀ 0) 3 ≠ 0 := by omega
  have t3k : kd M (gr M (gr M g₀ 0) 3) = 8 := by rw [t3₀]; exact kht
  have t3l : ln M (gr M (gr M g₀ 0) 3) = 12 := by rw [t3₀]; exact lht
  have t4₀ : gr M (gr M g₀ 0) 4 = t₀ + 2 := by rw [g0]; exact s4₀
  have t4n : gr M (gr M g₀ 0) 4 ≠ 0 := by omega
  have t4k : kd M (gr M (gr M g₀ 0) 4) = 8 := by rw [t4₀]; exact kwt
  have t4l : ln M (gr M (gr M g₀ 0) 4) = 10 := by rw [t4₀]; exact lwt
  have u5 : gr M (gr M g₀ 1) 5 = u₀ + 3 := by rw [g1]; exact r5₀
  have u5n : gr M (gr M g₀ 1) 5 ≠ 0 := by omega
  have u5k : kd M (gr M (gr M g₀ 1) 5) = 4 := by rw [u5]; exact kcu
  have u3 : gr M (gr M g₀ 1) 3 = u₀ + 1 := by rw [g1]; exact r3
  have u3n : gr M (gr M g₀ 1) 3 ≠ 0 := by omega
  have u3k : kd M (gr M (gr M g₀ 1) 3) = 8 := by rw [u3]; exact khu
  have u3l : ln M (gr M (gr M g₀ 1) 3) = 12 := by rw [u3]; exact lhu
  have u4₀ : gr M (gr M g₀ 1) 4 = u₀ + 2 := by rw [g1]; exact r4
  have u4n : gr M (gr M g₀ 1) 4 ≠ 0 := by omega
  have u4k : kd M (gr M (gr M g₀ 1) 4) = 8 := by rw [u4₀]; exact kwu
  have u4l : ln M (gr M (gr M g₀ 1) 4) = 10 := by rw [u4₀]; exact lwu
  have e0₀ : gi M (gr M g₀ 0) 0 = gi M t₀ 0 := by rw [g0]
  have e1₀ : gi M (gr M g₀ 0) 1 = gi M t₀ 1 := by rw [g0]
  have e2₀ : gi M (gr M g₀ 0) 2 = gi M t₀ 2 := by rw [g0]
  have c1₀ := @cX5_checkRow0 D l hl M g₀ t₀ x₀ K9.1.1 hx
  have c2₀ := @cX5_checkRow0 D l hl M g₀ t₀ y₀ K9.1.1 hy
  clear K9
  refine hK₀ _ _ _ _ _ ?_
  (repeat' (((conv => whnf); first | (show (_ : Option mg_V) = _ ∧ _; assumption) | (show K _ _ _ _ _; assumption) | (show mm_th _ _ _ _; assumption) | refine And.intro (by first | assumption | omega | (simp only [true_and]; first | done | assumption | omega)) ?_ | (refine And.intro (fun _ => ?_) (fun _ => ?_) <;> first | (exfalso; omega) | skip) | intro _ | fail)))
  all_goals (try ((conv => whnf); (refine Exists.intro _ (Exists.intro _ (And.intro (c1₀) (And.intro ?_ (fun _ _ h₀ => h₀.elim)))); rintro _ _ ⟨rfl, e₀⟩; have e2₀ := e₀.symm; clear e₀; subst e2₀); (repeat' (((conv => whnf); first | (show (_ : Option mg_V) = _ ∧ _; assumption) | (show K _ _ _ _ _; assumption) | (show mm_th _ _ _ _; assumption) | refine And.intro (by first | assumption | omega | (simp only [true_and]; first | done | assumption | omega)) ?_ | (refine And.intro (fun _ => ?_) (fun _ => ?_) <;> first | (exfalso; omega) | skip) | intro _ | fail)))))
  all_goals (try ((conv => whnf); (refine Exists.intro _ (Exists.intro _ (And.intro (c2₀) (And.intro ?_ (fun _ _ h₀ => h₀.elim)))); rintro _ _ ⟨rfl, e₀⟩; have e2₀ := e₀.symm; clear e₀; subst e2₀); (repeat' (((conv => whnf); first | (show (_ : Option mg_V) = _ ∧ _; assumption) | (show K _ _ _ _ _; assumption) | (show mm_th _ _ _ _; assumption) | refine And.intro (by first | assumption | omega | (simp only [true_and]; first | done | assumption | omega)) ?_ | (refine And.intro (fun _ => ?_) (fun _ => ?_) <;> first | (exfalso; omega) | skip) | intro _ | fail)))))
  all_goals (first | exact ⟨_, by assumption, rfl⟩ | exact ⟨rfl, _, by assumption, rfl⟩)
set_option maxRecDepth 100000 in
theorem cX5_moveRow3 {D : mg_D} {l : Launch} (hl : l.stackTraces = false) {M : mg_M} {g₀ t₀ u₀ : Nat} {x₀ y₀ : Int} (K9 : mh_K M g₀ t₀ u₀) (hx : 0 ≤ x₀ ∧ x₀ < gi M t₀ 0) (hy : 0 ≤ y₀ ∧ y₀ < gi M t₀ 0) (hn : x₀ ≠ y₀) (h₀ : ¬ (x₀ < gi M t₀ 2 ↔ y₀ < gi M t₀ 2) ∨ ∃ i₀ : Nat, (i₀ : Int) < gi M (t₀ + 3) 0 ∧ 1 < gi M (gr M (t₀ + 3 + 1) i₀) 2 ∧ gi M (gr M (t₀ + 3 + 1) i₀) 0 ≤ max x₀ y₀ ∧ min x₀ y₀ ≤ gi M (gr M (t₀ + 3 + 1) i₀) 0 + gi M (gr M (t₀ + 3 + 1) i₀) 2 - 1) : mg_Mt D l 80 [.inr (.inl g₀), .inl x₀, .inl y₀] M mh_nN (mh_tX 4 M) := by
  refine mg_of2 hl ok_X5_moveRow al_X5_moveRow rfl (fun K hK₀ => ?_)
  have F9 := mh_gF_of K9
  obtain ⟨⟨k6₀, g0, g1, g3₀, g4, g5₀⟩, ⟨kt, s5, s3₀, s4₀, kct, ⟨kht, lht⟩, ⟨kwt, lwt⟩⟩, ⟨ku, r5₀, r3, r4, kcu, ⟨khu, lhu⟩, ⟨kwu, lwu⟩⟩, ⟨ka, kb, kk, kg, kbc⟩, pl⟩ := F9
  have g0n : gr M g₀ 0 ≠ 0 := by omega
  have g0k : kd M (gr M g₀ 0) = 5 := by rw [g0]; exact kt
  have g1n : gr M g₀ 1 ≠ 0 := by omega
  have g1k : kd M (gr M g₀ 1) = 5 := by rw [g1]; exact ku
  have g3n : gr M g₀ 3 ≠ 0 := by omega
  have g3k : kd M (gr M g₀ 3) = 1 := by rw [g3₀]; exact ka
  have g4n : gr M g₀ 4 ≠ 0 := by omega
  have g4k : kd M (gr M g₀ 4) = 1 := by rw [g4]; exact kb
  have g5n : gr M g₀ 5 ≠ 0 := by omega
  have g5k : kd M (gr M g₀ 5) = 2 := by rw [g5₀]; exact kk
  have t5₀ : gr M (gr M g₀ 0) 5 = t₀ + 3 := by rw [g0]; exact s5
  have t5n : gr M (gr M g₀ 0) 5 ≠ 0 := by omega
  have t5k : kd M (gr M (gr M g₀ 0) 5) = 4 := by rw [t5₀]; exact kct
  have t3₀ : gr M (gr M g₀ 0) 3 = t₀ + 1 := by rw [g0]; exact s3₀
  have t3n : gr M (gr M g₀ 0) 3 ≠ 0 := by omega
  have t3k : kd M (gr M (gr M g₀ 0) 3) = 8 := by rw [t3₀]; exact kht
  have t3l : ln M (gr M (gr M g₀ 0) 3) = 12 := by rw [t3₀]; exact lht
  have t4₀ : gr M (gr M g₀ 0) 4 = t₀ + 2 := by rw [g0]; exact s4₀
  have t4n : gr M (gr M g₀ 0) 4 ≠ 0 := by omega
  have t4k : kd M (gr M (gr M g₀ 0) 4) = 8 := by rw [t4₀]; exact kwt
  have t4l : ln M (gr M (gr M g₀ 0) 4) = 10 := by rw [t4₀]; exact lwt
  have u5 : gr M (gr M g₀ 1) 5 = u₀ + 3 := by rw [g1]; exact r5₀
  have u5n : gr M (gr M g₀ 1) 5 ≠ 0 := by omega
  have u5k : kd M (gr M (gr M g₀ 1) 5) = 4 := by rw [u5]; exact kcu
  have u3 : gr M (gr M g₀ 1) 3 = u₀ + 1 := by rw [g1]; exact r3
  have u3n : gr M (gr M g₀ 1) 3 ≠ 0 := by omega
  have u3k : kd M (gr M (gr M g₀ 1) 3) = 8 := by rw [u3]; exact khu
  have u3l : ln M (gr M (gr M g₀ 1) 3) = 12 := by rw [u3]; exact lhu
  have u4₀ : gr M (gr M g₀ 1) 4 = u₀ + 2 := by rw [g1]; exact r4
  have u4n : gr M (gr M g₀ 1) 4 ≠ 0 := by omega
  have u4k : kd M (gr M (gr M g₀ 1) 4) = 8 := by rw [u4₀]; exact kwu
  have u4l : ln M (gr M (gr M g₀ 1) 4) = 10 := by rw [u4₀]; exact lwu
  have e0₀ : gi M (gr M g₀ 0) 0 = gi M t₀ 0 := by rw [g0]
  have e1₀ : gi M (gr M g₀ 0) 1 = gi M t₀ 1 := by rw [g0]
  have e2₀ : gi M (gr M g₀ 0) 2 = gi M t₀ 2 := by rw [g0]
  have c1₀ := @cX5_checkRow0 D l hl M g₀ t₀ x₀ K9.1.1 hx
  have c2₀ := @cX5_checkRow0 D l hl M g₀ t₀ y₀ K9.1.1 hy
  have c3₀ := @cX4_isInHeader D l hl M t₀ x₀ kt
  have c4₀ := @cX4_isInHeader D l hl M t₀ y₀ kt
  by_cases hh : x₀ < gi M t₀ 2 ↔ y₀ < gi M t₀ 2
  · have ht := h₀.resolve_left (fun w₀ => w₀ hh)
    have tl := K9.2.2.2.1.1
    have c5₀ := @cX3_tallP D l hl M (t₀ + 3) (min x₀ y₀) (max x₀ y₀) tl.2.1 (mh_tl_sm tl)
    rw [mh_pr1 ht] at c5₀
    clear K9 tl h₀ ht
    refine hK₀ _ _ _ _ _ ?_
    (repeat' (((conv => whnf); first | (show (_ : Option mg_V) = _ ∧ _; assumption) | (show K _ _ _ _ _; assumption) | (show mm_th _ _ _ _; assumption) | refine And.intro (by first | assumption | omega | (simp only [true_and]; first | done | assumption | omega)) ?_ | (refine And.intro (fun _ => ?_) (fun _ => ?_) <;> first | (exfalso; omega) | skip) | intro _ | fail)))
    all_goals (try ((conv => whnf); (refine Exists.intro _ (Exists.intro _ (And.intro (c1₀) (And.intro ?_ (fun _ _ h₀ => h₀.elim)))); rintro _ _ ⟨rfl, e₀⟩; have e2₀ := e₀.symm; clear e₀; subst e2₀); (repeat' (((conv => whnf); first | (show (_ : Option mg_V) = _ ∧ _; assumption) | (show K _ _ _ _ _; assumption) | (show mm_th _ _ _ _; assumption) | refine And.intro (by first | assumption | omega | (simp only [true_and]; first | done | assumption | omega)) ?_ | (refine And.intro (fun _ => ?_) (fun _ => ?_) <;> first | (exfalso; omega) | skip) | intro _ | fail)))))
    all_goals (try ((conv => whnf); (refine Exists.intro _ (Exists.intro _ (And.intro (c2₀) (And.intro ?_ (fun _ _ h₀ => h₀.elim)))); rintro _ _ ⟨rfl, e₀⟩; have e2₀ := e₀.symm; clear e₀; subst e2₀); (repeat' (((conv => whnf); first | (show (_ : Option mg_V) = _ ∧ _; assumption) | (show K _ _ _ _ _; assumption) | (show mm_th _ _ _ _; assumption) | refine And.intro (by first | assumption | omega | (simp only [true_and]; first | done | assumption | omega)) ?_ | (refine And.intro (fun _ => ?_) (fun _ => ?_) <;> first | (exfalso; omega) | skip) | intro _ | fail)))))
    all_goals ((conv => whnf); (try rw [g0]); (try rw [g1]); (try rw [s5]); (try rw [s3₀]); (try rw [s4₀]); (try rw [r5₀]); (try rw [g3₀]); (try rw [g4]); (try rw [g5₀]))
    (refine Exists.intro _ (Exists.intro _ (And.intro (c3₀) (And.intro ?_ (fun _ _ h₀ => h₀.elim)))); rintro _ _ ⟨rfl, e₀⟩; have e2₀ := e₀.symm; clear e₀; subst e2₀)
    (repeat' (((conv => whnf); first | (show (_ : Option mg_V) = _ ∧ _; assumption) | (show K _ _ _ _ _; assumption) | (show mm_th _ _ _ _; assumption) | refine And.intro (by first | assumption | omega | (simp only [true_and]; first | done | assumption | omega)) ?_ | (refine And.intro (fun _ => ?_) (fun _ => ?_) <;> first | (exfalso; omega) | skip) | intro _ | fail)))
    all_goals ((conv => whnf); (try rw [g0]); (try rw [g1]); (try rw [s5]); (try rw [s3₀]); (try rw [s4₀]); (try rw [r5₀]); (try rw [g3₀]); (try rw [g4]); (try rw [g5₀]))
    (refine Exists.intro _ (Exists.intro _ (And.intro (c4₀) (And.intro ?_ (fun _ _ h₀ => h₀.elim)))); rintro _ _ ⟨rfl, e₀⟩; have e2₀ := e₀.symm; clear e₀; subst e2₀)
    (repeat' (((conv => whnf); first | (show (_ : Option mg_V) = _ ∧ _; assumption) | (show K _ _ _ _ _; assumption) | (show mm_th _ _ _ _; assumption) | refine And.intro (by first | assumption | omega | (simp only [true_and]; first | done | assumption | omega)) ?_ | (refine And.intro (fun _ => ?_) (fun _ => ?_) <;> first | (exfalso; omega) | skip) | intro _ | fail)))
    all_goals (first | (exfalso; (repeat' split at *) <;> omega) | skip)
    all_goals ((conv => whnf); (try rw [g0]); (try rw [g1]); (try rw [s5]); (try rw [s3₀]); (try rw [s4₀]); (try rw [r5₀]); (try rw [g3₀]); (try rw [g4]); (try rw [g5₀]))
    (refine Exists.intro _ (Exists.intro _ (And.intro (c5₀) (And.intro ?_ (fun _ _ h₀ => h₀.elim)))); rintro _ _ ⟨rfl, e₀⟩; have e2₀ := e₀.symm; clear e₀; subst e2₀)
    (repeat' (((conv => whnf); first | (show (_ : Option mg_V) = _ ∧ _; assumption) | (show K _ _ _ _ _; assumption) | (show mm_th _ _ _ _; assumption) | refine And.intro (by first | assumption | omega | (simp only [true_and]; first | done | assumption | omega)) ?_ | (refine And.intro (fun _ => ?_) (fun _ => ?_) <;> first | (exfalso; omega) | skip) | intro _ | fail)))
    all_goals (first | exact ⟨_, by assumption, rfl⟩ | exact ⟨rfl, _, by assumption, rfl⟩)
  · clear K9 h₀
    refine hK₀ _ _ _ _ _ ?_
    (repeat' (((conv => whnf); first | (show (_ : Option mg_V) = _ ∧ _; assumption) | (show K _ _ _ _ _; assumption) | (show mm_th _ _ _ _; assumption) | refine And.intro (by first | assumption | omega | (simp only [true_and]; first | done | assumption | omega)) ?_ | (refine And.intro (fun _ => ?_) (fun _ => ?_) <;> first | (exfalso; omega) | skip) | intro _ | fail)))
    all_goals (try ((conv => whnf); (refine Exists.intro _ (Exists.intro _ (And.intro (c1₀) (And.intro ?_ (fun _ _ h₀ => h₀.elim)))); rintro _ _ ⟨rfl, e₀⟩; have e2₀ := e₀.symm; clear e₀; subst e2₀); (repeat' (((conv => whnf); first | (show (_ : Option mg_V) = _ ∧ _; assumption) | (show K _ _ _ _ _; assumption) | (show mm_th _ _ _ _; assumption) | refine And.intro (by first | assumption | omega | (simp only [true_and]; first | done | assumption | omega)) ?_ | (refine And.intro (fun _ => ?_) (fun _ => ?_) <;> first | (exfalso; omega) | skip) | intro _ | fail)))))
    all_goals (try ((conv => whnf); (refine Exists.intro _ (Exists.intro _ (And.intro (c2₀) (And.intro ?_ (fun _ _ h₀ => h₀.elim)))); rintro _ _ ⟨rfl, e₀⟩; have e2₀ := e₀.symm; clear e₀; subst e2₀); (repeat' (((conv => whnf); first | (show (_ : Option mg_V) = _ ∧ _; assumption) | (show K _ _ _ _ _; assumption) | (show mm_th _ _ _ _; assumption) | refine And.intro (by first | assumption | omega | (simp only [true_and]; first | done | assumption | omega)) ?_ | (refine And.intro (fun _ => ?_) (fun _ => ?_) <;> first | (exfalso; omega) | skip) | intro _ | fail)))))
    all_goals ((conv => whnf); (try rw [g0]); (try rw [g1]); (try rw [s5]); (try rw [s3₀]); (try rw [s4₀]); (try rw [r5₀]); (try rw [g3₀]); (try rw [g4]); (try rw [g5₀]))
    (refine Exists.intro _ (Exists.intro _ (And.intro (c3₀) (And.intro ?_ (fun _ _ h₀ => h₀.elim)))); rintro _ _ ⟨rfl, e₀⟩; have e2₀ := e₀.symm; clear e₀; subst e2₀)
    (repeat' (((conv => whnf); first | (show (_ : Option mg_V) = _ ∧ _; assumption) | (show K _ _ _ _ _; assumption) | (show mm_th _ _ _ _; assumption) | refine And.intro (by first | assumption | omega | (simp only [true_and]; first | done | assumption | omega)) ?_ | (refine And.intro (fun _ => ?_) (fun _ => ?_) <;> first | (exfalso; omega) | skip) | intro _ | fail)))
    all_goals ((conv => whnf); (try rw [g0]); (try rw [g1]); (try rw [s5]); (try rw [s3₀]); (try rw [s4₀]); (try rw [r5₀]); (try rw [g3₀]); (try rw [g4]); (try rw [g5₀]))
    (refine Exists.intro _ (Exists.intro _ (And.intro (c4₀) (And.intro ?_ (fun _ _ h₀ => h₀.elim)))); rintro _ _ ⟨rfl, e₀⟩; have e2₀ := e₀.symm; clear e₀; subst e2₀)
    (repeat' (((conv => whnf); first | (show (_ : Option mg_V) = _ ∧ _; assumption) | (show K _ _ _ _ _; assumption) | (show mm_th _ _ _ _; assumption) | refine And.intro (by first | assumption | omega | (simp only [true_and]; first | done | assumption | omega)) ?_ | (refine And.intro (fun _ => ?_) (fun _ => ?_) <;> first | (exfalso; omega) | skip) | intro _ | fail)))
    all_goals (first | exact ⟨_, by assumption, rfl⟩ | (exfalso; (repeat' split at *) <;> omega))
set_option maxRecDepth 100000 in
theorem cX5_sort1 {D : mg_D} {l : Launch} (hl : l.stackTraces = false) {M : mg_M} {g₀ t₀ u₀ : Nat} {x₀ y₀ : Int} (K9 : mh_K M g₀ t₀ u₀) (h₀ : ¬ (0 ≤ x₀ ∧ x₀ < gi M t₀ 1)) : mg_Mt D l 100 [.inr (.inl g₀), .inl x₀, .inl y₀] M mh_nN (mh_tX 1 M) := by
  refine mg_of2 hl ok_X5_sort al_X5_sort rfl (fun K hK₀ => ?_)
  have F9 := mh_gF_of K9
  obtain ⟨⟨k6₀, g0, g1, g3₀, g4, g5₀⟩, ⟨kt, s5, s3₀, s4₀, kct, ⟨kht, lht⟩, ⟨kwt, lwt⟩⟩, ⟨ku, r5₀, r3, r4, kcu, ⟨khu, lhu⟩, ⟨kwu, lwu⟩⟩, ⟨ka, kb, kk, kg, kbc⟩, pl⟩ := F9
  have g0n : gr M g₀ 0 ≠ 0 := by omega
  have g0k : kd M (gr M g₀ 0) = 5 := by rw [g0]; exact kt
  have g1n : gr M g₀ 1 ≠ 0 := by omega
  have g1k : kd M (gr M g₀ 1) = 5 := by rw [g1]; exact ku
  have g3n : gr M g₀ 3 ≠ 0 := by omega
  have g3k : kd M (gr M g₀ 3) = 1 := by rw [g3₀]; exact ka
  have g4n : gr M g₀ 4 ≠ 0 := by omega
  have g4k : kd M (gr M g₀ 4) = 1 := by rw [g4]; exact kb
  have g5n : gr M g₀ 5 ≠ 0 := by omega
  have g5k : kd M (gr M g₀ 5) = 2 := by rw [g5₀]; exact kk
  have t5₀ : gr M (gr M g₀ 0) 5 = t₀ + 3 := by rw [g0]; exact s5
  have t5n : gr M (gr M g₀ 0) 5 ≠ 0 := by omega
  have t5k : kd M (gr M (gr M g₀ 0) 5) = 4 := by rw [t5₀]; exact kct
  have t3₀ : gr M (gr M g₀ 0) 3 = t₀ + 1 := by rw [g0]; exact s3₀
  have t3n : gr M (gr M g₀ 0) 3 ≠ 0 := by omega
  have t3k : kd M (gr M (gr M g₀ 0) 3) = 8 := by rw [t3₀]; exact kht
  have t3l : ln M (gr M (gr M g₀ 0) 3) = 12 := by rw [t3₀]; exact lht
  have t4₀ : gr M (gr M g₀ 0) 4 = t₀ + 2 := by rw [g0]; exact s4₀
  have t4n : gr M (gr M g₀ 0) 4 ≠ 0 := by omega
  have t4k : kd M (gr M (gr M g₀ 0) 4) = 8 := by rw [t4₀]; exact kwt
  have t4l : ln M (gr M (gr M g₀ 0) 4) = 10 := by rw [t4₀]; exact lwt
  have u5 : gr M (gr M g₀ 1) 5 = u₀ + 3 := by rw [g1]; exact r5₀
  have u5n : gr M (gr M g₀ 1) 5 ≠ 0 := by omega
  have u5k : kd M (gr M (gr M g₀ 1) 5) = 4 := by rw [u5]; exact kcu
  have u3 : gr M (gr M g₀ 1) 3 = u₀ + 1 := by rw [g1]; exact r3
  have u3n : gr M (gr M g₀ 1) 3 ≠ 0 := by omega
  have u3k : kd M (gr M (gr M g₀ 1) 3) = 8 := by rw [u3]; exact khu
  have u3l : ln M (gr M (gr M g₀ 1) 3) = 12 := by rw [u3]; exact lhu
  have u4₀ : gr M (gr M g₀ 1) 4 = u₀ + 2 := by rw [g1]; exact r4
  have u4n : gr M (gr M g₀ 1) 4 ≠ 0 := by omega
  have u4k : kd M (gr M (gr M g₀ 1) 4) = 8 := by rw [u4₀]; exact kwu
  have u4l : ln M (gr M (gr M g₀ 1) 4) = 10 := by rw [u4₀]; exact lwu
  have e0₀ : gi M (gr M g₀ 0) 0 = gi M t₀ 0 := by rw [g0]
  have e1₀ : gi M (gr M g₀ 0) 1 = gi M t₀ 1 := by rw [g0]
  have e2₀ : gi M (gr M g₀ 0) 2 = gi M t₀ 2 := by rw [g0]
  have c1₀ := @cX5_checkColumn1 D l hl M g₀ t₀ x₀ K9.1.1 h₀
  clear K9
  refine hK₀ _ _ _ _ _ ?_
  (repeat' (((conv => whnf); first | (show (_ : Option mg_V) = _ ∧ _; assumption) | (show K _ _ _ _ _; assumption) | (show mm_th _ _ _ _; assumption) | refine And.intro (by first | assumption | omega | (simp only [true_and]; first | done | assumption | omega)) ?_ | (refine And.intro (fun _ => ?_) (fun _ => ?_) <;> first | (exfalso; omega) | skip) | intro _ | fail)))
  all_goals ((conv => whnf); skip)
  (refine Exists.intro _ (Exists.intro _ (And.intro (c1₀) (And.intro (fun _ _ h₀ => h₀.elim) ?_))); rintro _ _ ⟨rfl, n9, hn9, rfl⟩; (conv => whnf); first | exact ⟨rfl, n9, hn9, rfl⟩ | exact ⟨n9, hn9, rfl⟩)
set_option maxRecDepth 100000 in
theorem cX5_sort2 {D : mg_D} {l : Launch} (hl : l.stackTraces = false) {M : mg_M} {g₀ t₀ u₀ : Nat} {x₀ y₀ : Int} (K9 : mh_K M g₀ t₀ u₀) (h₀ : 0 ≤ x₀ ∧ x₀ < gi M t₀ 1) (ht : ∃ i₀ : Nat, (i₀ : Int) < gi M (t₀ + 3) 0 ∧ 1 < gi M (gr M (t₀ + 3 + 1) i₀) 2 ∧ gi M (gr M (t₀ + 3 + 1) i₀) 0 ≤ gi M t₀ 0 - 1 ∧ gi M t₀ 2 ≤ gi M (gr M (t₀ + 3 + 1) i₀) 0 + gi M (gr M (t₀ + 3 + 1) i₀) 2 - 1) : mg_Mt D l 100 [.inr (.inl g₀), .inl x₀, .inl y₀] M mh_nN (mh_tX 4 M) := by
  refine mg_of2 hl ok_X5_sort al_X5_sort rfl (fun K hK₀ => ?_)
  have F9 := mh_gF_of K9
  obtain ⟨⟨k6₀, g0, g1, g3₀, g4, g5₀⟩, ⟨kt, s5, s3₀, s4₀, kct, ⟨kht, lht⟩, ⟨kwt, lwt⟩⟩, ⟨ku, r5₀, r3, r4, kcu, ⟨khu, lhu⟩, ⟨kwu, lwu⟩⟩, ⟨ka, kb, kk, kg, kbc⟩, pl⟩ := F9
  have g0n : gr M g₀ 0 ≠ 0 := by omega
  have g0k : kd M (gr M g₀ 0) = 5 := by rw [g0]; exact kt
  have g1n : gr M g₀ 1 ≠ 0 := by omega
  have g1k : kd M (gr M g₀ 1) = 5 := by rw [g1]; exact ku
  have g3n : gr M g₀ 3 ≠ 0 := by omega
  have g3k : kd M (gr M g₀ 3) = 1 := by rw [g3₀]; exact ka
  have g4n : gr M g₀ 4 ≠ 0 := by omega
  have g4k : kd M (gr M g₀ 4) = 1 := by rw [g4]; exact kb
  have g5n : gr M g₀ 5 ≠ 0 := by omega
  have g5k : kd M (gr M g₀ 5) = 2 := by rw [g5₀]; exact kk
  have t5₀ : gr M (gr M g₀ 0) 5 = t₀ + 3 := by rw [g0]; exact s5
  have t5n : gr M (gr M g₀ 0) 5 ≠ 0 := by omega
  have t5k : kd M (gr M (gr M g₀ 0) 5) = 4 := by rw [t5₀]; exact kct
  have t3₀ : gr M (gr M g₀ 0) 3 = t₀ + 1 := by rw [g0]; exact s3₀
  have t3n : gr M (gr M g₀ 0) 3 ≠ 0 := by omega
  have t3k : kd M (gr M (gr M g₀ 0) 3) = 8 := by rw [t3₀]; exact kht
  have t3l : ln M (gr M (gr M g₀ 0) 3) = 12 := by rw [t3₀]; exact lht
  have t4₀ : gr M (gr M g₀ 0) 4 = t₀ + 2 := by rw [g0]; exact s4₀
  have t4n : gr M (gr M g₀ 0) 4 ≠ 0 := by omega
  have t4k : kd M (gr M (gr M g₀ 0) 4) = 8 := by rw [t4₀]; exact kwt
  have t4l : ln M (gr M (gr M g₀ 0) 4) = 10 := by rw [t4₀]; exact lwt
  have u5 : gr M (gr M g₀ 1) 5 = u₀ + 3 := by rw [g1]; exact r5₀
  have u5n : gr M (gr M g₀ 1) 5 ≠ 0 := by omega
  have u5k : kd M (gr M (gr M g₀ 1) 5) = 4 := by rw [u5]; exact kcu
  have u3 : gr M (gr M g₀ 1) 3 = u₀ + 1 := by rw [g1]; exact r3
  have u3n : gr M (gr M g₀ 1) 3 ≠ 0 := by omega
  have u3k : kd M (gr M (gr M g₀ 1) 3) = 8 := by rw [u3]; exact khu
  have u3l : ln M (gr M (gr M g₀ 1) 3) = 12 := by rw [u3]; exact lhu
  have u4₀ : gr M (gr M g₀ 1) 4 = u₀ + 2 := by rw [g1]; exact r4
  have u4n : gr M (gr M g₀ 1) 4 ≠ 0 := by omega
  have u4k : kd M (gr M (gr M g₀ 1) 4) = 8 := by rw [u4₀]; exact kwu
  have u4l : ln M (gr M (gr M g₀ 1) 4) = 10 := by rw [u4₀]; exact lwu
  have e0₀ : gi M (gr M g₀ 0) 0 = gi M t₀ 0 := by rw [g0]
  have e1₀ : gi M (gr M g₀ 0) 1 = gi M t₀ 1 := by rw [g0]
  have e2₀ : gi M (gr M g₀ 0) 2 = gi M t₀ 2 := by rw [g0]
  have c1₀ := @cX5_checkColumn0 D l hl M g₀ t₀ x₀ K9.1.1 h₀
  have rb := K9.2.2.2.2.2
  have tl := K9.2.2.2.1.1
  have bb := tl.1.2.2
  have c5₀ := @cX3_tallP D l hl M (t₀ + 3) (gi M t₀ 2) (gi M t₀ 0 - 1) tl.2.1 (mh_tl_sm tl)
  rw [mh_pr1 ht] at c5₀
  clear K9 tl ht
  refine hK₀ _ _ _ _ _ ?_
  (repeat' (((conv => whnf); first | (show (_ : Option mg_V) = _ ∧ _; assumption) | (show K _ _ _ _ _; assumption) | (show mm_th _ _ _ _; assumption) | refine And.intro (by first | assumption | omega | (simp only [true_and]; first | done | assumption | omega)) ?_ | (refine And.intro (fun _ => ?_) (fun _ => ?_) <;> first | (exfalso; omega) | skip) | intro _ | fail)))
  all_goals (try ((conv => whnf); (refine Exists.intro _ (Exists.intro _ (And.intro (c1₀) (And.intro ?_ (fun _ _ h₀ => h₀.elim)))); rintro _ _ ⟨rfl, e₀⟩; have e2₀ := e₀.symm; clear e₀; subst e2₀); (repeat' (((conv => whnf); first | (show (_ : Option mg_V) = _ ∧ _; assumption) | (show K _ _ _ _ _; assumption) | (show mm_th _ _ _ _; assumption) | refine And.intro (by first | assumption | omega | (simp only [true_and]; first | done | assumption | omega)) ?_ | (refine And.intro (fun _ => ?_) (fun _ => ?_) <;> first | (exfalso; omega) | skip) | intro _ | fail)))))
  all_goals ((conv => whnf); (try rw [g0]); (try rw [g1]); (try rw [s5]); (try rw [s3₀]); (try rw [s4₀]); (try rw [r5₀]); (try rw [g3₀]); (try rw [g4]); (try rw [g5₀]))
  (refine Exists.intro _ (Exists.intro _ (And.intro (c5₀) (And.intro ?_ (fun _ _ h₀ => h₀.elim)))); rintro _ _ ⟨rfl, e₀⟩; have e2₀ := e₀.symm; clear e₀; subst e2₀)
  (repeat' (((conv => whnf); first | (show (_ : Option mg_V) = _ ∧ _; assumption) | (show K _ _ _ _ _; assumption) | (show mm_th _ _ _ _; assumption) | refine And.intro (by first | assumption | omega | (simp only [true_and]; first | done | assumption | omega)) ?_ | (refine And.intro (fun _ => ?_) (fun _ => ?_) <;> first | (exfalso; omega) | skip) | intro _ | fail)))
  all_goals (first | exact ⟨_, by assumption, rfl⟩ | exact ⟨rfl, _, by assumption, rfl⟩)
