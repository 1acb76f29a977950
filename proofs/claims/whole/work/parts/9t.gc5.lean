/-! MergeGrid's changes₀ of single values₀, takeBack, copy₀ -/
/-- the cells₀ within₀ the area at b₀ have the value₀ x₀ at the field₀ f₀ -/
def mh_ce (M N : mg_M) (t₀ b₀ f₀ : Nat) (x₀ : Int) : Prop := mm_f (fun a₀ k₀ => (t₀ + 6 ≤ a₀ ∧ a₀ < t₀ + 126) ∧ k₀ = f₀) M N ∧ ∀ i₀ : Nat, (i₀ : Int) < gi M (t₀ + 3) 0 → gi N (gr M (t₀ + 3 + 1) i₀) f₀ = if mh_in M (gr M (t₀ + 3 + 1) i₀) b₀ = true then x₀ else gi M (gr M (t₀ + 3 + 1) i₀) f₀
theorem mh_pa_ce {M : mg_M} {t₀ b₀ : Nat} {x₀ : Int} (cl₀ : mg_cL M (t₀ + 3)) (n₀ : Nat) (hn : n₀ ≤ 120) : mm_f (fun a₀ k₀ => (t₀ + 6 ≤ a₀ ∧ a₀ < t₀ + 126) ∧ k₀ = 5) M (mh_pa (t₀ + 3) b₀ x₀ M n₀) ∧ (∀ i₀ : Nat, i₀ < 120 → gi (mh_pa (t₀ + 3) b₀ x₀ M n₀) (gr M (t₀ + 3 + 1) i₀) 5 = if i₀ < n₀ ∧ mh_in M (gr M (t₀ + 3 + 1) i₀) b₀ = true then x₀ else gi M (gr M (t₀ + 3 + 1) i₀) 5) ∧ mh_pc (t₀ + 3) b₀ x₀ M n₀ = mh_sum (fun i₀ => if mh_in M (gr M (t₀ + 3 + 1) i₀) b₀ = true ∧ gi M (gr M (t₀ + 3 + 1) i₀) 5 ≠ x₀ then (1 : Int) else 0) n₀ := by
  have ca := cl₀.2.2.2.2.2.2.2.1
  have ci := cl₀.2.2.2.2.2.2.2.2
  induction n₀ with
  | zero => exact ⟨mm_f_rfl, fun i₀ _ => by rw [if_neg (by omega)]; rfl, rfl⟩
  | succ n₀ ih₀ =>
    obtain ⟨h1, h2, h3⟩ := ih₀ (by omega)
    have a₀ := ca n₀ (by omega)
    have v₀ := h2 n₀ (by omega)
    rw [if_neg (by omega)] at v₀
    have st₀ : ∀ i₀ : Nat, i₀ < 120 → i₀ ≠ n₀ → (i₀ < n₀ + 1 ∧ mh_in M (gr M (t₀ + 3 + 1) i₀) b₀ = true ↔ i₀ < n₀ ∧ mh_in M (gr M (t₀ + 3 + 1) i₀) b₀ = true) := fun i₀ _ hi => ⟨fun w₀ => ⟨by omega, w₀.2⟩, fun w₀ => ⟨by omega, w₀.2⟩⟩
    unfold mh_pa mh_pc
    rw [h3, v₀]
    cases hin : mh_in M (gr M (t₀ + 3 + 1) n₀) b₀ with
    | false =>
      have e₀ : mh_bi false = 0 := rfl
      rw [if_pos e₀, if_pos e₀]
      refine ⟨h1, fun i₀ hi => ?_, ?_⟩
      · by_cases y₀ : i₀ = n₀
        · rw [y₀, v₀, if_neg (fun w₀ => by rw [hin] at w₀; exact Bool.noConfusion w₀.2)]
        · rw [h2 i₀ hi]
          simp only [st₀ i₀ hi y₀]
      · show _ = mh_sum _ n₀ + (if mh_in M (gr M (t₀ + 3 + 1) n₀) b₀ = true ∧ _ then (1 : Int) else 0)
        rw [if_neg (fun w₀ => by rw [hin] at w₀; exact Bool.noConfusion w₀.1)]
        omega
    | true =>
      have e₀ : ¬ mh_bi true = 0 := by decide
      rw [if_neg e₀, if_neg e₀]
      by_cases c₀ : gi M (gr M (t₀ + 3 + 1) n₀) 5 = x₀
      · rw [if_pos c₀, if_pos c₀]
        refine ⟨h1, fun i₀ hi => ?_, ?_⟩
        · by_cases y₀ : i₀ = n₀
          · rw [y₀, v₀, if_pos ⟨by omega, hin⟩]; exact c₀
          · rw [h2 i₀ hi]
            simp only [st₀ i₀ hi y₀]
        · show _ = mh_sum _ n₀ + (if mh_in M (gr M (t₀ + 3 + 1) n₀) b₀ = true ∧ _ then (1 : Int) else 0)
          rw [if_neg (fun w₀ => w₀.2 c₀)]
          omega
      · rw [if_neg c₀, if_neg c₀]
        refine ⟨mm_f_si h1 (by omega), fun i₀ hi => ?_, ?_⟩
        · by_cases y₀ : i₀ = n₀
          · rw [y₀, gi_si, if_pos ⟨rfl, rfl⟩, if_pos ⟨by omega, hin⟩]
          · rw [gi_si, if_neg (fun w₀ => y₀ (ci i₀ n₀ hi (by omega) w₀.1)), h2 i₀ hi]
            simp only [st₀ i₀ hi y₀]
        · show _ = mh_sum _ n₀ + (if mh_in M (gr M (t₀ + 3 + 1) n₀) b₀ = true ∧ _ then (1 : Int) else 0)
          rw [if_pos ⟨hin, c₀⟩]
theorem mh_em_ce {M : mg_M} {t₀ b₀ : Nat} (cl₀ : mg_cL M (t₀ + 3)) (n₀ : Nat) (hn : n₀ ≤ 120) : mm_f (fun a₀ k₀ => (t₀ + 6 ≤ a₀ ∧ a₀ < t₀ + 126) ∧ k₀ = 4) M (mh_em (t₀ + 3) b₀ M n₀) ∧ (∀ i₀ : Nat, i₀ < 120 → gi (mh_em (t₀ + 3) b₀ M n₀) (gr M (t₀ + 3 + 1) i₀) 4 = if i₀ < n₀ ∧ mh_in M (gr M (t₀ + 3 + 1) i₀) b₀ = true then 0 else gi M (gr M (t₀ + 3 + 1) i₀) 4) := by
  have ca := cl₀.2.2.2.2.2.2.2.1
  have ci := cl₀.2.2.2.2.2.2.2.2
  induction n₀ with
  | zero => exact ⟨mm_f_rfl, fun i₀ _ => by rw [if_neg (by omega)]; rfl⟩
  | succ n₀ ih₀ =>
    obtain ⟨h1, h2⟩ := ih₀ (by omega)
    have a₀ := ca n₀ (by omega)
    have v₀ := h2 n₀ (by omega)
    rw [if_neg (by omega)] at v₀
    have st₀ : ∀ i₀ : Nat, i₀ < 120 → i₀ ≠ n₀ → (i₀ < n₀ + 1 ∧ mh_in M (gr M (t₀ + 3 + 1) i₀) b₀ = true ↔ i₀ < n₀ ∧ mh_in M (gr M (t₀ + 3 + 1) i₀) b₀ = true) := fun i₀ _ hi => ⟨fun w₀ => ⟨by omega, w₀.2⟩, fun w₀ => ⟨by omega, w₀.2⟩⟩
    show mm_f _ M (bif mh_in M (gr M (t₀ + 3 + 1) n₀) b₀ then si (mh_em (t₀ + 3) b₀ M n₀) (gr M (t₀ + 3 + 1) n₀) 4 0 else mh_em (t₀ + 3) b₀ M n₀) ∧ ∀ i₀ : Nat, i₀ < 120 → gi (bif mh_in M (gr M (t₀ + 3 + 1) n₀) b₀ then si (mh_em (t₀ + 3) b₀ M n₀) (gr M (t₀ + 3 + 1) n₀) 4 0 else mh_em (t₀ + 3) b₀ M n₀) (gr M (t₀ + 3 + 1) i₀) 4 = _
    cases hin : mh_in M (gr M (t₀ + 3 + 1) n₀) b₀ with
    | false =>
      simp only [cond_false]
      refine ⟨h1, fun i₀ hi => ?_⟩
      by_cases y₀ : i₀ = n₀
      · rw [y₀, v₀, if_neg (fun w₀ => by rw [hin] at w₀; exact Bool.noConfusion w₀.2)]
      · rw [h2 i₀ hi]
        simp only [st₀ i₀ hi y₀]
    | true =>
      simp only [cond_true]
      refine ⟨mm_f_si h1 (by omega), fun i₀ hi => ?_⟩
      by_cases y₀ : i₀ = n₀
      · rw [y₀, gi_si, if_pos ⟨rfl, rfl⟩, if_pos ⟨by omega, hin⟩]
      · rw [gi_si, if_neg (fun w₀ => y₀ (ci i₀ n₀ hi (by omega) w₀.1)), h2 i₀ hi]
        simp only [st₀ i₀ hi y₀]
theorem mh_eq_in {M N : mg_M} {t₀ b₀ i₀ : Nat} (e₀ : mh_eq M N t₀) (eb : ∀ k₀, gi N b₀ k₀ = gi M b₀ k₀) (cl₀ : mg_cL M (t₀ + 3)) (hi : i₀ < 120) : mh_in N (gr N (t₀ + 3 + 1) i₀) b₀ = mh_in M (gr M (t₀ + 3 + 1) i₀) b₀ := by
  obtain ⟨x1₀, x2₀⟩ := mh_eq_cells e₀ cl₀ hi
  unfold mh_in
  rw [x1₀]
  simp only [x2₀, eb]
/-- what stands in the old₀ table₀ behind₀ remember -/
theorem mh_rmb_u {M N : mg_M} {g₀ t₀ u₀ : Nat} (r₀ : mh_rmb M N g₀ t₀ u₀) (hu : u₀ = g₀ + 1 ∨ u₀ = g₀ + 130) : (∀ k₀ : Nat, k₀ < 3 → gi N u₀ k₀ = gi M t₀ k₀) ∧ (∀ k₀ : Nat, k₀ < 12 → gi N (u₀ + 1) k₀ = gi M (t₀ + 1) k₀) ∧ (∀ k₀ : Nat, k₀ < 10 → gi N (u₀ + 2) k₀ = gi M (t₀ + 2) k₀) ∧ gi N (u₀ + 3) 0 = gi M (t₀ + 3) 0 := by
  obtain ⟨P, ⟨f₀, ⟨s0₀, s1₀, s2₀⟩, h1, h2, h3, h4, h5⟩, rfl⟩ := r₀
  refine ⟨fun k₀ hk => ?_, fun k₀ hk => ?_, fun k₀ hk => ?_, ?_⟩
  · rw [gi_si, if_neg (by omega)]
    rcases (by omega : k₀ = 0 ∨ k₀ = 1 ∨ k₀ = 2) with x₀ | x₀ | x₀ <;> rw [x₀] <;> assumption
  · rw [gi_si, if_neg (by omega)]; exact h1 k₀ hk
  · rw [gi_si, if_neg (by omega)]; exact h2 k₀ hk
  · rw [gi_si, if_neg (by omega)]; exact h4
set_option maxRecDepth 100000 in
theorem cX5_setContent0 {D : mg_D} {l : Launch} (hl : l.stackTraces = false) {M : mg_M} {g₀ t₀ u₀ : Nat} {r₀ c₀ x₀ : Int} (K9 : mh_K M g₀ t₀ u₀) (h₀ : mh_rg (gi M t₀ 0) (gi M t₀ 1) r₀ c₀) (hx : 0 ≤ x₀ ∧ x₀ ≤ 999) : mg_Mt D l 87 [.inr (.inl g₀), .inl r₀, .inl c₀, .inl x₀] M (fun v₀ N => v₀ = some (.inl (gi M (mh_co M t₀ r₀ c₀) 4)) ∧ ∃ N1, mh_rmb M N1 g₀ t₀ u₀ ∧ N = si N1 (mh_co M t₀ r₀ c₀) 4 x₀) mg_no := by
  refine mg_of2 hl ok_X5_setContent al_X5_setContent rfl (fun K hK₀ => ?_)
  have F9 := mh_gF_of K9
  have K0 := K9
  obtain ⟨⟨G, w1₀, w3₀, w4₀, w5⟩, _, wpl, ⟨tl, nb⟩, ⟨tbu, clu⟩, rb⟩ := K0
  have RM₀ := @cX5_remember D l hl M g₀ t₀ u₀ G w1₀ (by omega) tl.1 tbu tl.2.1 clu (by omega)
  have bb := tl.1.2.2
  have G0' := G
  have tlM := tl
  have nbM := nb
  have ck := @cX5_checkSquare0 D l hl M g₀ t₀ r₀ c₀ G h₀
  have sm₀ := (mh_co_sm tl nb h₀.1 h₀.2).1
  obtain ⟨⟨k6₀, g0, g1, g3₀, g4, g5₀⟩, ⟨kt, s5, s3₀, s4₀, kct, ⟨kht, lht⟩, ⟨kwt, lwt⟩⟩, ⟨ku, r5₀, r3, r4, kcu, ⟨khu, lhu⟩, ⟨kwu, lwu⟩⟩, ⟨ka, kb, kk, kg, kbc⟩, pl⟩ := F9
  have g0n : gr M g₀ 0 ≠ 0 := by omega
  have g0k : kd M (gr M g₀ 0) = 5 := by rw [g0]; exact kt
  have g1n : gr M g₀ 1 ≠ 0 := by omega
  have g1k : kd M (gr M g₀ 1) = 5 := by rw [g1]; exact ku
  have g3n : gr M g₀ 3 ≠ 0 := by omega
  have g3k : kd M (gr M g₀ 3) = 1 := by rw [g3₀]; exact ka
  have g4n : gr M g₀ 4 ≠ 0 := by omega
  have g4k : kd M (gr M g₀ 4) = 1 := by rw [g4]; exact kb
  have g5n : gr M g₀ 5 ≠ 0 := by omega
  have g5k : kd M (gr M g₀ 5) = 2 := by rw [g5₀]; exact kk
  have t5₀ : gr M (gr M g₀ 0) 5 = t₀ + 3 := by rw [g0]; exact s5
  have t5n : gr M (gr M g₀ 0) 5 ≠ 0 := by omega
  have t5k : kd M (gr M (gr M g₀ 0) 5) = 4 := by rw [t5₀]; exact kct
  have t3₀ : gr M (gr M g₀ 0) 3 = t₀ + 1 := by rw [g0]; exact s3₀
  have t3n : gr M (gr M g₀ 0) 3 ≠ 0 := by omega
  have t3k : kd M (gr M (gr M g₀ 0) 3) = 8 := by rw [t3₀]; exact kht
  have t3l : ln M (gr M (gr M g₀ 0) 3) = 12 := by rw [t3₀]; exact lht
  have t4₀ : gr M (gr M g₀ 0) 4 = t₀ + 2 := by rw [g0]; exact s4₀
  have t4n : gr M (gr M g₀ 0) 4 ≠ 0 := by omega
  have t4k : kd M (gr M (gr M g₀ 0) 4) = 8 := by rw [t4₀]; exact kwt
  have t4l : ln M (gr M (gr M g₀ 0) 4) = 10 := by rw [t4₀]; exact lwt
  have u5 : gr M (gr M g₀ 1) 5 = u₀ + 3 := by rw [g1]; exact r5₀
  have u5n : gr M (gr M g₀ 1) 5 ≠ 0 := by omega
  have u5k : kd M (gr M (gr M g₀ 1) 5) = 4 := by rw [u5]; exact kcu
  have u3 : gr M (gr M g₀ 1) 3 = u₀ + 1 := by rw [g1]; exact r3
  have u3n : gr M (gr M g₀ 1) 3 ≠ 0 := by omega
  have u3k : kd M (gr M (gr M g₀ 1) 3) = 8 := by rw [u3]; exact khu
  have u3l : ln M (gr M (gr M g₀ 1) 3) = 12 := by rw [u3]; exact lhu
  have u4₀ : gr M (gr M g₀ 1) 4 = u₀ + 2 := by rw [g1]; exact r4
  have u4n : gr M (gr M g₀ 1) 4 ≠ 0 := by omega
  have u4k : kd M (gr M (gr M g₀ 1) 4) = 8 := by rw [u4₀]; exact kwu
  have u4l : ln M (gr M (gr M g₀ 1) 4) = 10 := by rw [u4₀]; exact lwu
  have e0₀ : gi M (gr M g₀ 0) 0 = gi M t₀ 0 := by rw [g0]
  have e1₀ : gi M (gr M g₀ 0) 1 = gi M t₀ 1 := by rw [g0]
  have e2₀ : gi M (gr M g₀ 0) 2 = gi M t₀ 2 := by rw [g0]
  clear G w1₀ w3₀ w4₀ w5 tl nb tbu clu G0'
  refine hK₀ _ _ _ _ _ ?_
  (repeat' (((conv => whnf); first | (show (_ : Option mg_V) = _ ∧ _; assumption) | (show K _ _ _ _ _; assumption) | (show mm_th _ _ _ _; assumption) | refine And.intro (by first | assumption | omega | (simp only [true_and]; first | done | assumption | omega)) ?_ | (refine And.intro (fun _ => ?_) (fun _ => ?_) <;> first | (exfalso; omega) | skip) | intro _ | fail)))
  all_goals (try ((conv => whnf); (refine Exists.intro _ (Exists.intro _ (And.intro (ck) (And.intro ?_ (fun _ _ h₀ => h₀.elim)))); rintro _ _ ⟨rfl, e₀⟩; have e2₀ := e₀.symm; clear e₀; subst e2₀); (repeat' (((conv => whnf); first | (show (_ : Option mg_V) = _ ∧ _; assumption) | (show K _ _ _ _ _; assumption) | (show mm_th _ _ _ _; assumption) | refine And.intro (by first | assumption | omega | (simp only [true_and]; first | done | assumption | omega)) ?_ | (refine And.intro (fun _ => ?_) (fun _ => ?_) <;> first | (exfalso; omega) | skip) | intro _ | fail)))))
  all_goals ((conv => whnf); skip)
  refine Exists.intro _ (Exists.intro _ (And.intro (RM₀) (And.intro ?_ (fun _ _ h₀ => h₀.elim))))
  rintro _ N1 ⟨rfl, Rr⟩
  obtain ⟨K1, E1₀, FR, h21⟩ := mh_rmb_K K9 Rr
  clear RM₀
  obtain ⟨tl1, nb1⟩ := K1.2.2.2.1
  have v1₀ := (E1₀ t₀ (by omega) (by omega)).2.2.2
  have v10 := v1₀ 0
  have v11 := v1₀ 1
  have v12 := v1₀ 2
  have F1₀ := mh_gF_of K1
  have UR₀ := mh_rmb_u Rr (by omega)
  have ce := @cX4_cellAt D l hl N1 t₀ r₀ c₀ tl1 (by omega) (by omega) (nb1 r₀ c₀ (by omega) (by omega) (by omega) (by omega))
  have eq4 := mh_eq_ct E1₀ tlM nbM h₀ 4
  rw [mh_eq_co E1₀] at ce eq4
  have sm1 : kd N1 (mh_co M t₀ r₀ c₀) = 3 := (FR.1 _).trans sm₀
  clear u4l u4k u4n u4₀ u3l u3k u3n u3 u5k u5n u5 t4l t4k t4n t4₀ t3l t3k t3n t3₀ t5k t5n t5₀ g5k g5n g4k g4n g3k g3n g1k g1n g0k g0n pl kbc kg kk kb ka lwu kwu lhu khu kcu r4 r3 r5₀ ku lwt kwt lht kht kct s4₀ s3₀ s5 kt g5₀ g4 g3₀ g1 g0 k6₀
  obtain ⟨⟨k61_, g01_, g11_, g31_, g41_, g51_⟩, ⟨kt1_, s51_, s31_, s41_, kct1_, ⟨kht1_, lht1_⟩, ⟨kwt1_, lwt1_⟩⟩, ⟨ku1_, r51_, r31_, r41_, kcu1_, ⟨khu1_, lhu1_⟩, ⟨kwu1_, lwu1_⟩⟩, ⟨ka1_, kb1_, kk1_, kg1_, kbc1_⟩, pl1_⟩ := F1₀
  have g0n1_ : gr N1 g₀ 0 ≠ 0 := by omega
  have g0k1_ : kd N1 (gr N1 g₀ 0) = 5 := by rw [g01_]; exact kt1_
  have g1n1_ : gr N1 g₀ 1 ≠ 0 := by omega
  have g1k1_ : kd N1 (gr N1 g₀ 1) = 5 := by rw [g11_]; exact ku1_
  have g3n1_ : gr N1 g₀ 3 ≠ 0 := by omega
  have g3k1_ : kd N1 (gr N1 g₀ 3) = 1 := by rw [g31_]; exact ka1_
  have g4n1_ : gr N1 g₀ 4 ≠ 0 := by omega
  have g4k1_ : kd N1 (gr N1 g₀ 4) = 1 := by rw [g41_]; exact kb1_
  have g5n1_ : gr N1 g₀ 5 ≠ 0 := by omega
  have g5k1_ : kd N1 (gr N1 g₀ 5) = 2 := by rw [g51_]; exact kk1_
  have t51_ : gr N1 (gr N1 g₀ 0) 5 = t₀ + 3 := by rw [g01_]; exact s51_
  have t5n1_ : gr N1 (gr N1 g₀ 0) 5 ≠ 0 := by omega
  have t5k1_ : kd N1 (gr N1 (gr N1 g₀ 0) 5) = 4 := by rw [t51_]; exact kct1_
  have t31_ : gr N1 (gr N1 g₀ 0) 3 = t₀ + 1 := by rw [g01_]; exact s31_
  have t3n1_ : gr N1 (gr N1 g₀ 0) 3 ≠ 0 := by omega
  have t3k1_ : kd N1 (gr N1 (gr N1 g₀ 0) 3) = 8 := by rw [t31_]; exact kht1_
  have t3l1_ : ln N1 (gr N1 (gr N1 g₀ 0) 3) = 12 := by rw [t31_]; exact lht1_
  have t41_ : gr N1 (gr N1 g₀ 0) 4 = t₀ + 2 := by rw [g01_]; exact s41_
  have t4n1_ : gr N1 (gr N1 g₀ 0) 4 ≠ 0 := by omega
  have t4k1_ : kd N1 (gr N1 (gr N1 g₀ 0) 4) = 8 := by rw [t41_]; exact kwt1_
  have t4l1_ : ln N1 (gr N1 (gr N1 g₀ 0) 4) = 10 := by rw [t41_]; exact lwt1_
  have u51_ : gr N1 (gr N1 g₀ 1) 5 = u₀ + 3 := by rw [g11_]; exact r51_
  have u5n1_ : gr N1 (gr N1 g₀ 1) 5 ≠ 0 := by omega
  have u5k1_ : kd N1 (gr N1 (gr N1 g₀ 1) 5) = 4 := by rw [u51_]; exact kcu1_
  have u31_ : gr N1 (gr N1 g₀ 1) 3 = u₀ + 1 := by rw [g11_]; exact r31_
  have u3n1_ : gr N1 (gr N1 g₀ 1) 3 ≠ 0 := by omega
  have u3k1_ : kd N1 (gr N1 (gr N1 g₀ 1) 3) = 8 := by rw [u31_]; exact khu1_
  have u3l1_ : ln N1 (gr N1 (gr N1 g₀ 1) 3) = 12 := by rw [u31_]; exact lhu1_
  have u41_ : gr N1 (gr N1 g₀ 1) 4 = u₀ + 2 := by rw [g11_]; exact r41_
  have u4n1_ : gr N1 (gr N1 g₀ 1) 4 ≠ 0 := by omega
  have u4k1_ : kd N1 (gr N1 (gr N1 g₀ 1) 4) = 8 := by rw [u41_]; exact kwu1_
  have u4l1_ : ln N1 (gr N1 (gr N1 g₀ 1) 4) = 10 := by rw [u41_]; exact lwu1_
  have Q₀ : some (Sum.inl (gi N1 (mh_co M t₀ r₀ c₀) 4) : mg_V) = some (.inl (gi M (mh_co M t₀ r₀ c₀) 4)) ∧ ∃ N2, mh_rmb M N2 g₀ t₀ u₀ ∧ si N1 (mh_co M t₀ r₀ c₀) 4 x₀ = si N2 (mh_co M t₀ r₀ c₀) 4 x₀ := ⟨by rw [eq4], N1, Rr, rfl⟩
  clear Rr K1 E1₀ FR K9 tlM nbM tl1 nb1 UR₀ eq4
  (repeat' (((conv => whnf); first | (show (_ : Option mg_V) = _ ∧ _; assumption) | (show K _ _ _ _ _; assumption) | (show mm_th _ _ _ _; assumption) | refine And.intro (by first | assumption | omega | (simp only [true_and]; first | done | assumption | omega)) ?_ | (refine And.intro (fun _ => ?_) (fun _ => ?_) <;> first | (exfalso; omega) | skip) | intro _ | fail)))
  all_goals ((conv => whnf); (try rw [g01_]); (try rw [g11_]); (try rw [s51_]); (try rw [s31_]); (try rw [s41_]); (try rw [r51_]); (try rw [g31_]); (try rw [g41_]); (try rw [g51_]))
  (refine Exists.intro _ (Exists.intro _ (And.intro (ce) (And.intro ?_ (fun _ _ h₀ => h₀.elim)))); rintro _ _ ⟨rfl, e₀⟩; have e2₀ := e₀.symm; clear e₀; subst e2₀)
  (repeat' (((conv => whnf); first | (show (_ : Option mg_V) = _ ∧ _; assumption) | (show K _ _ _ _ _; assumption) | (show mm_th _ _ _ _; assumption) | refine And.intro (by first | assumption | omega | (simp only [true_and]; first | done | assumption | omega)) ?_ | (refine And.intro (fun _ => ?_) (fun _ => ?_) <;> first | (exfalso; omega) | skip) | intro _ | fail)))
set_option maxRecDepth 100000 in
theorem cX5_setStyle0 {D : mg_D} {l : Launch} (hl : l.stackTraces = false) {M : mg_M} {g₀ t₀ u₀ : Nat} {x₀ : Int} (K9 : mh_K M g₀ t₀ u₀) (hx : 0 ≤ x₀ ∧ x₀ ≤ 9) : mg_Mt D l 88 [.inr (.inl g₀), .inl x₀] M (fun v₀ N => v₀ = some (.inl (mh_sum (fun i₀ => if mh_in M (gr M (t₀ + 3 + 1) i₀) (g₀ + 259) = true ∧ gi M (gr M (t₀ + 3 + 1) i₀) 5 ≠ x₀ then (1 : Int) else 0) (gi M (t₀ + 3) 0).toNat)) ∧ ∃ N1, mh_rmb M N1 g₀ t₀ u₀ ∧ mh_ce N1 N t₀ (g₀ + 259) 5 x₀) mg_no := by
  refine mg_of2 hl ok_X5_setStyle al_X5_setStyle rfl (fun K hK₀ => ?_)
  have F9 := mh_gF_of K9
  have K0 := K9
  obtain ⟨⟨G, w1₀, w3₀, w4₀, w5⟩, _, wpl, ⟨tl, nb⟩, ⟨tbu, clu⟩, rb⟩ := K0
  have RM₀ := @cX5_remember D l hl M g₀ t₀ u₀ G w1₀ (by omega) tl.1 tbu tl.2.1 clu (by omega)
  have bb := tl.1.2.2
  have G0' := G
  have tlM := tl
  have nbM := nb
  obtain ⟨⟨k6₀, g0, g1, g3₀, g4, g5₀⟩, ⟨kt, s5, s3₀, s4₀, kct, ⟨kht, lht⟩, ⟨kwt, lwt⟩⟩, ⟨ku, r5₀, r3, r4, kcu, ⟨khu, lhu⟩, ⟨kwu, lwu⟩⟩, ⟨ka, kb, kk, kg, kbc⟩, pl⟩ := F9
  have g0n : gr M g₀ 0 ≠ 0 := by omega
  have g0k : kd M (gr M g₀ 0) = 5 := by rw [g0]; exact kt
  have g1n : gr M g₀ 1 ≠ 0 := by omega
  have g1k : kd M (gr M g₀ 1) = 5 := by rw [g1]; exact ku
  have g3n : gr M g₀ 3 ≠ 0 := by omega
  have g3k : kd M (gr M g₀ 3) = 1 := by rw [g3₀]; exact ka
  have g4n : gr M g₀ 4 ≠ 0 := by omega
  have g4k : kd M (gr M g₀ 4) = 1 := by rw [g4]; exact kb
  have g5n : gr M g₀ 5 ≠ 0 := by omega
  have g5k : kd M (gr M g₀ 5) = 2 := by rw [g5₀]; exact kk
  have t5₀ : gr M (gr M g₀ 0) 5 = t₀ + 3 := by rw [g0]; exact s5
  have t5n : gr M (gr M g₀ 0) 5 ≠ 0 := by omega
  have t5k : kd M (gr M (gr M g₀ 0) 5) = 4 := by rw [t5₀]; exact kct
  have t3₀ : gr M (gr M g₀ 0) 3 = t₀ + 1 := by rw [g0]; exact s3₀
  have t3n : gr M (gr M g₀ 0) 3 ≠ 0 := by omega
  have t3k : kd M (gr M (gr M g₀ 0) 3) = 8 := by rw [t3₀]; exact kht
  have t3l : ln M (gr M (gr M g₀ 0) 3) = 12 := by rw [t3₀]; exact lht
  have t4₀ : gr M (gr M g₀ 0) 4 = t₀ + 2 := by rw [g0]; exact s4₀
  have t4n : gr M (gr M g₀ 0) 4 ≠ 0 := by omega
  have t4k : kd M (gr M (gr M g₀ 0) 4) = 8 := by rw [t4₀]; exact kwt
  have t4l : ln M (gr M (gr M g₀ 0) 4) = 10 := by rw [t4₀]; exact lwt
  have u5 : gr M (gr M g₀ 1) 5 = u₀ + 3 := by rw [g1]; exact r5₀
  have u5n : gr M (gr M g₀ 1) 5 ≠ 0 := by omega
  have u5k : kd M (gr M (gr M g₀ 1) 5) = 4 := by rw [u5]; exact kcu
  have u3 : gr M (gr M g₀ 1) 3 = u₀ + 1 := by rw [g1]; exact r3
  have u3n : gr M (gr M g₀ 1) 3 ≠ 0 := by omega
  have u3k : kd M (gr M (gr M g₀ 1) 3) = 8 := by rw [u3]; exact khu
  have u3l : ln M (gr M (gr M g₀ 1) 3) = 12 := by rw [u3]; exact lhu
  have u4₀ : gr M (gr M g₀ 1) 4 = u₀ + 2 := by rw [g1]; exact r4
  have u4n : gr M (gr M g₀ 1) 4 ≠ 0 := by omega
  have u4k : kd M (gr M (gr M g₀ 1) 4) = 8 := by rw [u4₀]; exact kwu
  have u4l : ln M (gr M (gr M g₀ 1) 4) = 10 := by rw [u4₀]; exact lwu
  have e0₀ : gi M (gr M g₀ 0) 0 = gi M t₀ 0 := by rw [g0]
  have e1₀ : gi M (gr M g₀ 0) 1 = gi M t₀ 1 := by rw [g0]
  have e2₀ : gi M (gr M g₀ 0) 2 = gi M t₀ 2 := by rw [g0]
  clear G w1₀ w3₀ w4₀ w5 tl nb tbu clu G0'
  refine hK₀ _ _ _ _ _ ?_
  (repeat' (((conv => whnf); first | (show (_ : Option mg_V) = _ ∧ _; assumption) | (show K _ _ _ _ _; assumption) | (show mm_th _ _ _ _; assumption) | refine And.intro (by first | assumption | omega | (simp only [true_and]; first | done | assumption | omega)) ?_ | (refine And.intro (fun _ => ?_) (fun _ => ?_) <;> first | (exfalso; omega) | skip) | intro _ | fail)))
  all_goals ((conv => whnf); skip)
  refine Exists.intro _ (Exists.intro _ (And.intro (RM₀) (And.intro ?_ (fun _ _ h₀ => h₀.elim))))
  rintro _ N1 ⟨rfl, Rr⟩
  obtain ⟨K1, E1₀, FR, h21⟩ := mh_rmb_K K9 Rr
  clear RM₀
  obtain ⟨tl1, nb1⟩ := K1.2.2.2.1
  have v1₀ := (E1₀ t₀ (by omega) (by omega)).2.2.2
  have v10 := v1₀ 0
  have v11 := v1₀ 1
  have v12 := v1₀ 2
  have F1₀ := mh_gF_of K1
  have UR₀ := mh_rmb_u Rr (by omega)
  have pa := @cX3_paint D l hl N1 (t₀ + 3) (g₀ + 259) x₀ tl1.2.1 (mh_tl_sm tl1) F1₀.2.2.2.1.1
  have z1 := tl1.2.1.2.2.2.2.2.2.1
  have v3 := (E1₀ (t₀ + 3) (by omega) (by omega)).2.2.2 0
  obtain ⟨p1₀, p2₀, p3₀⟩ := @mh_pa_ce N1 t₀ (g₀ + 259) x₀ tl1.2.1 (gi N1 (t₀ + 3) 0).toNat (by omega)
  have CE : mh_ce N1 (mh_pa (t₀ + 3) (g₀ + 259) x₀ N1 (gi N1 (t₀ + 3) 0).toNat) t₀ (g₀ + 259) 5 x₀ := by
    refine ⟨p1₀, fun i₀ hi => ?_⟩
    rw [p2₀ i₀ (by omega)]
    have e9₀ : (i₀ < (gi N1 (t₀ + 3) 0).toNat ∧ mh_in N1 (gr N1 (t₀ + 3 + 1) i₀) (g₀ + 259) = true) ↔ mh_in N1 (gr N1 (t₀ + 3 + 1) i₀) (g₀ + 259) = true := ⟨fun w₀ => w₀.2, fun w₀ => ⟨by omega, w₀⟩⟩
    simp only [e9₀]
  have es : mh_pc (t₀ + 3) (g₀ + 259) x₀ N1 (gi N1 (t₀ + 3) 0).toNat = mh_sum (fun i₀ => if mh_in M (gr M (t₀ + 3 + 1) i₀) (g₀ + 259) = true ∧ gi M (gr M (t₀ + 3 + 1) i₀) 5 ≠ x₀ then (1 : Int) else 0) (gi M (t₀ + 3) 0).toNat := by
    rw [p3₀, v3]
    refine mh_sum_cg _ (fun i₀ hi => ?_)
    rw [mh_eq_in E1₀ (fun k₀ => mm_f_gi FR (g₀ + 259) k₀ (by omega)) tlM.2.1 (by omega)]
    obtain ⟨x1₀, x2₀⟩ := mh_eq_cells E1₀ tlM.2.1 (i₀ := i₀) (by omega)
    rw [x1₀, x2₀]
  rw [es] at pa
  clear es p1₀ p2₀ p3₀
  generalize mh_pa (t₀ + 3) (g₀ + 259) x₀ N1 (gi N1 (t₀ + 3) 0).toNat = NN at *
  clear u4l u4k u4n u4₀ u3l u3k u3n u3 u5k u5n u5 t4l t4k t4n t4₀ t3l t3k t3n t3₀ t5k t5n t5₀ g5k g5n g4k g4n g3k g3n g1k g1n g0k g0n pl kbc kg kk kb ka lwu kwu lhu khu kcu r4 r3 r5₀ ku lwt kwt lht kht kct s4₀ s3₀ s5 kt g5₀ g4 g3₀ g1 g0 k6₀
  obtain ⟨⟨k61_, g01_, g11_, g31_, g41_, g51_⟩, ⟨kt1_, s51_, s31_, s41_, kct1_, ⟨kht1_, lht1_⟩, ⟨kwt1_, lwt1_⟩⟩, ⟨ku1_, r51_, r31_, r41_, kcu1_, ⟨khu1_, lhu1_⟩, ⟨kwu1_, lwu1_⟩⟩, ⟨ka1_, kb1_, kk1_, kg1_, kbc1_⟩, pl1_⟩ := F1₀
  have g0n1_ : gr N1 g₀ 0 ≠ 0 := by omega
  have g0k1_ : kd N1 (gr N1 g₀ 0) = 5 := by rw [g01_]; exact kt1_
  have g1n1_ : gr N1 g₀ 1 ≠ 0 := by omega
  have g1k1_ : kd N1 (gr N1 g₀ 1) = 5 := by rw [g11_]; exact ku1_
  have g3n1_ : gr N1 g₀ 3 ≠ 0 := by omega
  have g3k1_ : kd N1 (gr N1 g₀ 3) = 1 := by rw [g31_]; exact ka1_
  have g4n1_ : gr N1 g₀ 4 ≠ 0 := by omega
  have g4k1_ : kd N1 (gr N1 g₀ 4) = 1 := by rw [g41_]; exact kb1_
  have g5n1_ : gr N1 g₀ 5 ≠ 0 := by omega
  have g5k1_ : kd N1 (gr N1 g₀ 5) = 2 := by rw [g51_]; exact kk1_
  have t51_ : gr N1 (gr N1 g₀ 0) 5 = t₀ + 3 := by rw [g01_]; exact s51_
  have t5n1_ : gr N1 (gr N1 g₀ 0) 5 ≠ 0 := by omega
  have t5k1_ : kd N1 (gr N1 (gr N1 g₀ 0) 5) = 4 := by rw [t51_]; exact kct1_
  have t31_ : gr N1 (gr N1 g₀ 0) 3 = t₀ + 1 := by rw [g01_]; exact s31_
  have t3n1_ : gr N1 (gr N1 g₀ 0) 3 ≠ 0 := by omega
  have t3k1_ : kd N1 (gr N1 (gr N1 g₀ 0) 3) = 8 := by rw [t31_]; exact kht1_
  have t3l1_ : ln N1 (gr N1 (gr N1 g₀ 0) 3) = 12 := by rw [t31_]; exact lht1_
  have t41_ : gr N1 (gr N1 g₀ 0) 4 = t₀ + 2 := by rw [g01_]; exact s41_
  have t4n1_ : gr N1 (gr N1 g₀ 0) 4 ≠ 0 := by omega
  have t4k1_ : kd N1 (gr N1 (gr N1 g₀ 0) 4) = 8 := by rw [t41_]; exact kwt1_
  have t4l1_ : ln N1 (gr N1 (gr N1 g₀ 0) 4) = 10 := by rw [t41_]; exact lwt1_
  have u51_ : gr N1 (gr N1 g₀ 1) 5 = u₀ + 3 := by rw [g11_]; exact r51_
  have u5n1_ : gr N1 (gr N1 g₀ 1) 5 ≠ 0 := by omega
  have u5k1_ : kd N1 (gr N1 (gr N1 g₀ 1) 5) = 4 := by rw [u51_]; exact kcu1_
  have u31_ : gr N1 (gr N1 g₀ 1) 3 = u₀ + 1 := by rw [g11_]; exact r31_
  have u3n1_ : gr N1 (gr N1 g₀ 1) 3 ≠ 0 := by omega
  have u3k1_ : kd N1 (gr N1 (gr N1 g₀ 1) 3) = 8 := by rw [u31_]; exact khu1_
  have u3l1_ : ln N1 (gr N1 (gr N1 g₀ 1) 3) = 12 := by rw [u31_]; exact lhu1_
  have u41_ : gr N1 (gr N1 g₀ 1) 4 = u₀ + 2 := by rw [g11_]; exact r41_
  have u4n1_ : gr N1 (gr N1 g₀ 1) 4 ≠ 0 := by omega
  have u4k1_ : kd N1 (gr N1 (gr N1 g₀ 1) 4) = 8 := by rw [u41_]; exact kwu1_
  have u4l1_ : ln N1 (gr N1 (gr N1 g₀ 1) 4) = 10 := by rw [u41_]; exact lwu1_
  have Q₀ : some (Sum.inl (mh_sum (fun i₀ => if mh_in M (gr M (t₀ + 3 + 1) i₀) (g₀ + 259) = true ∧ gi M (gr M (t₀ + 3 + 1) i₀) 5 ≠ x₀ then (1 : Int) else 0) (gi M (t₀ + 3) 0).toNat) : mg_V) = some (.inl (mh_sum (fun i₀ => if mh_in M (gr M (t₀ + 3 + 1) i₀) (g₀ + 259) = true ∧ gi M (gr M (t₀ + 3 + 1) i₀) 5 ≠ x₀ then (1 : Int) else 0) (gi M (t₀ + 3) 0).toNat)) ∧ ∃ N1, mh_rmb M N1 g₀ t₀ u₀ ∧ mh_ce N1 NN t₀ (g₀ + 259) 5 x₀ := ⟨rfl, N1, Rr, CE⟩
  clear Rr K1 E1₀ FR K9 tlM nbM tl1 nb1 UR₀ CE
  generalize mh_sum (fun i₀ => if mh_in M (gr M (t₀ + 3 + 1) i₀) (g₀ + 259) = true ∧ gi M (gr M (t₀ + 3 + 1) i₀) 5 ≠ x₀ then (1 : Int) else 0) (gi M (t₀ + 3) 0).toNat = zz at *
  (repeat' (((conv => whnf); first | (show (_ : Option mg_V) = _ ∧ _; assumption) | (show K _ _ _ _ _; assumption) | (show mm_th _ _ _ _; assumption) | refine And.intro (by first | assumption | omega | (simp only [true_and]; first | done | assumption | omega)) ?_ | (refine And.intro (fun _ => ?_) (fun _ => ?_) <;> first | (exfalso; omega) | skip) | intro _ | fail)))
  all_goals ((conv => whnf); (try rw [g01_]); (try rw [g11_]); (try rw [s51_]); (try rw [s31_]); (try rw [s41_]); (try rw [r51_]); (try rw [g31_]); (try rw [g41_]); (try rw [g51_]))
  (refine Exists.intro _ (Exists.intro _ (And.intro (pa) (And.intro ?_ (fun _ _ h₀ => h₀.elim)))); rintro _ _ ⟨rfl, e₀⟩; have e2₀ := e₀.symm; clear e₀; subst e2₀)
  (repeat' (((conv => whnf); first | (show (_ : Option mg_V) = _ ∧ _; assumption) | (show K _ _ _ _ _; assumption) | (show mm_th _ _ _ _; assumption) | refine And.intro (by first | assumption | omega | (simp only [true_and]; first | done | assumption | omega)) ?_ | (refine And.intro (fun _ => ?_) (fun _ => ?_) <;> first | (exfalso; omega) | skip) | intro _ | fail)))
set_option maxRecDepth 100000 in
theorem cX5_clear0 {D : mg_D} {l : Launch} (hl : l.stackTraces = false) {M : mg_M} {g₀ t₀ u₀ : Nat} (K9 : mh_K M g₀ t₀ u₀) (hb₀ : mh_sum (fun i₀ => (if mh_bi (mh_in M (gr M (t₀ + 3 + 1) i₀) (g₀ + 259)) = 0 then (0 : Int) else if gi M (gr M (t₀ + 3 + 1) i₀) 4 = 0 then (0 : Int) else 1)) (gi M (t₀ + 3) 0).toNat ≠ 0) : mg_Mt D l 95 [.inr (.inl g₀)] M (fun v₀ N => v₀ = some (.inl (mh_sum (fun i₀ => (if mh_bi (mh_in M (gr M (t₀ + 3 + 1) i₀) (g₀ + 259)) = 0 then (0 : Int) else if gi M (gr M (t₀ + 3 + 1) i₀) 4 = 0 then (0 : Int) else 1)) (gi M (t₀ + 3) 0).toNat)) ∧ ∃ N1, mh_rmb M N1 g₀ t₀ u₀ ∧ mh_ce N1 N t₀ (g₀ + 259) 4 0) mg_no := by
  refine mg_of2 hl ok_X5_clear al_X5_clear rfl (fun K hK₀ => ?_)
  have F9 := mh_gF_of K9
  have K0 := K9
  obtain ⟨⟨G, w1₀, w3₀, w4₀, w5⟩, _, wpl, ⟨tl, nb⟩, ⟨tbu, clu⟩, rb⟩ := K0
  have RM₀ := @cX5_remember D l hl M g₀ t₀ u₀ G w1₀ (by omega) tl.1 tbu tl.2.1 clu (by omega)
  have bb := tl.1.2.2
  have G0' := G
  have tlM := tl
  have nbM := nb
  have c2₀ := @cX3_filledIn D l hl M (t₀ + 3) (g₀ + 259) tl.2.1 (mh_tl_sm tl) F9.2.2.2.1.1
  obtain ⟨⟨k6₀, g0, g1, g3₀, g4, g5₀⟩, ⟨kt, s5, s3₀, s4₀, kct, ⟨kht, lht⟩, ⟨kwt, lwt⟩⟩, ⟨ku, r5₀, r3, r4, kcu, ⟨khu, lhu⟩, ⟨kwu, lwu⟩⟩, ⟨ka, kb, kk, kg, kbc⟩, pl⟩ := F9
  have g0n : gr M g₀ 0 ≠ 0 := by omega
  have g0k : kd M (gr M g₀ 0) = 5 := by rw [g0]; exact kt
  have g1n : gr M g₀ 1 ≠ 0 := by omega
  have g1k : kd M (gr M g₀ 1) = 5 := by rw [g1]; exact ku
  have g3n : gr M g₀ 3 ≠ 0 := by omega
  have g3k : kd M (gr M g₀ 3) = 1 := by rw [g3₀]; exact ka
  have g4n : gr M g₀ 4 ≠ 0 := by omega
  have g4k : kd M (gr M g₀ 4) = 1 := by rw [g4]; exact kb
  have g5n : gr M g₀ 5 ≠ 0 := by omega
  have g5k : kd M (gr M g₀ 5) = 2 := by rw [g5₀]; exact kk
  have t5₀ : gr M (gr M g₀ 0) 5 = t₀ + 3 := by rw [g0]; exact s5
  have t5n : gr M (gr M g₀ 0) 5 ≠ 0 := by omega
  have t5k : kd M (gr M (gr M g₀ 0) 5) = 4 := by rw [t5₀]; exact kct
  have t3₀ : gr M (gr M g₀ 0) 3 = t₀ + 1 := by rw [g0]; exact s3₀
  have t3n : gr M (gr M g₀ 0) 3 ≠ 0 := by omega
  have t3k : kd M (gr M (gr M g₀ 0) 3) = 8 := by rw [t3₀]; exact kht
  have t3l : ln M (gr M (gr M g₀ 0) 3) = 12 := by rw [t3₀]; exact lht
  have t4₀ : gr M (gr M g₀ 0) 4 = t₀ + 2 := by rw [g0]; exact s4₀
  have t4n : gr M (gr M g₀ 0) 4 ≠ 0 := by omega
  have t4k : kd M (gr M (gr M g₀ 0) 4) = 8 := by rw [t4₀]; exact kwt
  have t4l : ln M (gr M (gr M g₀ 0) 4) = 10 := by rw [t4₀]; exact lwt
  have u5 : gr M (gr M g₀ 1) 5 = u₀ + 3 := by rw [g1]; exact r5₀
  have u5n : gr M (gr M g₀ 1) 5 ≠ 0 := by omega
  have u5k : kd M (gr M (gr M g₀ 1) 5) = 4 := by rw [u5]; exact kcu
  have u3 : gr M (gr M g₀ 1) 3 = u₀ + 1 := by rw [g1]; exact r3
  have u3n : gr M (gr M g₀ 1) 3 ≠ 0 := by omega
  have u3k : kd M (gr M (gr M g₀ 1) 3) = 8 := by rw [u3]; exact khu
  have u3l : ln M (gr M (gr M g₀ 1) 3) = 12 := by rw [u3]; exact lhu
  have u4₀ : gr M (gr M g₀ 1) 4 = u₀ + 2 := by rw [g1]; exact r4
  have u4n : gr M (gr M g₀ 1) 4 ≠ 0 := by omega
  have u4k : kd M (gr M (gr M g₀ 1) 4) = 8 := by rw [u4₀]; exact kwu
  have u4l : ln M (gr M (gr M g₀ 1) 4) = 10 := by rw [u4₀]; exact lwu
  have e0₀ : gi M (gr M g₀ 0) 0 = gi M t₀ 0 := by rw [g0]
  have e1₀ : gi M (gr M g₀ 0) 1 = gi M t₀ 1 := by rw [g0]
  have e2₀ : gi M (gr M g₀ 0) 2 = gi M t₀ 2 := by rw [g0]
  clear G w1₀ w3₀ w4₀ w5 tl nb tbu clu G0'
  refine hK₀ _ _ _ _ _ ?_
  (repeat' (((conv => whnf); first | (show (_ : Option mg_V) = _ ∧ _; assumption) | (show K _ _ _ _ _; assumption) | (show mm_th _ _ _ _; assumption) | refine And.intro (by first | assumption | omega | (simp only [true_and]; first | done | assumption | omega)) ?_ | (refine And.intro (fun _ => ?_) (fun _ => ?_) <;> first | (exfalso; omega) | skip) | intro _ | fail)))
  all_goals ((conv => whnf); (try rw [g0]); (try rw [g1]); (try rw [s5]); (try rw [s3₀]); (try rw [s4₀]); (try rw [r5₀]); (try rw [g3₀]); (try rw [g4]); (try rw [g5₀]))
  (refine Exists.intro _ (Exists.intro _ (And.intro (c2₀) (And.intro ?_ (fun _ _ h₀ => h₀.elim)))); rintro _ _ ⟨rfl, e₀⟩; have e2₀ := e₀.symm; clear e₀; subst e2₀)
  (repeat' (((conv => whnf); first | (show (_ : Option mg_V) = _ ∧ _; assumption) | (show K _ _ _ _ _; assumption) | (show mm_th _ _ _ _; assumption) | refine And.intro (by first | assumption | omega | (simp only [true_and]; first | done | assumption | omega)) ?_ | (refine And.intro (fun _ => ?_) (fun _ => ?_) <;> first | (exfalso; omega) | skip) | intro _ | fail)))
  all_goals ((conv => whnf); skip)
  refine Exists.intro _ (Exists.intro _ (And.intro (RM₀) (And.intro ?_ (fun _ _ h₀ => h₀.elim))))
  rintro _ N1 ⟨rfl, Rr⟩
  obtain ⟨K1, E1₀, FR, h21⟩ := mh_rmb_K K9 Rr
  clear RM₀
  obtain ⟨tl1, nb1⟩ := K1.2.2.2.1
  have v1₀ := (E1₀ t₀ (by omega) (by omega)).2.2.2
  have v10 := v1₀ 0
  have v11 := v1₀ 1
  have v12 := v1₀ 2
  have F1₀ := mh_gF_of K1
  have UR₀ := mh_rmb_u Rr (by omega)
  have pa := @cX3_emptyIn D l hl N1 (t₀ + 3) (g₀ + 259) tl1.2.1 (mh_tl_sm tl1) F1₀.2.2.2.1.1
  have z1 := tl1.2.1.2.2.2.2.2.2.1
  obtain ⟨p1₀, p2₀⟩ := @mh_em_ce N1 t₀ (g₀ + 259) tl1.2.1 (gi N1 (t₀ + 3) 0).toNat (by omega)
  have CE : mh_ce N1 (mh_em (t₀ + 3) (g₀ + 259) N1 (gi N1 (t₀ + 3) 0).toNat) t₀ (g₀ + 259) 4 0 := by
    refine ⟨p1₀, fun i₀ hi => ?_⟩
    rw [p2₀ i₀ (by omega)]
    have e9₀ : (i₀ < (gi N1 (t₀ + 3) 0).toNat ∧ mh_in N1 (gr N1 (t₀ + 3 + 1) i₀) (g₀ + 259) = true) ↔ mh_in N1 (gr N1 (t₀ + 3 + 1) i₀) (g₀ + 259) = true := ⟨fun w₀ => w₀.2, fun w₀ => ⟨by omega, w₀⟩⟩
    simp only [e9₀]
  clear p1₀ p2₀
  generalize mh_em (t₀ + 3) (g₀ + 259) N1 (gi N1 (t₀ + 3) 0).toNat = NN at *
  clear u4l u4k u4n u4₀ u3l u3k u3n u3 u5k u5n u5 t4l t4k t4n t4₀ t3l t3k t3n t3₀ t5k t5n t5₀ g5k g5n g4k g4n g3k g3n g1k g1n g0k g0n pl kbc kg kk kb ka lwu kwu lhu khu kcu r4 r3 r5₀ ku lwt kwt lht kht kct s4₀ s3₀ s5 kt g5₀ g4 g3₀ g1 g0 k6₀
  obtain ⟨⟨k61_, g01_, g11_, g31_, g41_, g51_⟩, ⟨kt1_, s51_, s31_, s41_, kct1_, ⟨kht1_, lht1_⟩, ⟨kwt1_, lwt1_⟩⟩, ⟨ku1_, r51_, r31_, r41_, kcu1_, ⟨khu1_, lhu1_⟩, ⟨kwu1_, lwu1_⟩⟩, ⟨ka1_, kb1_, kk1_, kg1_, kbc1_⟩, pl1_⟩ := F1₀
  have g0n1_ : gr N1 g₀ 0 ≠ 0 := by omega
  have g0k1_ : kd N1 (gr N1 g₀ 0) = 5 := by rw [g01_]; exact kt1_
  have g1n1_ : gr N1 g₀ 1 ≠ 0 := by omega
  have g1k1_ : kd N1 (gr N1 g₀ 1) = 5 := by rw [g11_]; exact ku1_
  have g3n1_ : gr N1 g₀ 3 ≠ 0 := by omega
  have g3k1_ : kd N1 (gr N1 g₀ 3) = 1 := by rw [g31_]; exact ka1_
  have g4n1_ : gr N1 g₀ 4 ≠ 0 := by omega
  have g4k1_ : kd N1 (gr N1 g₀ 4) = 1 := by rw [g41_]; exact kb1_
  have g5n1_ : gr N1 g₀ 5 ≠ 0 := by omega
  have g5k1_ : kd N1 (gr N1 g₀ 5) = 2 := by rw [g51_]; exact kk1_
  have t51_ : gr N1 (gr N1 g₀ 0) 5 = t₀ + 3 := by rw [g01_]; exact s51_
  have t5n1_ : gr N1 (gr N1 g₀ 0) 5 ≠ 0 := by omega
  have t5k1_ : kd N1 (gr N1 (gr N1 g₀ 0) 5) = 4 := by rw [t51_]; exact kct1_
  have t31_ : gr N1 (gr N1 g₀ 0) 3 = t₀ + 1 := by rw [g01_]; exact s31_
  have t3n1_ : gr N1 (gr N1 g₀ 0) 3 ≠ 0 := by omega
  have t3k1_ : kd N1 (gr N1 (gr N1 g₀ 0) 3) = 8 := by rw [t31_]; exact kht1_
  have t3l1_ : ln N1 (gr N1 (gr N1 g₀ 0) 3) = 12 := by rw [t31_]; exact lht1_
  have t41_ : gr N1 (gr N1 g₀ 0) 4 = t₀ + 2 := by rw [g01_]; exact s41_
  have t4n1_ : gr N1 (gr N1 g₀ 0) 4 ≠ 0 := by omega
  have t4k1_ : kd N1 (gr N1 (gr N1 g₀ 0) 4) = 8 := by rw [t41_]; exact kwt1_
  have t4l1_ : ln N1 (gr N1 (gr N1 g₀ 0) 4) = 10 := by rw [t41_]; exact lwt1_
  have u51_ : gr N1 (gr N1 g₀ 1) 5 = u₀ + 3 := by rw [g11_]; exact r51_
  have u5n1_ : gr N1 (gr N1 g₀ 1) 5 ≠ 0 := by omega
  have u5k1_ : kd N1 (gr N1 (gr N1 g₀ 1) 5) = 4 := by rw [u51_]; exact kcu1_
  have u31_ : gr N1 (gr N1 g₀ 1) 3 = u₀ + 1 := by rw [g11_]; exact r31_
  have u3n1_ : gr N1 (gr N1 g₀ 1) 3 ≠ 0 := by omega
  have u3k1_ : kd N1 (gr N1 (gr N1 g₀ 1) 3) = 8 := by rw [u31_]; exact khu1_
  have u3l1_ : ln N1 (gr N1 (gr N1 g₀ 1) 3) = 12 := by rw [u31_]; exact lhu1_
  have u41_ : gr N1 (gr N1 g₀ 1) 4 = u₀ + 2 := by rw [g11_]; exact r41_
  have u4n1_ : gr N1 (gr N1 g₀ 1) 4 ≠ 0 := by omega
  have u4k1_ : kd N1 (gr N1 (gr N1 g₀ 1) 4) = 8 := by rw [u41_]; exact kwu1_
  have u4l1_ : ln N1 (gr N1 (gr N1 g₀ 1) 4) = 10 := by rw [u41_]; exact lwu1_
  have Q₀ : some (Sum.inl (mh_sum (fun i₀ => (if mh_bi (mh_in M (gr M (t₀ + 3 + 1) i₀) (g₀ + 259)) = 0 then (0 : Int) else if gi M (gr M (t₀ + 3 + 1) i₀) 4 = 0 then (0 : Int) else 1)) (gi M (t₀ + 3) 0).toNat) : mg_V) = some (.inl (mh_sum (fun i₀ => (if mh_bi (mh_in M (gr M (t₀ + 3 + 1) i₀) (g₀ + 259)) = 0 then (0 : Int) else if gi M (gr M (t₀ + 3 + 1) i₀) 4 = 0 then (0 : Int) else 1)) (gi M (t₀ + 3) 0).toNat)) ∧ ∃ N1, mh_rmb M N1 g₀ t₀ u₀ ∧ mh_ce N1 NN t₀ (g₀ + 259) 4 0 := ⟨rfl, N1, Rr, CE⟩
  clear Rr K1 E1₀ FR K9 tlM nbM tl1 nb1 UR₀ CE
  generalize mh_sum (fun i₀ => (if mh_bi (mh_in M (gr M (t₀ + 3 + 1) i₀) (g₀ + 259)) = 0 then (0 : Int) else if gi M (gr M (t₀ + 3 + 1) i₀) 4 = 0 then (0 : Int) else 1)) (gi M (t₀ + 3) 0).toNat = zz at *
  (repeat' (((conv => whnf); first | (show (_ : Option mg_V) = _ ∧ _; assumption) | (show K _ _ _ _ _; assumption) | (show mm_th _ _ _ _; assumption) | refine And.intro (by first | assumption | omega | (simp only [true_and]; first | done | assumption | omega)) ?_ | (refine And.intro (fun _ => ?_) (fun _ => ?_) <;> first | (exfalso; omega) | skip) | intro _ | fail)))
  all_goals ((conv => whnf); (try rw [g01_]); (try rw [g11_]); (try rw [s51_]); (try rw [s31_]); (try rw [s41_]); (try rw [r51_]); (try rw [g31_]); (try rw [g41_]); (try rw [g51_]))
  (refine Exists.intro _ (Exists.intro _ (And.intro (pa) (And.intro ?_ (fun _ _ h₀ => h₀.elim)))); rintro _ _ ⟨rfl, e₀⟩; have e2₀ := e₀.symm; clear e₀; subst e2₀)
  (repeat' (((conv => whnf); first | (show (_ : Option mg_V) = _ ∧ _; assumption) | (show K _ _ _ _ _; assumption) | (show mm_th _ _ _ _; assumption) | refine And.intro (by first | assumption | omega | (simp only [true_and]; first | done | assumption | omega)) ?_ | (refine And.intro (fun _ => ?_) (fun _ => ?_) <;> first | (exfalso; omega) | skip) | intro _ | fail)))
set_option maxRecDepth 100000 in
theorem cX5_setHeader0 {D : mg_D} {l : Launch} (hl : l.stackTraces = false) {M : mg_M} {g₀ t₀ u₀ : Nat} {x₀ : Int} (K9 : mh_K M g₀ t₀ u₀) (hx : 0 ≤ x₀ ∧ x₀ ≤ gi M t₀ 0) (hn : ¬ ∃ i₀ : Nat, (i₀ : Int) < gi M (t₀ + 3) 0 ∧ gi M (gr M (t₀ + 3 + 1) i₀) 0 < x₀ ∧ x₀ ≤ gi M (gr M (t₀ + 3 + 1) i₀) 0 + gi M (gr M (t₀ + 3 + 1) i₀) 2 - 1) : mg_Mt D l 98 [.inr (.inl g₀), .inl x₀] M (fun v₀ N => v₀ = some (.inl (gi M t₀ 2)) ∧ ∃ N1, mh_rmb M N1 g₀ t₀ u₀ ∧ N = si N1 t₀ 2 x₀) mg_no := by
  refine mg_of2 hl ok_X5_setHeader al_X5_setHeader rfl (fun K hK₀ => ?_)
  have F9 := mh_gF_of K9
  have K0 := K9
  obtain ⟨⟨G, w1₀, w3₀, w4₀, w5⟩, _, wpl, ⟨tl, nb⟩, ⟨tbu, clu⟩, rb⟩ := K0
  have RM₀ := @cX5_remember D l hl M g₀ t₀ u₀ G w1₀ (by omega) tl.1 tbu tl.2.1 clu (by omega)
  have bb := tl.1.2.2
  have G0' := G
  have tlM := tl
  have nbM := nb
  have c2₀ := @cX3_acrP D l hl M (t₀ + 3) x₀ tl.2.1 (mh_tl_sm tl)
  rw [mh_pr0 hn] at c2₀
  obtain ⟨⟨k6₀, g0, g1, g3₀, g4, g5₀⟩, ⟨kt, s5, s3₀, s4₀, kct, ⟨kht, lht⟩, ⟨kwt, lwt⟩⟩, ⟨ku, r5₀, r3, r4, kcu, ⟨khu, lhu⟩, ⟨kwu, lwu⟩⟩, ⟨ka, kb, kk, kg, kbc⟩, pl⟩ := F9
  have g0n : gr M g₀ 0 ≠ 0 := by omega
  have g0k : kd M (gr M g₀ 0) = 5 := by rw [g0]; exact kt
  have g1n : gr M g₀ 1 ≠ 0 := by omega
  have g1k : kd M (gr M g₀ 1) = 5 := by rw [g1]; exact ku
  have g3n : gr M g₀ 3 ≠ 0 := by omega
  have g3k : kd M (gr M g₀ 3) = 1 := by rw [g3₀]; exact ka
  have g4n : gr M g₀ 4 ≠ 0 := by omega
  have g4k : kd M (gr M g₀ 4) = 1 := by rw [g4]; exact kb
  have g5n : gr M g₀ 5 ≠ 0 := by omega
  have g5k : kd M (gr M g₀ 5) = 2 := by rw [g5₀]; exact kk
  have t5₀ : gr M (gr M g₀ 0) 5 = t₀ + 3 := by rw [g0]; exact s5
  have t5n : gr M (gr M g₀ 0) 5 ≠ 0 := by omega
  have t5k : kd M (gr M (gr M g₀ 0) 5) = 4 := by rw [t5₀]; exact kct
  have t3₀ : gr M (gr M g₀ 0) 3 = t₀ + 1 := by rw [g0]; exact s3₀
  have t3n : gr M (gr M g₀ 0) 3 ≠ 0 := by omega
  have t3k : kd M (gr M (gr M g₀ 0) 3) = 8 := by rw [t3₀]; exact kht
  have t3l : ln M (gr M (gr M g₀ 0) 3) = 12 := by rw [t3₀]; exact lht
  have t4₀ : gr M (gr M g₀ 0) 4 = t₀ + 2 := by rw [g0]; exact s4₀
  have t4n : gr M (gr M g₀ 0) 4 ≠ 0 := by omega
  have t4k : kd M (gr M (gr M g₀ 0) 4) = 8 := by rw [t4₀]; exact kwt
  have t4l : ln M (gr M (gr M g₀ 0) 4) = 10 := by rw [t4₀]; exact lwt
  have u5 : gr M (gr M g₀ 1) 5 = u₀ + 3 := by rw [g1]; exact r5₀
  have u5n : gr M (gr M g₀ 1) 5 ≠ 0 := by omega
  have u5k : kd M (gr M (gr M g₀ 1) 5) = 4 := by rw [u5]; exact kcu
  have u3 : gr M (gr M g₀ 1) 3 = u₀ + 1 := by rw [g1]; exact r3
  have u3n : gr M (gr M g₀ 1) 3 ≠ 0 := by omega
  have u3k : kd M (gr M (gr M g₀ 1) 3) = 8 := by rw [u3]; exact khu
  have u3l : ln M (gr M (gr M g₀ 1) 3) = 12 := by rw [u3]; exact lhu
  have u4₀ : gr M (gr M g₀ 1) 4 = u₀ + 2 := by rw [g1]; exact r4
  have u4n : gr M (gr M g₀ 1) 4 ≠ 0 := by omega
  have u4k : kd M (gr M (gr M g₀ 1) 4) = 8 := by rw [u4₀]; exact kwu
  have u4l : ln M (gr M (gr M g₀ 1) 4) = 10 := by rw [u4₀]; exact lwu
  have e0₀ : gi M (gr M g₀ 0) 0 = gi M t₀ 0 := by rw [g0]
  have e1₀ : gi M (gr M g₀ 0) 1 = gi M t₀ 1 := by rw [g0]
  have e2₀ : gi M (gr M g₀ 0) 2 = gi M t₀ 2 := by rw [g0]
  clear G w1₀ w3₀ w4₀ w5 tl nb tbu clu G0' hn
  refine hK₀ _ _ _ _ _ ?_
  (repeat' (((conv => whnf); first | (show (_ : Option mg_V) = _ ∧ _; assumption) | (show K _ _ _ _ _; assumption) | (show mm_th _ _ _ _; assumption) | refine And.intro (by first | assumption | omega | (simp only [true_and]; first | done | assumption | omega)) ?_ | (refine And.intro (fun _ => ?_) (fun _ => ?_) <;> first | (exfalso; omega) | skip) | intro _ | fail)))
  all_goals ((conv => whnf); (try rw [g0]); (try rw [g1]); (try rw [s5]); (try rw [s3₀]); (try rw [s4₀]); (try rw [r5₀]); (try rw [g3₀]); (try rw [g4]); (try rw [g5₀]))
  (refine Exists.intro _ (Exists.intro _ (And.intro (c2₀) (And.intro ?_ (fun _ _ h₀ => h₀.elim)))); rintro _ _ ⟨rfl, e₀⟩; have e2₀ := e₀.symm; clear e₀; subst e2₀)
  (repeat' (((conv => whnf); first | (show (_ : Option mg_V) = _ ∧ _; assumption) | (show K _ _ _ _ _; assumption) | (show mm_th _ _ _ _; assumption) | refine And.intro (by first | assumption | omega | (simp only [true_and]; first | done | assumption | omega)) ?_ | (refine And.intro (fun _ => ?_) (fun _ => ?_) <;> first | (exfalso; omega) | skip) | intro _ | fail)))
  all_goals ((conv => whnf); skip)
  refine Exists.intro _ (Exists.intro _ (And.intro (RM₀) (And.intro ?_ (fun _ _ h₀ => h₀.elim))))
  rintro _ N1 ⟨rfl, Rr⟩
  obtain ⟨K1, E1₀, FR, h21⟩ := mh_rmb_K K9 Rr
  clear RM₀
  obtain ⟨tl1, nb1⟩ := K1.2.2.2.1
  have v1₀ := (E1₀ t₀ (by omega) (by omega)).2.2.2
  have v10 := v1₀ 0
  have v11 := v1₀ 1
  have v12 := v1₀ 2
  have F1₀ := mh_gF_of K1
  have UR₀ := mh_rmb_u Rr (by omega)
  clear u4l u4k u4n u4₀ u3l u3k u3n u3 u5k u5n u5 t4l t4k t4n t4₀ t3l t3k t3n t3₀ t5k t5n t5₀ g5k g5n g4k g4n g3k g3n g1k g1n g0k g0n pl kbc kg kk kb ka lwu kwu lhu khu kcu r4 r3 r5₀ ku lwt kwt lht kht kct s4₀ s3₀ s5 kt g5₀ g4 g3₀ g1 g0 k6₀
  obtain ⟨⟨k61_, g01_, g11_, g31_, g41_, g51_⟩, ⟨kt1_, s51_, s31_, s41_, kct1_, ⟨kht1_, lht1_⟩, ⟨kwt1_, lwt1_⟩⟩, ⟨ku1_, r51_, r31_, r41_, kcu1_, ⟨khu1_, lhu1_⟩, ⟨kwu1_, lwu1_⟩⟩, ⟨ka1_, kb1_, kk1_, kg1_, kbc1_⟩, pl1_⟩ := F1₀
  have g0n1_ : gr N1 g₀ 0 ≠ 0 := by omega
  have g0k1_ : kd N1 (gr N1 g₀ 0) = 5 := by rw [g01_]; exact kt1_
  have g1n1_ : gr N1 g₀ 1 ≠ 0 := by omega
  have g1k1_ : kd N1 (gr N1 g₀ 1) = 5 := by rw [g11_]; exact ku1_
  have g3n1_ : gr N1 g₀ 3 ≠ 0 := by omega
  have g3k1_ : kd N1 (gr N1 g₀ 3) = 1 := by rw [g31_]; exact ka1_
  have g4n1_ : gr N1 g₀ 4 ≠ 0 := by omega
  have g4k1_ : kd N1 (gr N1 g₀ 4) = 1 := by rw [g41_]; exact kb1_
  have g5n1_ : gr N1 g₀ 5 ≠ 0 := by omega
  have g5k1_ : kd N1 (gr N1 g₀ 5) = 2 := by rw [g51_]; exact kk1_
  have t51_ : gr N1 (gr N1 g₀ 0) 5 = t₀ + 3 := by rw [g01_]; exact s51_
  have t5n1_ : gr N1 (gr N1 g₀ 0) 5 ≠ 0 := by omega
  have t5k1_ : kd N1 (gr N1 (gr N1 g₀ 0) 5) = 4 := by rw [t51_]; exact kct1_
  have t31_ : gr N1 (gr N1 g₀ 0) 3 = t₀ + 1 := by rw [g01_]; exact s31_
  have t3n1_ : gr N1 (gr N1 g₀ 0) 3 ≠ 0 := by omega
  have t3k1_ : kd N1 (gr N1 (gr N1 g₀ 0) 3) = 8 := by rw [t31_]; exact kht1_
  have t3l1_ : ln N1 (gr N1 (gr N1 g₀ 0) 3) = 12 := by rw [t31_]; exact lht1_
  have t41_ : gr N1 (gr N1 g₀ 0) 4 = t₀ + 2 := by rw [g01_]; exact s41_
  have t4n1_ : gr N1 (gr N1 g₀ 0) 4 ≠ 0 := by omega
  have t4k1_ : kd N1 (gr N1 (gr N1 g₀ 0) 4) = 8 := by rw [t41_]; exact kwt1_
  have t4l1_ : ln N1 (gr N1 (gr N1 g₀ 0) 4) = 10 := by rw [t41_]; exact lwt1_
  have u51_ : gr N1 (gr N1 g₀ 1) 5 = u₀ + 3 := by rw [g11_]; exact r51_
  have u5n1_ : gr N1 (gr N1 g₀ 1) 5 ≠ 0 := by omega
  have u5k1_ : kd N1 (gr N1 (gr N1 g₀ 1) 5) = 4 := by rw [u51_]; exact kcu1_
  have u31_ : gr N1 (gr N1 g₀ 1) 3 = u₀ + 1 := by rw [g11_]; exact r31_
  have u3n1_ : gr N1 (gr N1 g₀ 1) 3 ≠ 0 := by omega
  have u3k1_ : kd N1 (gr N1 (gr N1 g₀ 1) 3) = 8 := by rw [u31_]; exact khu1_
  have u3l1_ : ln N1 (gr N1 (gr N1 g₀ 1) 3) = 12 := by rw [u31_]; exact lhu1_
  have u41_ : gr N1 (gr N1 g₀ 1) 4 = u₀ + 2 := by rw [g11_]; exact r41_
  have u4n1_ : gr N1 (gr N1 g₀ 1) 4 ≠ 0 := by omega
  have u4k1_ : kd N1 (gr N1 (gr N1 g₀ 1) 4) = 8 := by rw [u41_]; exact kwu1_
  have u4l1_ : ln N1 (gr N1 (gr N1 g₀ 1) 4) = 10 := by rw [u41_]; exact lwu1_
  have uo : gi (si N1 (gr N1 g₀ 0) 2 x₀) (gr (si N1 (gr N1 g₀ 0) 2 x₀) g₀ 1) 2 = gi M t₀ 2 := by
    show gi (si N1 (gr N1 g₀ 0) 2 x₀) (gr N1 g₀ 1) 2 = gi M t₀ 2
    rw [g01_, g11_, gi_si, if_neg (by omega)]
    exact UR₀.1 2 (by omega)
  have Q₀ : some (Sum.inl (gi (si N1 (gr N1 g₀ 0) 2 x₀) (gr (si N1 (gr N1 g₀ 0) 2 x₀) g₀ 1) 2) : mg_V) = some (.inl (gi M t₀ 2)) ∧ ∃ N2, mh_rmb M N2 g₀ t₀ u₀ ∧ si N1 (gr N1 g₀ 0) 2 x₀ = si N2 t₀ 2 x₀ := ⟨by rw [uo], N1, Rr, by rw [g01_]⟩
  have zz1 : kd (si N1 (gr N1 g₀ 0) 2 x₀) g₀ = 6 := k61_
  have zz2 : gr (si N1 (gr N1 g₀ 0) 2 x₀) g₀ 1 ≠ 0 := g1n1_
  have zz3 : kd (si N1 (gr N1 g₀ 0) 2 x₀) (gr (si N1 (gr N1 g₀ 0) 2 x₀) g₀ 1) = 5 := g1k1_
  clear Rr K1 E1₀ FR K9 tlM nbM tl1 nb1 UR₀
  generalize hY : si N1 (gr N1 g₀ 0) 2 x₀ = Y at *
  (repeat' (((conv => whnf); first | (show (_ : Option mg_V) = _ ∧ _; assumption) | (show K _ _ _ _ _; assumption) | (show mm_th _ _ _ _; assumption) | refine And.intro (by first | assumption | omega | (simp only [true_and]; first | done | assumption | omega)) ?_ | (refine And.intro (fun _ => ?_) (fun _ => ?_) <;> first | (exfalso; omega) | skip) | intro _ | fail)))
  all_goals ((conv => whnf); rw [hY])
  (repeat' (((conv => whnf); first | (show (_ : Option mg_V) = _ ∧ _; assumption) | (show K _ _ _ _ _; assumption) | (show mm_th _ _ _ _; assumption) | refine And.intro (by first | assumption | omega | (simp only [true_and]; first | done | assumption | omega)) ?_ | (refine And.intro (fun _ => ?_) (fun _ => ?_) <;> first | (exfalso; omega) | skip) | intro _ | fail)))
set_option maxRecDepth 100000 in
theorem cX5_setWidth0 {D : mg_D} {l : Launch} (hl : l.stackTraces = false) {M : mg_M} {g₀ t₀ u₀ : Nat} {c₀ x₀ : Int} (K9 : mh_K M g₀ t₀ u₀) (h₀ : 0 ≤ c₀ ∧ c₀ < gi M t₀ 1) (hx : 10 ≤ x₀ ∧ x₀ ≤ 200) : mg_Mt D l 103 [.inr (.inl g₀), .inl c₀, .inl x₀] M (fun v₀ N => v₀ = some (.inl (gi M (t₀ + 2) c₀.toNat)) ∧ ∃ N1, mh_rmb M N1 g₀ t₀ u₀ ∧ N = si N1 (t₀ + 2) c₀.toNat x₀) mg_no := by
  refine mg_of2 hl ok_X5_setWidth al_X5_setWidth rfl (fun K hK₀ => ?_)
  have F9 := mh_gF_of K9
  have K0 := K9
  obtain ⟨⟨G, w1₀, w3₀, w4₀, w5⟩, _, wpl, ⟨tl, nb⟩, ⟨tbu, clu⟩, rb⟩ := K0
  have RM₀ := @cX5_remember D l hl M g₀ t₀ u₀ G w1₀ (by omega) tl.1 tbu tl.2.1 clu (by omega)
  have bb := tl.1.2.2
  have G0' := G
  have tlM := tl
  have nbM := nb
  have ck := @cX5_checkColumn0 D l hl M g₀ t₀ c₀ G h₀
  have iw := @cX5_isWidth D l hl M x₀
  rw [if_pos hx] at iw
  obtain ⟨⟨k6₀, g0, g1, g3₀, g4, g5₀⟩, ⟨kt, s5, s3₀, s4₀, kct, ⟨kht, lht⟩, ⟨kwt, lwt⟩⟩, ⟨ku, r5₀, r3, r4, kcu, ⟨khu, lhu⟩, ⟨kwu, lwu⟩⟩, ⟨ka, kb, kk, kg, kbc⟩, pl⟩ := F9
  have g0n : gr M g₀ 0 ≠ 0 := by omega
  have g0k : kd M (gr M g₀ 0) = 5 := by rw [g0]; exact kt
  have g1n : gr M g₀ 1 ≠ 0 := by omega
  have g1k : kd M (gr M g₀ 1) = 5 := by rw [g1]; exact ku
  have g3n : gr M g₀ 3 ≠ 0 := by omega
  have g3k : kd M (gr M g₀ 3) = 1 := by rw [g3₀]; exact ka
  have g4n : gr M g₀ 4 ≠ 0 := by omega
  have g4k : kd M (gr M g₀ 4) = 1 := by rw [g4]; exact kb
  have g5n : gr M g₀ 5 ≠ 0 := by omega
  have g5k : kd M (gr M g₀ 5) = 2 := by rw [g5₀]; exact kk
  have t5₀ : gr M (gr M g₀ 0) 5 = t₀ + 3 := by rw [g0]; exact s5
  have t5n : gr M (gr M g₀ 0) 5 ≠ 0 := by omega
  have t5k : kd M (gr M (gr M g₀ 0) 5) = 4 := by rw [t5₀]; exact kct
  have t3₀ : gr M (gr M g₀ 0) 3 = t₀ + 1 := by rw [g0]; exact s3₀
  have t3n : gr M (gr M g₀ 0) 3 ≠ 0 := by omega
  have t3k : kd M (gr M (gr M g₀ 0) 3) = 8 := by rw [t3₀]; exact kht
  have t3l : ln M (gr M (gr M g₀ 0) 3) = 12 := by rw [t3₀]; exact lht
  have t4₀ : gr M (gr M g₀ 0) 4 = t₀ + 2 := by rw [g0]; exact s4₀
  have t4n : gr M (gr M g₀ 0) 4 ≠ 0 := by omega
  have t4k : kd M (gr M (gr M g₀ 0) 4) = 8 := by rw [t4₀]; exact kwt
  have t4l : ln M (gr M (gr M g₀ 0) 4) = 10 := by rw [t4₀]; exact lwt
  have u5 : gr M (gr M g₀ 1) 5 = u₀ + 3 := by rw [g1]; exact r5₀
  have u5n : gr M (gr M g₀ 1) 5 ≠ 0 := by omega
  have u5k : kd M (gr M (gr M g₀ 1) 5) = 4 := by rw [u5]; exact kcu
  have u3 : gr M (gr M g₀ 1) 3 = u₀ + 1 := by rw [g1]; exact r3
  have u3n : gr M (gr M g₀ 1) 3 ≠ 0 := by omega
  have u3k : kd M (gr M (gr M g₀ 1) 3) = 8 := by rw [u3]; exact khu
  have u3l : ln M (gr M (gr M g₀ 1) 3) = 12 := by rw [u3]; exact lhu
  have u4₀ : gr M (gr M g₀ 1) 4 = u₀ + 2 := by rw [g1]; exact r4
  have u4n : gr M (gr M g₀ 1) 4 ≠ 0 := by omega
  have u4k : kd M (gr M (gr M g₀ 1) 4) = 8 := by rw [u4₀]; exact kwu
  have u4l : ln M (gr M (gr M g₀ 1) 4) = 10 := by rw [u4₀]; exact lwu
  have e0₀ : gi M (gr M g₀ 0) 0 = gi M t₀ 0 := by rw [g0]
  have e1₀ : gi M (gr M g₀ 0) 1 = gi M t₀ 1 := by rw [g0]
  have e2₀ : gi M (gr M g₀ 0) 2 = gi M t₀ 2 := by rw [g0]
  clear G w1₀ w3₀ w4₀ w5 tl nb tbu clu G0'
  refine hK₀ _ _ _ _ _ ?_
  (repeat' (((conv => whnf); first | (show (_ : Option mg_V) = _ ∧ _; assumption) | (show K _ _ _ _ _; assumption) | (show mm_th _ _ _ _; assumption) | refine And.intro (by first | assumption | omega | (simp only [true_and]; first | done | assumption | omega)) ?_ | (refine And.intro (fun _ => ?_) (fun _ => ?_) <;> first | (exfalso; omega) | skip) | intro _ | fail)))
  all_goals (try ((conv => whnf); (refine Exists.intro _ (Exists.intro _ (And.intro (ck) (And.intro ?_ (fun _ _ h₀ => h₀.elim)))); rintro _ _ ⟨rfl, e₀⟩; have e2₀ := e₀.symm; clear e₀; subst e2₀); (repeat' (((conv => whnf); first | (show (_ : Option mg_V) = _ ∧ _; assumption) | (show K _ _ _ _ _; assumption) | (show mm_th _ _ _ _; assumption) | refine And.intro (by first | assumption | omega | (simp only [true_and]; first | done | assumption | omega)) ?_ | (refine And.intro (fun _ => ?_) (fun _ => ?_) <;> first | (exfalso; omega) | skip) | intro _ | fail)))))
  all_goals (try ((conv => whnf); (refine Exists.intro _ (Exists.intro _ (And.intro (iw) (And.intro ?_ (fun _ _ h₀ => h₀.elim)))); rintro _ _ ⟨rfl, e₀⟩; have e2₀ := e₀.symm; clear e₀; subst e2₀); (repeat' (((conv => whnf); first | (show (_ : Option mg_V) = _ ∧ _; assumption) | (show K _ _ _ _ _; assumption) | (show mm_th _ _ _ _; assumption) | refine And.intro (by first | assumption | omega | (simp only [true_and]; first | done | assumption | omega)) ?_ | (refine And.intro (fun _ => ?_) (fun _ => ?_) <;> first | (exfalso; omega) | skip) | intro _ | fail)))))
  all_goals ((conv => whnf); skip)
  refine Exists.intro _ (Exists.intro _ (And.intro (RM₀) (And.intro ?_ (fun _ _ h₀ => h₀.elim))))
  rintro _ N1 ⟨rfl, Rr⟩
  obtain ⟨K1, E1₀, FR, h21⟩ := mh_rmb_K K9 Rr
  clear RM₀
  obtain ⟨tl1, nb1⟩ := K1.2.2.2.1
  have v1₀ := (E1₀ t₀ (by omega) (by omega)).2.2.2
  have v10 := v1₀ 0
  have v11 := v1₀ 1
  have v12 := v1₀ 2
  have F1₀ := mh_gF_of K1
  have UR₀ := mh_rmb_u Rr (by omega)
  clear u4l u4k u4n u4₀ u3l u3k u3n u3 u5k u5n u5 t4l t4k t4n t4₀ t3l t3k t3n t3₀ t5k t5n t5₀ g5k g5n g4k g4n g3k g3n g1k g1n g0k g0n pl kbc kg kk kb ka lwu kwu lhu khu kcu r4 r3 r5₀ ku lwt kwt lht kht kct s4₀ s3₀ s5 kt g5₀ g4 g3₀ g1 g0 k6₀
  obtain ⟨⟨k61_, g01_, g11_, g31_, g41_, g51_⟩, ⟨kt1_, s51_, s31_, s41_, kct1_, ⟨kht1_, lht1_⟩, ⟨kwt1_, lwt1_⟩⟩, ⟨ku1_, r51_, r31_, r41_, kcu1_, ⟨khu1_, lhu1_⟩, ⟨kwu1_, lwu1_⟩⟩, ⟨ka1_, kb1_, kk1_, kg1_, kbc1_⟩, pl1_⟩ := F1₀
  have g0n1_ : gr N1 g₀ 0 ≠ 0 := by omega
  have g0k1_ : kd N1 (gr N1 g₀ 0) = 5 := by rw [g01_]; exact kt1_
  have g1n1_ : gr N1 g₀ 1 ≠ 0 := by omega
  have g1k1_ : kd N1 (gr N1 g₀ 1) = 5 := by rw [g11_]; exact ku1_
  have g3n1_ : gr N1 g₀ 3 ≠ 0 := by omega
  have g3k1_ : kd N1 (gr N1 g₀ 3) = 1 := by rw [g31_]; exact ka1_
  have g4n1_ : gr N1 g₀ 4 ≠ 0 := by omega
  have g4k1_ : kd N1 (gr N1 g₀ 4) = 1 := by rw [g41_]; exact kb1_
  have g5n1_ : gr N1 g₀ 5 ≠ 0 := by omega
  have g5k1_ : kd N1 (gr N1 g₀ 5) = 2 := by rw [g51_]; exact kk1_
  have t51_ : gr N1 (gr N1 g₀ 0) 5 = t₀ + 3 := by rw [g01_]; exact s51_
  have t5n1_ : gr N1 (gr N1 g₀ 0) 5 ≠ 0 := by omega
  have t5k1_ : kd N1 (gr N1 (gr N1 g₀ 0) 5) = 4 := by rw [t51_]; exact kct1_
  have t31_ : gr N1 (gr N1 g₀ 0) 3 = t₀ + 1 := by rw [g01_]; exact s31_
  have t3n1_ : gr N1 (gr N1 g₀ 0) 3 ≠ 0 := by omega
  have t3k1_ : kd N1 (gr N1 (gr N1 g₀ 0) 3) = 8 := by rw [t31_]; exact kht1_
  have t3l1_ : ln N1 (gr N1 (gr N1 g₀ 0) 3) = 12 := by rw [t31_]; exact lht1_
  have t41_ : gr N1 (gr N1 g₀ 0) 4 = t₀ + 2 := by rw [g01_]; exact s41_
  have t4n1_ : gr N1 (gr N1 g₀ 0) 4 ≠ 0 := by omega
  have t4k1_ : kd N1 (gr N1 (gr N1 g₀ 0) 4) = 8 := by rw [t41_]; exact kwt1_
  have t4l1_ : ln N1 (gr N1 (gr N1 g₀ 0) 4) = 10 := by rw [t41_]; exact lwt1_
  have u51_ : gr N1 (gr N1 g₀ 1) 5 = u₀ + 3 := by rw [g11_]; exact r51_
  have u5n1_ : gr N1 (gr N1 g₀ 1) 5 ≠ 0 := by omega
  have u5k1_ : kd N1 (gr N1 (gr N1 g₀ 1) 5) = 4 := by rw [u51_]; exact kcu1_
  have u31_ : gr N1 (gr N1 g₀ 1) 3 = u₀ + 1 := by rw [g11_]; exact r31_
  have u3n1_ : gr N1 (gr N1 g₀ 1) 3 ≠ 0 := by omega
  have u3k1_ : kd N1 (gr N1 (gr N1 g₀ 1) 3) = 8 := by rw [u31_]; exact khu1_
  have u3l1_ : ln N1 (gr N1 (gr N1 g₀ 1) 3) = 12 := by rw [u31_]; exact lhu1_
  have u41_ : gr N1 (gr N1 g₀ 1) 4 = u₀ + 2 := by rw [g11_]; exact r41_
  have u4n1_ : gr N1 (gr N1 g₀ 1) 4 ≠ 0 := by omega
  have u4k1_ : kd N1 (gr N1 (gr N1 g₀ 1) 4) = 8 := by rw [u41_]; exact kwu1_
  have u4l1_ : ln N1 (gr N1 (gr N1 g₀ 1) 4) = 10 := by rw [u41_]; exact lwu1_
  have uo : gi (si N1 (gr N1 (gr N1 g₀ 0) 4) c₀.toNat x₀) (gr N1 (gr N1 g₀ 1) 4) c₀.toNat = gi M (t₀ + 2) c₀.toNat := by
    rw [t41_, u41_, gi_si, if_neg (by omega)]
    exact UR₀.2.2.1 _ (by omega)
  have Q₀ : some (Sum.inl (gi (si N1 (gr N1 (gr N1 g₀ 0) 4) c₀.toNat x₀) (gr N1 (gr N1 g₀ 1) 4) c₀.toNat) : mg_V) = some (.inl (gi M (t₀ + 2) c₀.toNat)) ∧ ∃ N2, mh_rmb M N2 g₀ t₀ u₀ ∧ si N1 (gr N1 (gr N1 g₀ 0) 4) c₀.toNat x₀ = si N2 (t₀ + 2) c₀.toNat x₀ := ⟨by rw [uo], N1, Rr, by rw [t41_]⟩
  have zz1 : kd (si N1 (gr N1 (gr N1 g₀ 0) 4) c₀.toNat x₀) g₀ = 6 := k61_
  have zz2 : gr (si N1 (gr N1 (gr N1 g₀ 0) 4) c₀.toNat x₀) g₀ 1 = gr N1 g₀ 1 := rfl
  have zz3 : kd (si N1 (gr N1 (gr N1 g₀ 0) 4) c₀.toNat x₀) (gr N1 g₀ 1) = 5 := g1k1_
  have zz4 : gr (si N1 (gr N1 (gr N1 g₀ 0) 4) c₀.toNat x₀) (gr N1 g₀ 1) 4 = gr N1 (gr N1 g₀ 1) 4 := rfl
  have zz5 : kd (si N1 (gr N1 (gr N1 g₀ 0) 4) c₀.toNat x₀) (gr N1 (gr N1 g₀ 1) 4) = 8 := u4k1_
  have zz6 : ln (si N1 (gr N1 (gr N1 g₀ 0) 4) c₀.toNat x₀) (gr N1 (gr N1 g₀ 1) 4) = 10 := u4l1_
  clear Rr K1 E1₀ FR K9 tlM nbM tl1 nb1 UR₀ uo
  generalize hY : si N1 (gr N1 (gr N1 g₀ 0) 4) c₀.toNat x₀ = Y at *
  (repeat' (((conv => whnf); first | (show (_ : Option mg_V) = _ ∧ _; assumption) | (show K _ _ _ _ _; assumption) | (show mm_th _ _ _ _; assumption) | refine And.intro (by first | assumption | omega | (simp only [true_and]; first | done | assumption | omega)) ?_ | (refine And.intro (fun _ => ?_) (fun _ => ?_) <;> first | (exfalso; omega) | skip) | intro _ | fail)))
  all_goals ((conv => whnf); rw [hY])
  (repeat' (((conv => whnf); first | (show (_ : Option mg_V) = _ ∧ _; assumption) | (show K _ _ _ _ _; assumption) | (show mm_th _ _ _ _; assumption) | refine And.intro (by first | assumption | omega | (simp only [true_and]; first | done | assumption | omega)) ?_ | (refine And.intro (fun _ => ?_) (fun _ => ?_) <;> first | (exfalso; omega) | skip) | intro _ | fail)))
  all_goals ((conv => whnf); rw [zz2])
  (repeat' (((conv => whnf); first | (show (_ : Option mg_V) = _ ∧ _; assumption) | (show K _ _ _ _ _; assumption) | (show mm_th _ _ _ _; assumption) | refine And.intro (by first | assumption | omega | (simp only [true_and]; first | done | assumption | omega)) ?_ | (refine And.intro (fun _ => ?_) (fun _ => ?_) <;> first | (exfalso; omega) | skip) | intro _ | fail)))
  all_goals ((conv => whnf); rw [zz4])
  (repeat' (((conv => whnf); first | (show (_ : Option mg_V) = _ ∧ _; assumption) | (show K _ _ _ _ _; assumption) | (show mm_th _ _ _ _; assumption) | refine And.intro (by first | assumption | omega | (simp only [true_and]; first | done | assumption | omega)) ?_ | (refine And.intro (fun _ => ?_) (fun _ => ?_) <;> first | (exfalso; omega) | skip) | intro _ | fail)))
set_option maxRecDepth 100000 in
theorem cX5_setHeight0 {D : mg_D} {l : Launch} (hl : l.stackTraces = false) {M : mg_M} {g₀ t₀ u₀ : Nat} {c₀ x₀ : Int} (K9 : mh_K M g₀ t₀ u₀) (h₀ : 0 ≤ c₀ ∧ c₀ < gi M t₀ 0) (hx : 5 ≤ x₀ ∧ x₀ ≤ 100) : mg_Mt D l 104 [.inr (.inl g₀), .inl c₀, .inl x₀] M (fun v₀ N => v₀ = some (.inl (gi M (t₀ + 1) c₀.toNat)) ∧ ∃ N1, mh_rmb M N1 g₀ t₀ u₀ ∧ N = si N1 (t₀ + 1) c₀.toNat x₀) mg_no := by
  refine mg_of2 hl ok_X5_setHeight al_X5_setHeight rfl (fun K hK₀ => ?_)
  have F9 := mh_gF_of K9
  have K0 := K9
  obtain ⟨⟨G, w1₀, w3₀, w4₀, w5⟩, _, wpl, ⟨tl, nb⟩, ⟨tbu, clu⟩, rb⟩ := K0
  have RM₀ := @cX5_remember D l hl M g₀ t₀ u₀ G w1₀ (by omega) tl.1 tbu tl.2.1 clu (by omega)
  have bb := tl.1.2.2
  have G0' := G
  have tlM := tl
  have nbM := nb
  have ck := @cX5_checkRow0 D l hl M g₀ t₀ c₀ G h₀
  obtain ⟨⟨k6₀, g0, g1, g3₀, g4, g5₀⟩, ⟨kt, s5, s3₀, s4₀, kct, ⟨kht, lht⟩, ⟨kwt, lwt⟩⟩, ⟨ku, r5₀, r3, r4, kcu, ⟨khu, lhu⟩, ⟨kwu, lwu⟩⟩, ⟨ka, kb, kk, kg, kbc⟩, pl⟩ := F9
  have g0n : gr M g₀ 0 ≠ 0 := by omega
  have g0k : kd M (gr M g₀ 0) = 5 := by rw [g0]; exact kt
  have g1n : gr M g₀ 1 ≠ 0 := by omega
  have g1k : kd M (gr M g₀ 1) = 5 := by rw [g1]; exact ku
  have g3n : gr M g₀ 3 ≠ 0 := by omega
  have g3k : kd M (gr M g₀ 3) = 1 := by rw [g3₀]; exact ka
  have g4n : gr M g₀ 4 ≠ 0 := by omega
  have g4k : kd M (gr M g₀ 4) = 1 := by rw [g4]; exact kb
  have g5n : gr M g₀ 5 ≠ 0 := by omega
  have g5k : kd M (gr M g₀ 5) = 2 := by rw [g5₀]; exact kk
  have t5₀ : gr M (gr M g₀ 0) 5 = t₀ + 3 := by rw [g0]; exact s5
  have t5n : gr M (gr M g₀ 0) 5 ≠ 0 := by omega
  have t5k : kd M (gr M (gr M g₀ 0) 5) = 4 := by rw [t5₀]; exact kct
  have t3₀ : gr M (gr M g₀ 0) 3 = t₀ + 1 := by rw [g0]; exact s3₀
  have t3n : gr M (gr M g₀ 0) 3 ≠ 0 := by omega
  have t3k : kd M (gr M (gr M g₀ 0) 3) = 8 := by rw [t3₀]; exact kht
  have t3l : ln M (gr M (gr M g₀ 0) 3) = 12 := by rw [t3₀]; exact lht
  have t4₀ : gr M (gr M g₀ 0) 4 = t₀ + 2 := by rw [g0]; exact s4₀
  have t4n : gr M (gr M g₀ 0) 4 ≠ 0 := by omega
  have t4k : kd M (gr M (gr M g₀ 0) 4) = 8 := by rw [t4₀]; exact kwt
  have t4l : ln M (gr M (gr M g₀ 0) 4) = 10 := by rw [t4₀]; exact lwt
  have u5 : gr M (gr M g₀ 1) 5 = u₀ + 3 := by rw [g1]; exact r5₀
  have u5n : gr M (gr M g₀ 1) 5 ≠ 0 := by omega
  have u5k : kd M (gr M (gr M g₀ 1) 5) = 4 := by rw [u5]; exact kcu
  have u3 : gr M (gr M g₀ 1) 3 = u₀ + 1 := by rw [g1]; exact r3
  have u3n : gr M (gr M g₀ 1) 3 ≠ 0 := by omega
  have u3k : kd M (gr M (gr M g₀ 1) 3) = 8 := by rw [u3]; exact khu
  have u3l : ln M (gr M (gr M g₀ 1) 3) = 12 := by rw [u3]; exact lhu
  have u4₀ : gr M (gr M g₀ 1) 4 = u₀ + 2 := by rw [g1]; exact r4
  have u4n : gr M (gr M g₀ 1) 4 ≠ 0 := by omega
  have u4k : kd M (gr M (gr M g₀ 1) 4) = 8 := by rw [u4₀]; exact kwu
  have u4l : ln M (gr M (gr M g₀ 1) 4) = 10 := by rw [u4₀]; exact lwu
  have e0₀ : gi M (gr M g₀ 0) 0 = gi M t₀ 0 := by rw [g0]
  have e1₀ : gi M (gr M g₀ 0) 1 = gi M t₀ 1 := by rw [g0]
  have e2₀ : gi M (gr M g₀ 0) 2 = gi M t₀ 2 := by rw [g0]
  clear G w1₀ w3₀ w4₀ w5 tl nb tbu clu G0'
  refine hK₀ _ _ _ _ _ ?_
  (repeat' (((conv => whnf); first | (show (_ : Option mg_V) = _ ∧ _; assumption) | (show K _ _ _ _ _; assumption) | (show mm_th _ _ _ _; assumption) | refine And.intro (by first | assumption | omega | (simp only [true_and]; first | done | assumption | omega)) ?_ | (refine And.intro (fun _ => ?_) (fun _ => ?_) <;> first | (exfalso; omega) | skip) | intro _ | fail)))
  all_goals (try ((conv => whnf); (refine Exists.intro _ (Exists.intro _ (And.intro (ck) (And.intro ?_ (fun _ _ h₀ => h₀.elim)))); rintro _ _ ⟨rfl, e₀⟩; have e2₀ := e₀.symm; clear e₀; subst e2₀); (repeat' (((conv => whnf); first | (show (_ : Option mg_V) = _ ∧ _; assumption) | (show K _ _ _ _ _; assumption) | (show mm_th _ _ _ _; assumption) | refine And.intro (by first | assumption | omega | (simp only [true_and]; first | done | assumption | omega)) ?_ | (refine And.intro (fun _ => ?_) (fun _ => ?_) <;> first | (exfalso; omega) | skip) | intro _ | fail)))))
  all_goals ((conv => whnf); skip)
  refine Exists.intro _ (Exists.intro _ (And.intro (RM₀) (And.intro ?_ (fun _ _ h₀ => h₀.elim))))
  rintro _ N1 ⟨rfl, Rr⟩
  obtain ⟨K1, E1₀, FR, h21⟩ := mh_rmb_K K9 Rr
  clear RM₀
  obtain ⟨tl1, nb1⟩ := K1.2.2.2.1
  have v1₀ := (E1₀ t₀ (by omega) (by omega)).2.2.2
  have v10 := v1₀ 0
  have v11 := v1₀ 1
  have v12 := v1₀ 2
  have F1₀ := mh_gF_of K1
  have UR₀ := mh_rmb_u Rr (by omega)
  clear u4l u4k u4n u4₀ u3l u3k u3n u3 u5k u5n u5 t4l t4k t4n t4₀ t3l t3k t3n t3₀ t5k t5n t5₀ g5k g5n g4k g4n g3k g3n g1k g1n g0k g0n pl kbc kg kk kb ka lwu kwu lhu khu kcu r4 r3 r5₀ ku lwt kwt lht kht kct s4₀ s3₀ s5 kt g5₀ g4 g3₀ g1 g0 k6₀
  obtain ⟨⟨k61_, g01_, g11_, g31_, g41_, g51_⟩, ⟨kt1_, s51_, s31_, s41_, kct1_, ⟨kht1_, lht1_⟩, ⟨kwt1_, lwt1_⟩⟩, ⟨ku1_, r51_, r31_, r41_, kcu1_, ⟨khu1_, lhu1_⟩, ⟨kwu1_, lwu1_⟩⟩, ⟨ka1_, kb1_, kk1_, kg1_, kbc1_⟩, pl1_⟩ := F1₀
  have g0n1_ : gr N1 g₀ 0 ≠ 0 := by omega
  have g0k1_ : kd N1 (gr N1 g₀ 0) = 5 := by rw [g01_]; exact kt1_
  have g1n1_ : gr N1 g₀ 1 ≠ 0 := by omega
  have g1k1_ : kd N1 (gr N1 g₀ 1) = 5 := by rw [g11_]; exact ku1_
  have g3n1_ : gr N1 g₀ 3 ≠ 0 := by omega
  have g3k1_ : kd N1 (gr N1 g₀ 3) = 1 := by rw [g31_]; exact ka1_
  have g4n1_ : gr N1 g₀ 4 ≠ 0 := by omega
  have g4k1_ : kd N1 (gr N1 g₀ 4) = 1 := by rw [g41_]; exact kb1_
  have g5n1_ : gr N1 g₀ 5 ≠ 0 := by omega
  have g5k1_ : kd N1 (gr N1 g₀ 5) = 2 := by rw [g51_]; exact kk1_
  have t51_ : gr N1 (gr N1 g₀ 0) 5 = t₀ + 3 := by rw [g01_]; exact s51_
  have t5n1_ : gr N1 (gr N1 g₀ 0) 5 ≠ 0 := by omega
  have t5k1_ : kd N1 (gr N1 (gr N1 g₀ 0) 5) = 4 := by rw [t51_]; exact kct1_
  have t31_ : gr N1 (gr N1 g₀ 0) 3 = t₀ + 1 := by rw [g01_]; exact s31_
  have t3n1_ : gr N1 (gr N1 g₀ 0) 3 ≠ 0 := by omega
  have t3k1_ : kd N1 (gr N1 (gr N1 g₀ 0) 3) = 8 := by rw [t31_]; exact kht1_
  have t3l1_ : ln N1 (gr N1 (gr N1 g₀ 0) 3) = 12 := by rw [t31_]; exact lht1_
  have t41_ : gr N1 (gr N1 g₀ 0) 4 = t₀ + 2 := by rw [g01_]; exact s41_
  have t4n1_ : gr N1 (gr N1 g₀ 0) 4 ≠ 0 := by omega
  have t4k1_ : kd N1 (gr N1 (gr N1 g₀ 0) 4) = 8 := by rw [t41_]; exact kwt1_
  have t4l1_ : ln N1 (gr N1 (gr N1 g₀ 0) 4) = 10 := by rw [t41_]; exact lwt1_
  have u51_ : gr N1 (gr N1 g₀ 1) 5 = u₀ + 3 := by rw [g11_]; exact r51_
  have u5n1_ : gr N1 (gr N1 g₀ 1) 5 ≠ 0 := by omega
  have u5k1_ : kd N1 (gr N1 (gr N1 g₀ 1) 5) = 4 := by rw [u51_]; exact kcu1_
  have u31_ : gr N1 (gr N1 g₀ 1) 3 = u₀ + 1 := by rw [g11_]; exact r31_
  have u3n1_ : gr N1 (gr N1 g₀ 1) 3 ≠ 0 := by omega
  have u3k1_ : kd N1 (gr N1 (gr N1 g₀ 1) 3) = 8 := by rw [u31_]; exact khu1_
  have u3l1_ : ln N1 (gr N1 (gr N1 g₀ 1) 3) = 12 := by rw [u31_]; exact lhu1_
  have u41_ : gr N1 (gr N1 g₀ 1) 4 = u₀ + 2 := by rw [g11_]; exact r41_
  have u4n1_ : gr N1 (gr N1 g₀ 1) 4 ≠ 0 := by omega
  have u4k1_ : kd N1 (gr N1 (gr N1 g₀ 1) 4) = 8 := by rw [u41_]; exact kwu1_
  have u4l1_ : ln N1 (gr N1 (gr N1 g₀ 1) 4) = 10 := by rw [u41_]; exact lwu1_
  have uo : gi (si N1 (gr N1 (gr N1 g₀ 0) 3) c₀.toNat x₀) (gr N1 (gr N1 g₀ 1) 3) c₀.toNat = gi M (t₀ + 1) c₀.toNat := by
    rw [t31_, u31_, gi_si, if_neg (by omega)]
    exact UR₀.2.1 _ (by omega)
  have Q₀ : some (Sum.inl (gi (si N1 (gr N1 (gr N1 g₀ 0) 3) c₀.toNat x₀) (gr N1 (gr N1 g₀ 1) 3) c₀.toNat) : mg_V) = some (.inl (gi M (t₀ + 1) c₀.toNat)) ∧ ∃ N2, mh_rmb M N2 g₀ t₀ u₀ ∧ si N1 (gr N1 (gr N1 g₀ 0) 3) c₀.toNat x₀ = si N2 (t₀ + 1) c₀.toNat x₀ := ⟨by rw [uo], N1, Rr, by rw [t31_]⟩
  have zz1 : kd (si N1 (gr N1 (gr N1 g₀ 0) 3) c₀.toNat x₀) g₀ = 6 := k61_
  have zz2 : gr (si N1 (gr N1 (gr N1 g₀ 0) 3) c₀.toNat x₀) g₀ 1 = gr N1 g₀ 1 := rfl
  have zz3 : kd (si N1 (gr N1 (gr N1 g₀ 0) 3) c₀.toNat x₀) (gr N1 g₀ 1) = 5 := g1k1_
  have zz4 : gr (si N1 (gr N1 (gr N1 g₀ 0) 3) c₀.toNat x₀) (gr N1 g₀ 1) 3 = gr N1 (gr N1 g₀ 1) 3 := rfl
  have zz5 : kd (si N1 (gr N1 (gr N1 g₀ 0) 3) c₀.toNat x₀) (gr N1 (gr N1 g₀ 1) 3) = 8 := u3k1_
  have zz6 : ln (si N1 (gr N1 (gr N1 g₀ 0) 3) c₀.toNat x₀) (gr N1 (gr N1 g₀ 1) 3) = 12 := u3l1_
  clear Rr K1 E1₀ FR K9 tlM nbM tl1 nb1 UR₀ uo
  generalize hY : si N1 (gr N1 (gr N1 g₀ 0) 3) c₀.toNat x₀ = Y at *
  (repeat' (((conv => whnf); first | (show (_ : Option mg_V) = _ ∧ _; assumption) | (show K _ _ _ _ _; assumption) | (show mm_th _ _ _ _; assumption) | refine And.intro (by first | assumption | omega | (simp only [true_and]; first | done | assumption | omega)) ?_ | (refine And.intro (fun _ => ?_) (fun _ => ?_) <;> first | (exfalso; omega) | skip) | intro _ | fail)))
  all_goals ((conv => whnf); rw [hY])
  (repeat' (((conv => whnf); first | (show (_ : Option mg_V) = _ ∧ _; assumption) | (show K _ _ _ _ _; assumption) | (show mm_th _ _ _ _; assumption) | refine And.intro (by first | assumption | omega | (simp only [true_and]; first | done | assumption | omega)) ?_ | (refine And.intro (fun _ => ?_) (fun _ => ?_) <;> first | (exfalso; omega) | skip) | intro _ | fail)))
  all_goals ((conv => whnf); rw [zz2])
  (repeat' (((conv => whnf); first | (show (_ : Option mg_V) = _ ∧ _; assumption) | (show K _ _ _ _ _; assumption) | (show mm_th _ _ _ _; assumption) | refine And.intro (by first | assumption | omega | (simp only [true_and]; first | done | assumption | omega)) ?_ | (refine And.intro (fun _ => ?_) (fun _ => ?_) <;> first | (exfalso; omega) | skip) | intro _ | fail)))
  all_goals ((conv => whnf); rw [zz4])
  (repeat' (((conv => whnf); first | (show (_ : Option mg_V) = _ ∧ _; assumption) | (show K _ _ _ _ _; assumption) | (show mm_th _ _ _ _; assumption) | refine And.intro (by first | assumption | omega | (simp only [true_and]; first | done | assumption | omega)) ?_ | (refine And.intro (fun _ => ?_) (fun _ => ?_) <;> first | (exfalso; omega) | skip) | intro _ | fail)))
