/-! the law's loop₀ and its start₀ -/
set_option maxRecDepth 100000 in
theorem lw_turn (FL : mh_FL) {D : mg_D} {l : Launch} (hl : l.stackTraces = false) {N : mg_O} {X₀ : mg_X} {K : mg_K} {M : mg_M} {s₀ g₀ m₀ o od n₀ : Nat} {i₀ : Int} {B₀ : Nat} (L₀ : mh_L M s₀ g₀ m₀ o od n₀) (hi : 0 ≤ i₀ ∧ i₀ + 5 ≤ n₀) (hB₀ : 4 ≤ B₀) (nex : ∀ M' B', mh_L M' s₀ g₀ m₀ o od n₀ → B₀ ≤ B' + 4 → K 28 [(0, Sum.inr (Sum.inl s₀)), (1, Sum.inr (Sum.inl g₀)), (2, Sum.inr (Sum.inl m₀)), (3, Sum.inr (Sum.inl o)), (4, Sum.inr (Sum.inl od)), (5, Sum.inl (i₀ + 5))] [] M' B') (x₀ : Int) : mg_sw [228, 241, 254, 267, 280, 336, 392, 448, 504, 572, 640, 708, 776, 844, 912, 980, 1060, 1116, 1208, 1266, 1279, 1371, 1415, 1497, 1541, 1554, 1646, 1702, 1715, 1799, 1855, 1911, 1979, 2047, 2115, 2183, 2251, 2319, 2370, 2384, 2449, 2492] x₀ 0 (fun t₀ => mg_ev mc_L_lawb (mg_Mt D l) N X₀ K 988 true t₀ [(0, Sum.inr (Sum.inl s₀)), (1, Sum.inr (Sum.inl g₀)), (2, Sum.inr (Sum.inl m₀)), (3, Sum.inr (Sum.inl o)), (4, Sum.inr (Sum.inl od)), (5, Sum.inl (i₀))] [] M B₀) := by
  -- refine hK₀ _ _ _ _ _ ?_
  (conv => whnf)
  refine And.intro (fun _ => lw_rows hl L₀ hi hB₀ nex) ?_
  (conv => whnf)
  refine And.intro (fun _ => lw_columns hl L₀ hi hB₀ nex) ?_
  (conv => whnf)
  refine And.intro (fun _ => lw_cellCount hl L₀ hi hB₀ nex) ?_
  (conv => whnf)
  refine And.intro (fun _ => lw_cellsBySquares hl L₀ hi hB₀ nex) ?_
  (conv => whnf)
  refine And.intro (fun _ => lw_insertRow hl L₀ hi hB₀ nex) ?_
  (conv => whnf)
  refine And.intro (fun _ => lw_insertColumn hl L₀ hi hB₀ nex) ?_
  (conv => whnf)
  refine And.intro (fun _ => lw_deleteRow hl L₀ hi hB₀ nex) ?_
  (conv => whnf)
  refine And.intro (fun _ => lw_deleteColumn hl L₀ hi hB₀ nex) ?_
  (conv => whnf)
  refine And.intro (fun _ => lw_moveRow hl L₀ hi hB₀ nex) ?_
  (conv => whnf)
  refine And.intro (fun _ => lw_topOf hl L₀ hi hB₀ nex) ?_
  (conv => whnf)
  refine And.intro (fun _ => lw_leftOf hl L₀ hi hB₀ nex) ?_
  (conv => whnf)
  refine And.intro (fun _ => lw_rowsOf hl L₀ hi hB₀ nex) ?_
  (conv => whnf)
  refine And.intro (fun _ => lw_columnsOf hl L₀ hi hB₀ nex) ?_
  (conv => whnf)
  refine And.intro (fun _ => lw_contentAt hl L₀ hi hB₀ nex) ?_
  (conv => whnf)
  refine And.intro (fun _ => lw_styleAt hl L₀ hi hB₀ nex) ?_
  (conv => whnf)
  refine And.intro (fun _ => lw_setContent hl L₀ hi hB₀ nex) ?_
  (conv => whnf)
  refine And.intro (fun _ => lw_setStyle hl L₀ hi hB₀ nex) ?_
  (conv => whnf)
  refine And.intro (fun _ => lw_select hl L₀ hi hB₀ nex) ?_
  (conv => whnf)
  refine And.intro (fun _ => lw_selected hl L₀ hi hB₀ nex) ?_
  (conv => whnf)
  refine And.intro (fun _ => lw_selectedCells hl L₀ hi hB₀ nex) ?_
  (conv => whnf)
  refine And.intro (fun _ => lw_squaresFor hl L₀ hi hB₀ nex) ?_
  (conv => whnf)
  refine And.intro (fun _ => lw_merge hl L₀ hi hB₀ nex) ?_
  (conv => whnf)
  refine And.intro (fun _ => lw_split hl L₀ hi hB₀ nex) ?_
  (conv => whnf)
  refine And.intro (fun _ => lw_clear hl L₀ hi hB₀ nex) ?_
  (conv => whnf)
  refine And.intro (fun _ => lw_copy hl L₀ hi hB₀ nex) ?_
  (conv => whnf)
  refine And.intro (fun _ => lw_paste hl L₀ hi hB₀ nex) ?_
  (conv => whnf)
  refine And.intro (fun _ => lw_setHeader hl L₀ hi hB₀ nex) ?_
  (conv => whnf)
  refine And.intro (fun _ => lw_header hl L₀ hi hB₀ nex) ?_
  (conv => whnf)
  refine And.intro (fun _ => lw_sort hl L₀ hi hB₀ nex) ?_
  (conv => whnf)
  refine And.intro (fun _ => lw_widthOf hl L₀ hi hB₀ nex) ?_
  (conv => whnf)
  refine And.intro (fun _ => lw_heightOf hl L₀ hi hB₀ nex) ?_
  (conv => whnf)
  refine And.intro (fun _ => lw_setWidth hl L₀ hi hB₀ nex) ?_
  (conv => whnf)
  refine And.intro (fun _ => lw_setHeight hl L₀ hi hB₀ nex) ?_
  (conv => whnf)
  refine And.intro (fun _ => lw_drag hl L₀ hi hB₀ nex) ?_
  (conv => whnf)
  refine And.intro (fun _ => lw_even hl L₀ hi hB₀ nex) ?_
  (conv => whnf)
  refine And.intro (fun _ => lw_sizeOf hl L₀ hi hB₀ nex) ?_
  (conv => whnf)
  refine And.intro (fun _ => lw_cellAt hl L₀ hi hB₀ nex) ?_
  (conv => whnf)
  refine And.intro (fun _ => lw_takeBack hl L₀ hi hB₀ nex) ?_
  (conv => whnf)
  refine And.intro (fun _ => lw_sum hl L₀ hi hB₀ nex) ?_
  (conv => whnf)
  refine And.intro (fun _ => lw_mean FL hl L₀ hi hB₀ nex) ?_
  (conv => whnf)
  refine And.intro (fun _ => lw_mergedShare FL hl L₀ hi hB₀ nex) ?_
  (conv => whnf)
  refine And.intro (fun _ => lw_isTiled hl L₀ hi hB₀ nex) ?_
  (conv => whnf)
  exact True.intro
set_option maxRecDepth 100000 in
theorem lw_head (FL : mh_FL) {D : mg_D} {l : Launch} (hl : l.stackTraces = false) {N : mg_O} {X₀ : mg_X} {K : mg_K} (hK₀ : ∀ pc ls st₀ M B₀, mg_ev mc_L_lawb (mg_Mt D l) N X₀ K 1000 false pc ls st₀ M B₀ → K pc ls st₀ M B₀) (hN₀ : ∀ M, N (some (.inl 1)) M) {s₀ g₀ m₀ o od n₀ : Nat} : ∀ (r₀ : Nat) (M : mg_M) (i₀ : Int) (B₀ : Nat), mh_L M s₀ g₀ m₀ o od n₀ → 0 ≤ i₀ → i₀ ≤ 2565 → (n₀ : Int) < i₀ + 5 * (r₀ : Int) → 4 * r₀ ≤ B₀ → K 28 [(0, Sum.inr (Sum.inl s₀)), (1, Sum.inr (Sum.inl g₀)), (2, Sum.inr (Sum.inl m₀)), (3, Sum.inr (Sum.inl o)), (4, Sum.inr (Sum.inl od)), (5, Sum.inl (i₀))] [] M B₀ := by
  intro r₀
  induction r₀ with
  | zero =>
    intro M i₀ B₀ L₀ i0₀ i1₀ hr hB₀
    have ks₀ := L₀.1.1
    have lns := L₀.1.2.1
    have nn := L₀.1.2.2.2
    have h1 : ((ln M s₀ : Nat) : Int) - 5 < i₀ := by omega
    have Q₀ := hN₀ M
    refine hK₀ _ _ _ _ _ ?_
    (repeat' (((conv => whnf); first | (show (_ : Option mg_V) = _ ∧ _; assumption) | (show K _ _ _ _ _; assumption) | (show mm_th _ _ _ _; assumption) | refine And.intro (by first | assumption | omega) ?_ | (refine And.intro (fun _ => ?_) (fun _ => ?_) <;> first | (exfalso; omega) | skip) | intro _ | fail)))
    all_goals ((conv => whnf); first | exact hN₀ _ | (refine And.intro (Or.inr rfl) ?_; (conv => whnf); exact hN₀ _) | skip)
  | succ r₀ ih₀ =>
    intro M i₀ B₀ L₀ i0₀ i1₀ hr hB₀
    have ks₀ := L₀.1.1
    have lns := L₀.1.2.1
    have nn := L₀.1.2.2.2
    by_cases h₀ : (n₀ : Int) < i₀ + 5
    · have h1 : ((ln M s₀ : Nat) : Int) - 5 < i₀ := by omega
      have Q₀ := hN₀ M
      clear ih₀
      refine hK₀ _ _ _ _ _ ?_
      (repeat' (((conv => whnf); first | (show (_ : Option mg_V) = _ ∧ _; assumption) | (show K _ _ _ _ _; assumption) | (show mm_th _ _ _ _; assumption) | refine And.intro (by first | assumption | omega) ?_ | (refine And.intro (fun _ => ?_) (fun _ => ?_) <;> first | (exfalso; omega) | skip) | intro _ | fail)))
      all_goals ((conv => whnf); first | exact hN₀ _ | (refine And.intro (Or.inr rfl) ?_; (conv => whnf); exact hN₀ _) | skip)
    · have nex : ∀ M' B', mh_L M' s₀ g₀ m₀ o od n₀ → B₀ ≤ B' + 4 → K 28 [(0, Sum.inr (Sum.inl s₀)), (1, Sum.inr (Sum.inl g₀)), (2, Sum.inr (Sum.inl m₀)), (3, Sum.inr (Sum.inl o)), (4, Sum.inr (Sum.inl od)), (5, Sum.inl (i₀ + 5))] [] M' B' := fun M' B' L' hB' => ih₀ M' (i₀ + 5) B' L' (by omega) (by omega) (by omega) (by omega)
      have d₀ : ∀ B', B₀ ≤ B' + 4 → K 28 [(0, Sum.inr (Sum.inl s₀)), (1, Sum.inr (Sum.inl g₀)), (2, Sum.inr (Sum.inl m₀)), (3, Sum.inr (Sum.inl o)), (4, Sum.inr (Sum.inl od)), (5, Sum.inl (i₀ + 5))] [] M B' := fun B' hB' => nex M B' L₀ hB'
      have T := lw_turn FL (D := D) hl (N := N) (X₀ := X₀) L₀ (by omega) (by omega) nex
      have h1 : i₀ ≤ ((ln M s₀ : Nat) : Int) - 5 := by omega
      clear ih₀
      refine hK₀ _ _ _ _ _ ?_
      (repeat' (((conv => whnf); first | (show (_ : Option mg_V) = _ ∧ _; assumption) | (show K _ _ _ _ _; assumption) | (show mm_th _ _ _ _; assumption) | refine And.intro (by first | assumption | omega) ?_ | (refine And.intro (fun _ => ?_) (fun _ => ?_) <;> first | (exfalso; omega) | skip) | intro _ | fail)))
      all_goals ((conv => whnf); first | (refine And.intro (T _) ?_) | skip)
      clear T nex
      (repeat' (((conv => whnf); first | (show (_ : Option mg_V) = _ ∧ _; assumption) | (show K _ _ _ _ _; assumption) | (show mm_th _ _ _ _; assumption) | refine And.intro (by first | assumption | omega) ?_ | (refine And.intro (fun _ => ?_) (fun _ => ?_) <;> first | (exfalso; omega) | skip) | intro _ | fail)))
      all_goals ((conv => whnf); first | exact d₀ _ (by omega) | skip)
set_option maxRecDepth 100000 in
theorem lw_run (FL : mh_FL) {D : mg_D} {l : Launch} (hl : l.stackTraces = false) {N : mg_O} {X₀ : mg_X} {K : mg_K} (hK₀ : ∀ pc ls st₀ M B₀, mg_ev mc_L_lawb (mg_Mt D l) N X₀ K 1000 false pc ls st₀ M B₀ → K pc ls st₀ M B₀) (hN₀ : ∀ M, N (some (.inl 1)) M) {M : mg_M} {s₀ n₀ : Nat} (ks₀ : kd M s₀ = 12) (lns : ln M s₀ = n₀) (nn : n₀ ≤ 2560) (sn : s₀ < nx M) (bd : ∀ k₀, -2147483648 ≤ gi M s₀ k₀ ∧ gi M s₀ k₀ < 2147483648) : K 0 [(0, Sum.inr (Sum.inl s₀))] [] M 3000 := by
  obtain ⟨g₀, hg⟩ : ∃ g₀, g₀ = nx M := ⟨_, rfl⟩
  have C1₀ := @cX5_init D l hl (al M 6 0) g₀ (by rw [kd_al, if_pos hg]) (by rw [nx_al, hg]) (fun k₀ => by rw [gi_al, if_pos hg])
  refine hK₀ _ _ _ _ _ ?_
  (repeat' (((conv => whnf); first | (show (_ : Option mg_V) = _ ∧ _; assumption) | (show K _ _ _ _ _; assumption) | (show mm_th _ _ _ _; assumption) | refine And.intro (by first | assumption | omega | (simp only [true_and]; first | done | assumption | omega)) ?_ | (refine And.intro (fun _ => ?_) (fun _ => ?_) <;> first | (exfalso; omega) | skip) | intro _ | fail)))
  all_goals ((conv => whnf); rw [← hg])
  refine Exists.intro _ (Exists.intro _ (And.intro (C1₀) (And.intro ?_ (fun _ _ h₀ => h₀.elim))))
  rintro _ P ⟨rfl, h1⟩
  clear C1₀
  have hm₀ : nx P = g₀ + 385 := h1.1.1
  have C2₀ := @cX6_init D l hl (al P 7 0) (g₀ + 385) (by rw [kd_al, if_pos hm₀.symm]) (by rw [nx_al, hm₀]) (fun k₀ => by rw [gi_al, if_pos hm₀.symm])
  (repeat' (((conv => whnf); first | (show (_ : Option mg_V) = _ ∧ _; assumption) | (show K _ _ _ _ _; assumption) | (show mm_th _ _ _ _; assumption) | refine And.intro (by first | assumption | omega | (simp only [true_and]; first | done | assumption | omega)) ?_ | (refine And.intro (fun _ => ?_) (fun _ => ?_) <;> first | (exfalso; omega) | skip) | intro _ | fail)))
  all_goals ((conv => whnf); rw [hm₀])
  refine Exists.intro _ (Exists.intro _ (And.intro (C2₀) (And.intro ?_ (fun _ _ h₀ => h₀.elim))))
  rintro _ Q₀ ⟨rfl, h2⟩
  clear C2₀
  have hq : nx Q₀ = g₀ + 385 + 18 := h2.2.1
  have sP : kd P s₀ = 12 ∧ ln P s₀ = n₀ ∧ ∀ k₀, gi P s₀ k₀ = gi M s₀ k₀ := by
    obtain ⟨p1₀, p2₀, p3₀, p4₀, -, -⟩ := h1.1.2 s₀ (by omega)
    refine ⟨p1₀.trans ?_, p2₀.trans ?_, fun k₀ => (p4₀ k₀).trans ?_⟩
    · rw [kd_al, if_neg (by omega)]; exact ks₀
    · rw [ln_al, if_neg (by omega)]; exact lns
    · rw [gi_al, if_neg (by omega)]
  have sQ : kd Q₀ s₀ = 12 ∧ ln Q₀ s₀ = n₀ ∧ ∀ k₀, gi Q₀ s₀ k₀ = gi M s₀ k₀ := by
    obtain ⟨p1₀, p2₀, p3₀, p4₀, -, -⟩ := h2.2.2.1 s₀ (by omega)
    refine ⟨p1₀.trans ?_, p2₀.trans ?_, fun k₀ => (p4₀ k₀).trans ?_⟩
    · rw [kd_al, if_neg (by omega)]; exact sP.1
    · rw [ln_al, if_neg (by omega)]; exact sP.2.1
    · rw [gi_al, if_neg (by omega)]; exact sP.2.2 k₀
  have w₀ : ∀ B₀, 2052 ≤ B₀ → K 28 [(0, Sum.inr (Sum.inl s₀)), (1, Sum.inr (Sum.inl g₀)), (2, Sum.inr (Sum.inl (g₀ + 385))), (3, Sum.inr (Sum.inl (nx Q₀))), (4, Sum.inr (Sum.inl (nx (al Q₀ 10 (Int.toNat 1))))), (5, Sum.inl 0)] [] (al (al Q₀ 10 (Int.toNat 1)) 11 (Int.toNat 1)) B₀ := by
    intro B₀ hB₀
    have n1₀ : nx (al Q₀ 10 (Int.toNat 1)) = nx Q₀ + 1 := nx_al
    refine lw_head FL hl hK₀ hN₀ 513 _ 0 B₀ ⟨⟨?_, ?_, by omega, nn⟩, fun k₀ => ?_, ⟨?_, ?_⟩, ⟨?_, ?_⟩, g₀ + 1, g₀ + 130, mh_INV_new h1 rfl h2 (fun a₀ ha₀ => ?_)⟩ (by omega) (by omega) (by omega) (by omega)
    · rw [kd_al, if_neg (by omega), kd_al, if_neg (by omega)]; exact sQ.1
    · rw [ln_al, if_neg (by omega), ln_al, if_neg (by omega)]; exact sQ.2.1
    · rw [gi_al, if_neg (by omega), gi_al, if_neg (by omega), sQ.2.2 k₀]; exact bd k₀
    · rw [kd_al, if_neg (by omega), kd_al, if_pos rfl]
    · rw [ln_al, if_neg (by omega), ln_al, if_pos rfl]; rfl
    · rw [kd_al, if_pos rfl]
    · rw [ln_al, if_pos rfl]; rfl
    · refine ⟨?_, ?_, fun k₀ => ?_, fun k₀ => ?_⟩
      · rw [kd_al, if_neg (by omega), kd_al, if_neg (by omega)]
      · rw [ln_al, if_neg (by omega), ln_al, if_neg (by omega)]
      · rw [gr_al, if_neg (by omega), gr_al, if_neg (by omega)]
      · rw [gi_al, if_neg (by omega), gi_al, if_neg (by omega)]
  clear h1 h2 sP sQ hK₀ hN₀ bd FL
  (repeat' (((conv => whnf); first | (show (_ : Option mg_V) = _ ∧ _; assumption) | (show K _ _ _ _ _; assumption) | (show mm_th _ _ _ _; assumption) | refine And.intro (by first | assumption | omega | (simp only [true_and]; first | done | assumption | omega)) ?_ | (refine And.intro (fun _ => ?_) (fun _ => ?_) <;> first | (exfalso; omega) | skip) | intro _ | fail)))
  all_goals ((conv => whnf); first | exact w₀ _ (by omega) | skip)
