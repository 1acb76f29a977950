/-! the law's cases that are compared at once -/
def mh_opI (D : mg_D) (l : Launch) (yc ym : Nat) (M : mg_M) (g₀ m₀ : Nat) : Prop := ∃ N : Int → mg_M → Prop, mg_Mt D l yc [.inr (.inl g₀)] M (fun v₀ P => ∃ z₀, v₀ = some (.inl z₀) ∧ N z₀ P) mg_no ∧ ∀ z₀ P, N z₀ P → mh_far M P g₀ ∧ mg_Mt D l ym [.inr (.inl m₀)] P (fun w₀ Q₀ => w₀ = some (.inl z₀) ∧ gi Q₀ m₀ 0 = 0 ∧ mh_far P Q₀ g₀ ∧ ∃ t₀ u₀, mh_INV Q₀ g₀ m₀ t₀ u₀) mg_no
def mh_opJ (D : mg_D) (l : Launch) (yc ym : Nat) (M : mg_M) (g₀ m₀ : Nat) : Prop := ∃ N : Int → mg_M → Prop, mg_Mt D l yc [.inr (.inl g₀)] M (fun v₀ P => ∃ z₀, v₀ = some (.inr (.inr (.inl z₀))) ∧ N z₀ P) mg_no ∧ ∀ z₀ P, N z₀ P → mh_far M P g₀ ∧ mg_Mt D l ym [.inr (.inl m₀)] P (fun w₀ Q₀ => w₀ = some (.inr (.inr (.inl z₀))) ∧ gi Q₀ m₀ 0 = 0 ∧ mh_far P Q₀ g₀ ∧ ∃ t₀ u₀, mh_INV Q₀ g₀ m₀ t₀ u₀) mg_no
theorem tj_rows {D : mg_D} {l : Launch} (hl : l.stackTraces = false) {M : mg_M} {g₀ m₀ t₀ u₀ : Nat} (I₀ : mh_INV M g₀ m₀ t₀ u₀) : mh_opI D l 72 140 M g₀ m₀ := by
  obtain ⟨st₀, rc, h4, si9, rts, hid₀, cnt₀, hco, hw, hh, hb₀, hd₀⟩ := mh_INV_m I₀
  have K9 := I₀.1
  have V9 := I₀.2.1
  have zf := I₀.2.2.2.1
  have sq := I₀.2.2.2.2.1
  refine ⟨fun z₀ P => z₀ = (gi M t₀ 0) ∧ P = M, mg_MtN (cX5_rows hl K9) (fun v₀ P h₀ => ⟨_, h₀.1, rfl, h₀.2⟩), ?_⟩
  rintro _ P ⟨rfl, rfl⟩
  refine ⟨mh_far_rfl, mg_MtN (cX6_rows hl st₀.1) ?_⟩
  rintro w₀ Q₀ ⟨e₀, hQ⟩
  exact ⟨by rw [e₀, zf.1], mh_INV_q I₀ hQ⟩
set_option maxRecDepth 100000 in
theorem lw_rows {D : mg_D} {l : Launch} (hl : l.stackTraces = false) {N : mg_O} {X₀ : mg_X} {K : mg_K} {M : mg_M} {s₀ g₀ m₀ o od n₀ : Nat} {i₀ : Int} {B₀ : Nat} (L₀ : mh_L M s₀ g₀ m₀ o od n₀) (hi : 0 ≤ i₀ ∧ i₀ + 5 ≤ n₀) (hB₀ : 4 ≤ B₀) (nex : ∀ M' B', mh_L M' s₀ g₀ m₀ o od n₀ → B₀ ≤ B' + 4 → K 28 [(0, Sum.inr (Sum.inl s₀)), (1, Sum.inr (Sum.inl g₀)), (2, Sum.inr (Sum.inl m₀)), (3, Sum.inr (Sum.inl o)), (4, Sum.inr (Sum.inl od)), (5, Sum.inl (i₀ + 5))] [] M' B') : mg_ev mc_L_lawb (mg_Mt D l) N X₀ K 988 true 228 [(0, Sum.inr (Sum.inl s₀)), (1, Sum.inr (Sum.inl g₀)), (2, Sum.inr (Sum.inl m₀)), (3, Sum.inr (Sum.inl o)), (4, Sum.inr (Sum.inl od)), (5, Sum.inl (i₀))] [] M B₀ := by
  -- refine hK₀ _ _ _ _ _ ?_
  obtain ⟨t₀, u₀, I₀⟩ := L₀.2.2.2.2
  have ks₀ := L₀.1.1
  have nn := L₀.1.2.2.2
  obtain ⟨R, c₀, h₀⟩ := @tj_rows D l hl M g₀ m₀ t₀ u₀ I₀
  have kg : kd M g₀ = 6 := (mh_gF_of I₀.1).1.1
  (repeat' (((conv => whnf); first | (show (_ : Option mg_V) = _ ∧ _; assumption) | (show K _ _ _ _ _; assumption) | (show mm_th _ _ _ _; assumption) | refine And.intro (by first | assumption | omega | (simp only [true_and]; first | done | assumption | omega)) ?_ | (refine And.intro (fun _ => ?_) (fun _ => ?_) <;> first | (exfalso; omega) | skip) | intro _ | fail)))
  all_goals ((conv => whnf); skip)
  refine Exists.intro _ (Exists.intro _ (And.intro (c₀) (And.intro ?_ (fun _ _ h₀ => h₀.elim))))
  rintro _ P ⟨z₀, rfl, hR⟩
  obtain ⟨far₀, mt₀⟩ := h₀ z₀ P hR
  clear h₀ c₀
  have km : kd P m₀ = 7 := (far₀.1 m₀).trans I₀.2.2.1.1.1
  (repeat' (((conv => whnf); first | (show (_ : Option mg_V) = _ ∧ _; assumption) | (show K _ _ _ _ _; assumption) | (show mm_th _ _ _ _; assumption) | refine And.intro (by first | assumption | omega | (simp only [true_and]; first | done | assumption | omega)) ?_ | (refine And.intro (fun _ => ?_) (fun _ => ?_) <;> first | (exfalso; omega) | skip) | intro _ | fail)))
  all_goals ((conv => whnf); skip)
  refine Exists.intro _ (Exists.intro _ (And.intro (mt₀) (And.intro ?_ (fun _ _ h₀ => h₀.elim))))
  rintro _ Q₀ ⟨rfl, q0, fq, inv₀⟩
  clear mt₀
  have LQ := mh_L_fa L₀ ⟨fun a₀ => (fq.1 a₀).trans (far₀.1 a₀), fun a₀ => (fq.2.1 a₀).trans (far₀.2.1 a₀), fun a₀ k₀ w₀ => (fq.2.2.2.2 a₀ k₀ w₀).trans (far₀.2.2.2.2 a₀ k₀ w₀)⟩ inv₀
  have fin : ∀ B', B₀ ≤ B' + 4 → K 28 [(0, Sum.inr (Sum.inl s₀)), (1, Sum.inr (Sum.inl g₀)), (2, Sum.inr (Sum.inl m₀)), (3, Sum.inr (Sum.inl o)), (4, Sum.inr (Sum.inl od)), (5, Sum.inl (i₀ + 5))] [] Q₀ B' := fun B' hB' => nex Q₀ B' LQ hB'
  clear nex inv₀ L₀ I₀ fq far₀
  (repeat' (((conv => whnf); first | (show (_ : Option mg_V) = _ ∧ _; assumption) | (show K _ _ _ _ _; assumption) | (show mm_th _ _ _ _; assumption) | refine And.intro (by first | assumption | omega | (simp only [true_and]; first | done | assumption | omega)) ?_ | (refine And.intro (fun _ => ?_) (fun _ => ?_) <;> first | (exfalso; omega) | skip) | intro _ | fail)))
  all_goals (first | (exfalso; contradiction) | ((conv => whnf); exact fin _ (by omega)) | skip)
theorem tj_columns {D : mg_D} {l : Launch} (hl : l.stackTraces = false) {M : mg_M} {g₀ m₀ t₀ u₀ : Nat} (I₀ : mh_INV M g₀ m₀ t₀ u₀) : mh_opI D l 73 141 M g₀ m₀ := by
  obtain ⟨st₀, rc, h4, si9, rts, hid₀, cnt₀, hco, hw, hh, hb₀, hd₀⟩ := mh_INV_m I₀
  have K9 := I₀.1
  have V9 := I₀.2.1
  have zf := I₀.2.2.2.1
  have sq := I₀.2.2.2.2.1
  refine ⟨fun z₀ P => z₀ = (gi M t₀ 1) ∧ P = M, mg_MtN (cX5_columns hl K9) (fun v₀ P h₀ => ⟨_, h₀.1, rfl, h₀.2⟩), ?_⟩
  rintro _ P ⟨rfl, rfl⟩
  refine ⟨mh_far_rfl, mg_MtN (cX6_columns hl st₀.1) ?_⟩
  rintro w₀ Q₀ ⟨e₀, hQ⟩
  exact ⟨by rw [e₀, zf.2.1], mh_INV_q I₀ hQ⟩
set_option maxRecDepth 100000 in
theorem lw_columns {D : mg_D} {l : Launch} (hl : l.stackTraces = false) {N : mg_O} {X₀ : mg_X} {K : mg_K} {M : mg_M} {s₀ g₀ m₀ o od n₀ : Nat} {i₀ : Int} {B₀ : Nat} (L₀ : mh_L M s₀ g₀ m₀ o od n₀) (hi : 0 ≤ i₀ ∧ i₀ + 5 ≤ n₀) (hB₀ : 4 ≤ B₀) (nex : ∀ M' B', mh_L M' s₀ g₀ m₀ o od n₀ → B₀ ≤ B' + 4 → K 28 [(0, Sum.inr (Sum.inl s₀)), (1, Sum.inr (Sum.inl g₀)), (2, Sum.inr (Sum.inl m₀)), (3, Sum.inr (Sum.inl o)), (4, Sum.inr (Sum.inl od)), (5, Sum.inl (i₀ + 5))] [] M' B') : mg_ev mc_L_lawb (mg_Mt D l) N X₀ K 988 true 241 [(0, Sum.inr (Sum.inl s₀)), (1, Sum.inr (Sum.inl g₀)), (2, Sum.inr (Sum.inl m₀)), (3, Sum.inr (Sum.inl o)), (4, Sum.inr (Sum.inl od)), (5, Sum.inl (i₀))] [] M B₀ := by
  -- refine hK₀ _ _ _ _ _ ?_
  obtain ⟨t₀, u₀, I₀⟩ := L₀.2.2.2.2
  have ks₀ := L₀.1.1
  have nn := L₀.1.2.2.2
  obtain ⟨R, c₀, h₀⟩ := @tj_columns D l hl M g₀ m₀ t₀ u₀ I₀
  have kg : kd M g₀ = 6 := (mh_gF_of I₀.1).1.1
  (repeat' (((conv => whnf); first | (show (_ : Option mg_V) = _ ∧ _; assumption) | (show K _ _ _ _ _; assumption) | (show mm_th _ _ _ _; assumption) | refine And.intro (by first | assumption | omega | (simp only [true_and]; first | done | assumption | omega)) ?_ | (refine And.intro (fun _ => ?_) (fun _ => ?_) <;> first | (exfalso; omega) | skip) | intro _ | fail)))
  all_goals ((conv => whnf); skip)
  refine Exists.intro _ (Exists.intro _ (And.intro (c₀) (And.intro ?_ (fun _ _ h₀ => h₀.elim))))
  rintro _ P ⟨z₀, rfl, hR⟩
  obtain ⟨far₀, mt₀⟩ := h₀ z₀ P hR
  clear h₀ c₀
  have km : kd P m₀ = 7 := (far₀.1 m₀).trans I₀.2.2.1.1.1
  (repeat' (((conv => whnf); first | (show (_ : Option mg_V) = _ ∧ _; assumption) | (show K _ _ _ _ _; assumption) | (show mm_th _ _ _ _; assumption) | refine And.intro (by first | assumption | omega | (simp only [true_and]; first | done | assumption | omega)) ?_ | (refine And.intro (fun _ => ?_) (fun _ => ?_) <;> first | (exfalso; omega) | skip) | intro _ | fail)))
  all_goals ((conv => whnf); skip)
  refine Exists.intro _ (Exists.intro _ (And.intro (mt₀) (And.intro ?_ (fun _ _ h₀ => h₀.elim))))
  rintro _ Q₀ ⟨rfl, q0, fq, inv₀⟩
  clear mt₀
  have LQ := mh_L_fa L₀ ⟨fun a₀ => (fq.1 a₀).trans (far₀.1 a₀), fun a₀ => (fq.2.1 a₀).trans (far₀.2.1 a₀), fun a₀ k₀ w₀ => (fq.2.2.2.2 a₀ k₀ w₀).trans (far₀.2.2.2.2 a₀ k₀ w₀)⟩ inv₀
  have fin : ∀ B', B₀ ≤ B' + 4 → K 28 [(0, Sum.inr (Sum.inl s₀)), (1, Sum.inr (Sum.inl g₀)), (2, Sum.inr (Sum.inl m₀)), (3, Sum.inr (Sum.inl o)), (4, Sum.inr (Sum.inl od)), (5, Sum.inl (i₀ + 5))] [] Q₀ B' := fun B' hB' => nex Q₀ B' LQ hB'
  clear nex inv₀ L₀ I₀ fq far₀
  (repeat' (((conv => whnf); first | (show (_ : Option mg_V) = _ ∧ _; assumption) | (show K _ _ _ _ _; assumption) | (show mm_th _ _ _ _; assumption) | refine And.intro (by first | assumption | omega | (simp only [true_and]; first | done | assumption | omega)) ?_ | (refine And.intro (fun _ => ?_) (fun _ => ?_) <;> first | (exfalso; omega) | skip) | intro _ | fail)))
  all_goals (first | (exfalso; contradiction) | ((conv => whnf); exact fin _ (by omega)) | skip)
theorem tj_cellCount {D : mg_D} {l : Launch} (hl : l.stackTraces = false) {M : mg_M} {g₀ m₀ t₀ u₀ : Nat} (I₀ : mh_INV M g₀ m₀ t₀ u₀) : mh_opI D l 74 142 M g₀ m₀ := by
  obtain ⟨st₀, rc, h4, si9, rts, hid₀, cnt₀, hco, hw, hh, hb₀, hd₀⟩ := mh_INV_m I₀
  have K9 := I₀.1
  have V9 := I₀.2.1
  have zf := I₀.2.2.2.1
  have sq := I₀.2.2.2.2.1
  refine ⟨fun z₀ P => z₀ = (gi M (t₀ + 3) 0) ∧ P = M, mg_MtN (cX5_cellCount hl K9) (fun v₀ P h₀ => ⟨_, h₀.1, rfl, h₀.2⟩), ?_⟩
  rintro _ P ⟨rfl, rfl⟩
  refine ⟨mh_far_rfl, mg_MtN (cX6_cellCount hl st₀.1) ?_⟩
  rintro w₀ Q₀ ⟨e₀, hQ⟩
  exact ⟨by rw [e₀, cnt₀], mh_INV_q I₀ hQ⟩
set_option maxRecDepth 100000 in
theorem lw_cellCount {D : mg_D} {l : Launch} (hl : l.stackTraces = false) {N : mg_O} {X₀ : mg_X} {K : mg_K} {M : mg_M} {s₀ g₀ m₀ o od n₀ : Nat} {i₀ : Int} {B₀ : Nat} (L₀ : mh_L M s₀ g₀ m₀ o od n₀) (hi : 0 ≤ i₀ ∧ i₀ + 5 ≤ n₀) (hB₀ : 4 ≤ B₀) (nex : ∀ M' B', mh_L M' s₀ g₀ m₀ o od n₀ → B₀ ≤ B' + 4 → K 28 [(0, Sum.inr (Sum.inl s₀)), (1, Sum.inr (Sum.inl g₀)), (2, Sum.inr (Sum.inl m₀)), (3, Sum.inr (Sum.inl o)), (4, Sum.inr (Sum.inl od)), (5, Sum.inl (i₀ + 5))] [] M' B') : mg_ev mc_L_lawb (mg_Mt D l) N X₀ K 988 true 254 [(0, Sum.inr (Sum.inl s₀)), (1, Sum.inr (Sum.inl g₀)), (2, Sum.inr (Sum.inl m₀)), (3, Sum.inr (Sum.inl o)), (4, Sum.inr (Sum.inl od)), (5, Sum.inl (i₀))] [] M B₀ := by
  -- refine hK₀ _ _ _ _ _ ?_
  obtain ⟨t₀, u₀, I₀⟩ := L₀.2.2.2.2
  have ks₀ := L₀.1.1
  have nn := L₀.1.2.2.2
  obtain ⟨R, c₀, h₀⟩ := @tj_cellCount D l hl M g₀ m₀ t₀ u₀ I₀
  have kg : kd M g₀ = 6 := (mh_gF_of I₀.1).1.1
  (repeat' (((conv => whnf); first | (show (_ : Option mg_V) = _ ∧ _; assumption) | (show K _ _ _ _ _; assumption) | (show mm_th _ _ _ _; assumption) | refine And.intro (by first | assumption | omega | (simp only [true_and]; first | done | assumption | omega)) ?_ | (refine And.intro (fun _ => ?_) (fun _ => ?_) <;> first | (exfalso; omega) | skip) | intro _ | fail)))
  all_goals ((conv => whnf); skip)
  refine Exists.intro _ (Exists.intro _ (And.intro (c₀) (And.intro ?_ (fun _ _ h₀ => h₀.elim))))
  rintro _ P ⟨z₀, rfl, hR⟩
  obtain ⟨far₀, mt₀⟩ := h₀ z₀ P hR
  clear h₀ c₀
  have km : kd P m₀ = 7 := (far₀.1 m₀).trans I₀.2.2.1.1.1
  (repeat' (((conv => whnf); first | (show (_ : Option mg_V) = _ ∧ _; assumption) | (show K _ _ _ _ _; assumption) | (show mm_th _ _ _ _; assumption) | refine And.intro (by first | assumption | omega | (simp only [true_and]; first | done | assumption | omega)) ?_ | (refine And.intro (fun _ => ?_) (fun _ => ?_) <;> first | (exfalso; omega) | skip) | intro _ | fail)))
  all_goals ((conv => whnf); skip)
  refine Exists.intro _ (Exists.intro _ (And.intro (mt₀) (And.intro ?_ (fun _ _ h₀ => h₀.elim))))
  rintro _ Q₀ ⟨rfl, q0, fq, inv₀⟩
  clear mt₀
  have LQ := mh_L_fa L₀ ⟨fun a₀ => (fq.1 a₀).trans (far₀.1 a₀), fun a₀ => (fq.2.1 a₀).trans (far₀.2.1 a₀), fun a₀ k₀ w₀ => (fq.2.2.2.2 a₀ k₀ w₀).trans (far₀.2.2.2.2 a₀ k₀ w₀)⟩ inv₀
  have fin : ∀ B', B₀ ≤ B' + 4 → K 28 [(0, Sum.inr (Sum.inl s₀)), (1, Sum.inr (Sum.inl g₀)), (2, Sum.inr (Sum.inl m₀)), (3, Sum.inr (Sum.inl o)), (4, Sum.inr (Sum.inl od)), (5, Sum.inl (i₀ + 5))] [] Q₀ B' := fun B' hB' => nex Q₀ B' LQ hB'
  clear nex inv₀ L₀ I₀ fq far₀
  (repeat' (((conv => whnf); first | (show (_ : Option mg_V) = _ ∧ _; assumption) | (show K _ _ _ _ _; assumption) | (show mm_th _ _ _ _; assumption) | refine And.intro (by first | assumption | omega | (simp only [true_and]; first | done | assumption | omega)) ?_ | (refine And.intro (fun _ => ?_) (fun _ => ?_) <;> first | (exfalso; omega) | skip) | intro _ | fail)))
  all_goals (first | (exfalso; contradiction) | ((conv => whnf); exact fin _ (by omega)) | skip)
theorem tj_cellsBySquares {D : mg_D} {l : Launch} (hl : l.stackTraces = false) {M : mg_M} {g₀ m₀ t₀ u₀ : Nat} (I₀ : mh_INV M g₀ m₀ t₀ u₀) : mh_opI D l 75 143 M g₀ m₀ := by
  obtain ⟨st₀, rc, h4, si9, rts, hid₀, cnt₀, hco, hw, hh, hb₀, hd₀⟩ := mh_INV_m I₀
  have K9 := I₀.1
  have V9 := I₀.2.1
  have zf := I₀.2.2.2.1
  have sq := I₀.2.2.2.2.1
  refine ⟨fun z₀ P => z₀ = (gi M (t₀ + 3) 0) ∧ P = M, mg_MtN (cX5_cellsBySquares hl K9) (fun v₀ P h₀ => ⟨_, h₀.1, rfl, h₀.2⟩), ?_⟩
  rintro _ P ⟨rfl, rfl⟩
  refine ⟨mh_far_rfl, mg_MtN (cX6_cellsBySquares hl st₀.1) ?_⟩
  rintro w₀ Q₀ ⟨e₀, hQ⟩
  exact ⟨by rw [e₀, cnt₀], mh_INV_q I₀ hQ⟩
set_option maxRecDepth 100000 in
theorem lw_cellsBySquares {D : mg_D} {l : Launch} (hl : l.stackTraces = false) {N : mg_O} {X₀ : mg_X} {K : mg_K} {M : mg_M} {s₀ g₀ m₀ o od n₀ : Nat} {i₀ : Int} {B₀ : Nat} (L₀ : mh_L M s₀ g₀ m₀ o od n₀) (hi : 0 ≤ i₀ ∧ i₀ + 5 ≤ n₀) (hB₀ : 4 ≤ B₀) (nex : ∀ M' B', mh_L M' s₀ g₀ m₀ o od n₀ → B₀ ≤ B' + 4 → K 28 [(0, Sum.inr (Sum.inl s₀)), (1, Sum.inr (Sum.inl g₀)), (2, Sum.inr (Sum.inl m₀)), (3, Sum.inr (Sum.inl o)), (4, Sum.inr (Sum.inl od)), (5, Sum.inl (i₀ + 5))] [] M' B') : mg_ev mc_L_lawb (mg_Mt D l) N X₀ K 988 true 267 [(0, Sum.inr (Sum.inl s₀)), (1, Sum.inr (Sum.inl g₀)), (2, Sum.inr (Sum.inl m₀)), (3, Sum.inr (Sum.inl o)), (4, Sum.inr (Sum.inl od)), (5, Sum.inl (i₀))] [] M B₀ := by
  -- refine hK₀ _ _ _ _ _ ?_
  obtain ⟨t₀, u₀, I₀⟩ := L₀.2.2.2.2
  have ks₀ := L₀.1.1
  have nn := L₀.1.2.2.2
  obtain ⟨R, c₀, h₀⟩ := @tj_cellsBySquares D l hl M g₀ m₀ t₀ u₀ I₀
  have kg : kd M g₀ = 6 := (mh_gF_of I₀.1).1.1
  (repeat' (((conv => whnf); first | (show (_ : Option mg_V) = _ ∧ _; assumption) | (show K _ _ _ _ _; assumption) | (show mm_th _ _ _ _; assumption) | refine And.intro (by first | assumption | omega | (simp only [true_and]; first | done | assumption | omega)) ?_ | (refine And.intro (fun _ => ?_) (fun _ => ?_) <;> first | (exfalso; omega) | skip) | intro _ | fail)))
  all_goals ((conv => whnf); skip)
  refine Exists.intro _ (Exists.intro _ (And.intro (c₀) (And.intro ?_ (fun _ _ h₀ => h₀.elim))))
  rintro _ P ⟨z₀, rfl, hR⟩
  obtain ⟨far₀, mt₀⟩ := h₀ z₀ P hR
  clear h₀ c₀
  have km : kd P m₀ = 7 := (far₀.1 m₀).trans I₀.2.2.1.1.1
  (repeat' (((conv => whnf); first | (show (_ : Option mg_V) = _ ∧ _; assumption) | (show K _ _ _ _ _; assumption) | (show mm_th _ _ _ _; assumption) | refine And.intro (by first | assumption | omega | (simp only [true_and]; first | done | assumption | omega)) ?_ | (refine And.intro (fun _ => ?_) (fun _ => ?_) <;> first | (exfalso; omega) | skip) | intro _ | fail)))
  all_goals ((conv => whnf); skip)
  refine Exists.intro _ (Exists.intro _ (And.intro (mt₀) (And.intro ?_ (fun _ _ h₀ => h₀.elim))))
  rintro _ Q₀ ⟨rfl, q0, fq, inv₀⟩
  clear mt₀
  have LQ := mh_L_fa L₀ ⟨fun a₀ => (fq.1 a₀).trans (far₀.1 a₀), fun a₀ => (fq.2.1 a₀).trans (far₀.2.1 a₀), fun a₀ k₀ w₀ => (fq.2.2.2.2 a₀ k₀ w₀).trans (far₀.2.2.2.2 a₀ k₀ w₀)⟩ inv₀
  have fin : ∀ B', B₀ ≤ B' + 4 → K 28 [(0, Sum.inr (Sum.inl s₀)), (1, Sum.inr (Sum.inl g₀)), (2, Sum.inr (Sum.inl m₀)), (3, Sum.inr (Sum.inl o)), (4, Sum.inr (Sum.inl od)), (5, Sum.inl (i₀ + 5))] [] Q₀ B' := fun B' hB' => nex Q₀ B' LQ hB'
  clear nex inv₀ L₀ I₀ fq far₀
  (repeat' (((conv => whnf); first | (show (_ : Option mg_V) = _ ∧ _; assumption) | (show K _ _ _ _ _; assumption) | (show mm_th _ _ _ _; assumption) | refine And.intro (by first | assumption | omega | (simp only [true_and]; first | done | assumption | omega)) ?_ | (refine And.intro (fun _ => ?_) (fun _ => ?_) <;> first | (exfalso; omega) | skip) | intro _ | fail)))
  all_goals (first | (exfalso; contradiction) | ((conv => whnf); exact fin _ (by omega)) | skip)
theorem tj_selectedCells {D : mg_D} {l : Launch} (hl : l.stackTraces = false) {M : mg_M} {g₀ m₀ t₀ u₀ : Nat} (I₀ : mh_INV M g₀ m₀ t₀ u₀) : mh_opI D l 91 170 M g₀ m₀ := by
  obtain ⟨st₀, rc, h4, si9, rts, hid₀, cnt₀, hco, hw, hh, hb₀, hd₀⟩ := mh_INV_m I₀
  have K9 := I₀.1
  have V9 := I₀.2.1
  have zf := I₀.2.2.2.1
  have sq := I₀.2.2.2.2.1
  have pm := I₀.2.2.1.2
  have pl := I₀.1.2.2.1
  have bb := K9.2.2.2.1.1.1.2.2
  obtain ⟨tp, lf₀, hg, wd, rt, ch₀, _⟩ := mh_INV_ch I₀
  have sm₀ := mh_INV_cnt I₀ ch₀
  refine ⟨fun z₀ P => z₀ = (mh_sum (fun i₀ => mh_bi (mh_in M (gr M (t₀ + 3 + 1) i₀) (g₀ + 259))) (gi M (t₀ + 3) 0).toNat) ∧ P = M, mg_MtN (cX5_selectedCells hl K9) (fun v₀ P h₀ => ⟨_, h₀.1, rfl, h₀.2⟩), ?_⟩
  rintro _ P ⟨rfl, rfl⟩
  refine ⟨mh_far_rfl, mg_MtN (cX6_selectedCells hl st₀ rc h4 si9 rt) ?_⟩
  rintro w₀ Q₀ ⟨e₀, hQ⟩
  exact ⟨by rw [e₀, ← sm₀.1], mh_INV_q I₀ hQ⟩
set_option maxRecDepth 100000 in
theorem lw_selectedCells {D : mg_D} {l : Launch} (hl : l.stackTraces = false) {N : mg_O} {X₀ : mg_X} {K : mg_K} {M : mg_M} {s₀ g₀ m₀ o od n₀ : Nat} {i₀ : Int} {B₀ : Nat} (L₀ : mh_L M s₀ g₀ m₀ o od n₀) (hi : 0 ≤ i₀ ∧ i₀ + 5 ≤ n₀) (hB₀ : 4 ≤ B₀) (nex : ∀ M' B', mh_L M' s₀ g₀ m₀ o od n₀ → B₀ ≤ B' + 4 → K 28 [(0, Sum.inr (Sum.inl s₀)), (1, Sum.inr (Sum.inl g₀)), (2, Sum.inr (Sum.inl m₀)), (3, Sum.inr (Sum.inl o)), (4, Sum.inr (Sum.inl od)), (5, Sum.inl (i₀ + 5))] [] M' B') : mg_ev mc_L_lawb (mg_Mt D l) N X₀ K 988 true 1266 [(0, Sum.inr (Sum.inl s₀)), (1, Sum.inr (Sum.inl g₀)), (2, Sum.inr (Sum.inl m₀)), (3, Sum.inr (Sum.inl o)), (4, Sum.inr (Sum.inl od)), (5, Sum.inl (i₀))] [] M B₀ := by
  -- refine hK₀ _ _ _ _ _ ?_
  obtain ⟨t₀, u₀, I₀⟩ := L₀.2.2.2.2
  have ks₀ := L₀.1.1
  have nn := L₀.1.2.2.2
  obtain ⟨R, c₀, h₀⟩ := @tj_selectedCells D l hl M g₀ m₀ t₀ u₀ I₀
  have kg : kd M g₀ = 6 := (mh_gF_of I₀.1).1.1
  (repeat' (((conv => whnf); first | (show (_ : Option mg_V) = _ ∧ _; assumption) | (show K _ _ _ _ _; assumption) | (show mm_th _ _ _ _; assumption) | refine And.intro (by first | assumption | omega | (simp only [true_and]; first | done | assumption | omega)) ?_ | (refine And.intro (fun _ => ?_) (fun _ => ?_) <;> first | (exfalso; omega) | skip) | intro _ | fail)))
  all_goals ((conv => whnf); skip)
  refine Exists.intro _ (Exists.intro _ (And.intro (c₀) (And.intro ?_ (fun _ _ h₀ => h₀.elim))))
  rintro _ P ⟨z₀, rfl, hR⟩
  obtain ⟨far₀, mt₀⟩ := h₀ z₀ P hR
  clear h₀ c₀
  have km : kd P m₀ = 7 := (far₀.1 m₀).trans I₀.2.2.1.1.1
  (repeat' (((conv => whnf); first | (show (_ : Option mg_V) = _ ∧ _; assumption) | (show K _ _ _ _ _; assumption) | (show mm_th _ _ _ _; assumption) | refine And.intro (by first | assumption | omega | (simp only [true_and]; first | done | assumption | omega)) ?_ | (refine And.intro (fun _ => ?_) (fun _ => ?_) <;> first | (exfalso; omega) | skip) | intro _ | fail)))
  all_goals ((conv => whnf); skip)
  refine Exists.intro _ (Exists.intro _ (And.intro (mt₀) (And.intro ?_ (fun _ _ h₀ => h₀.elim))))
  rintro _ Q₀ ⟨rfl, q0, fq, inv₀⟩
  clear mt₀
  have LQ := mh_L_fa L₀ ⟨fun a₀ => (fq.1 a₀).trans (far₀.1 a₀), fun a₀ => (fq.2.1 a₀).trans (far₀.2.1 a₀), fun a₀ k₀ w₀ => (fq.2.2.2.2 a₀ k₀ w₀).trans (far₀.2.2.2.2 a₀ k₀ w₀)⟩ inv₀
  have fin : ∀ B', B₀ ≤ B' + 4 → K 28 [(0, Sum.inr (Sum.inl s₀)), (1, Sum.inr (Sum.inl g₀)), (2, Sum.inr (Sum.inl m₀)), (3, Sum.inr (Sum.inl o)), (4, Sum.inr (Sum.inl od)), (5, Sum.inl (i₀ + 5))] [] Q₀ B' := fun B' hB' => nex Q₀ B' LQ hB'
  clear nex inv₀ L₀ I₀ fq far₀
  (repeat' (((conv => whnf); first | (show (_ : Option mg_V) = _ ∧ _; assumption) | (show K _ _ _ _ _; assumption) | (show mm_th _ _ _ _; assumption) | refine And.intro (by first | assumption | omega | (simp only [true_and]; first | done | assumption | omega)) ?_ | (refine And.intro (fun _ => ?_) (fun _ => ?_) <;> first | (exfalso; omega) | skip) | intro _ | fail)))
  all_goals (first | (exfalso; contradiction) | ((conv => whnf); exact fin _ (by omega)) | skip)
theorem tj_copy {D : mg_D} {l : Launch} (hl : l.stackTraces = false) {M : mg_M} {g₀ m₀ t₀ u₀ : Nat} (I₀ : mh_INV M g₀ m₀ t₀ u₀) : mh_opI D l 96 181 M g₀ m₀ := by
  obtain ⟨st₀, rc, h4, si9, rts, hid₀, cnt₀, hco, hw, hh, hb₀, hd₀⟩ := mh_INV_m I₀
  have K9 := I₀.1
  have V9 := I₀.2.1
  have zf := I₀.2.2.2.1
  have sq := I₀.2.2.2.2.1
  have pm := I₀.2.2.1.2
  have pl := I₀.1.2.2.1
  have bb := K9.2.2.2.1.1.1.2.2
  obtain ⟨tl, nb⟩ := K9.2.2.2.1
  obtain ⟨⟨s1₀, s2₀, s3₀, s4₀⟩, cc⟩ := I₀.2.2.2.2.2.2.1
  have ar := K9.2.2.2.2.2.2.2
  unfold mh_ar at ar
  obtain ⟨tp, lf₀, hg, wd, rt, ch₀, _⟩ := mh_INV_ch I₀
  have sm₀ := mh_INV_cnt I₀ ch₀
  refine ⟨fun z₀ P => z₀ = (mh_sum (fun i₀ => mh_bi (mh_in M (gr M (t₀ + 3 + 1) i₀) (g₀ + 259))) (gi M (t₀ + 3) 0).toNat) ∧ mh_tK M P t₀ (g₀ + 259) (g₀ + 261) (gi M (g₀ + 259) 2 - gi M (g₀ + 259) 0 + 1) (gi M (g₀ + 259) 3 - gi M (g₀ + 259) 1 + 1), mg_MtN (cX5_copy hl K9 cc) (fun v₀ P h₀ => ⟨_, h₀.1, rfl, h₀.2⟩), ?_⟩
  rintro z9 P ⟨hz, fP, hUV, hn, bl, tv⟩
  have cm : ∀ a₀ k₀, m₀ ≤ a₀ → a₀ < m₀ + 18 → gi P a₀ k₀ = gi M a₀ k₀ := fun a₀ k₀ h1 h2 => mm_f_gi fP a₀ k₀ (by unfold mh_tf; omega)
  have stP : mm_st P m₀ := mh_st_g st₀ fP.1 fP.2.1 (fun k₀ => fP.2.2.1 m₀ k₀)
  have eRT : ∀ Y, (∀ k₀, gi Y m₀ k₀ = gi M m₀ k₀) → (∀ k₀, gi Y (m₀ + 1) k₀ = gi M (m₀ + 1) k₀) → mm_RT Y m₀ tp lf₀ hg wd := fun Y y0 y1 => by
    intro k₀ k0₀ k1₀
    rw [y0] at k1₀
    exact mm_rect_f (y0 1) (y0 2) y1 (rt k₀ k0₀ k1₀)
  refine ⟨mh_far_f fP (fun a₀ k₀ w₀ => by unfold mh_tf at w₀; omega), ?_⟩
  have e0₀ : ∀ k₀, gi P m₀ k₀ = gi M m₀ k₀ := fun k₀ => cm m₀ k₀ (by omega) (by omega)
  have e1₀ : ∀ k₀, gi P (m₀ + 1) k₀ = gi M (m₀ + 1) k₀ := fun k₀ => cm (m₀ + 1) k₀ (by omega) (by omega)
  have e2₀ : ∀ k₀, gi P (m₀ + 2) k₀ = gi M (m₀ + 2) k₀ := fun k₀ => cm (m₀ + 2) k₀ (by omega) (by omega)
  have e3₀ : ∀ k₀, gi P (m₀ + 3) k₀ = gi M (m₀ + 3) k₀ := fun k₀ => cm (m₀ + 3) k₀ (by omega) (by omega)
  have e4₀ : ∀ k₀, gi P (m₀ + 4) k₀ = gi M (m₀ + 4) k₀ := fun k₀ => cm (m₀ + 4) k₀ (by omega) (by omega)
  have e5₀ : ∀ k₀, gi P (m₀ + 5) k₀ = gi M (m₀ + 5) k₀ := fun k₀ => cm (m₀ + 5) k₀ (by omega) (by omega)
  have eF : mi P (m₀ + 1) = mi M (m₀ + 1) := by funext p₀ q₀; exact e1₀ _
  have R := @cX6_copy D l hl P m₀ tp lf₀ hg wd (mh_sum (fun i₀ => mh_bi (mh_in M (gr M (t₀ + 3 + 1) i₀) (g₀ + 259))) (gi M (t₀ + 3) 0).toNat) stP (by unfold mm_rc; rw [e0₀, e0₀]; omega) (by rw [e0₀]; exact h4) (by unfold mm_si; simp only [e0₀]; exact si9) (eRT _ e0₀ e1₀) (by simp only [mm_ch, e0₀]; exact sm₀.1)
  rw [eF] at R
  simp only [e0₀, e2₀, e3₀] at R
  rw [s1₀, s2₀, s3₀, s4₀] at R
  refine mg_MtN R ?_
  rintro w₀ Q₀ ⟨e₀, fQ, ⟨n0₀, n25₀, n26₀, n27⟩, n13, n14₀⟩
  have f1₀ : ∀ a₀, kd Q₀ a₀ = kd M a₀ := fun a₀ => (fQ.1 a₀).trans (fP.1 a₀)
  have f2₀ : ∀ a₀, ln Q₀ a₀ = ln M a₀ := fun a₀ => (fQ.2.1 a₀).trans (fP.2.1 a₀)
  have f3₀ : ∀ a₀ k₀, gr Q₀ a₀ k₀ = gr M a₀ k₀ := fun a₀ k₀ => (fQ.2.2.1 a₀ k₀).trans (fP.2.2.1 a₀ k₀)
  have fk : ∀ a₀ k₀, (a₀ < m₀ ∨ m₀ + 18 ≤ a₀) → gi Q₀ a₀ k₀ = gi P a₀ k₀ := fun a₀ k₀ w₀ => (fQ.2.2.2.2.2.2 a₀ k₀).resolve_left (by omega)
  have hb9 : ∀ a₀, g₀ + 261 + 1 ≤ a₀ → a₀ < g₀ + 261 + 1 + 123 → kd Q₀ a₀ = kd P a₀ ∧ ln Q₀ a₀ = ln P a₀ ∧ (∀ k₀, gr Q₀ a₀ k₀ = gr P a₀ k₀) ∧ ∀ k₀, gi Q₀ a₀ k₀ = gi P a₀ k₀ := fun a₀ h1 h2 => ⟨fQ.1 a₀, fQ.2.1 a₀, fun k₀ => fQ.2.2.1 a₀ k₀, fun k₀ => fk a₀ k₀ (by omega)⟩
  have s9 : mh_sam3 M Q₀ g₀ m₀ := ⟨f1₀, f2₀, f3₀, fun a₀ k₀ h1 h2 h3 => ((fQ.2.2.2.2.2.2 a₀ k₀).resolve_left (by omega)).trans (mm_f_gi fP a₀ k₀ (by unfold mh_tf; omega))⟩
  obtain ⟨y1, y2, y3, y4⟩ := mh_bl_lo bl hb9
  have rA : ∀ p₀ q₀, mh_rg (gi M (g₀ + 259) 2 - gi M (g₀ + 259) 0 + 1) (gi M (g₀ + 259) 3 - gi M (g₀ + 259) 1 + 1) p₀ q₀ → mh_rg (gi M t₀ 0) (gi M t₀ 1) (gi M (g₀ + 259) 0 + p₀) (gi M (g₀ + 259) 1 + q₀) := fun p₀ q₀ a₀ => by omega
  have TV : ∀ i₀ : Nat, (i₀ : Int) < gi P (g₀ + 261 + 1) 0 → ∀ p₀ q₀, mh_cb P (g₀ + 261 + 1) i₀ p₀ q₀ → mh_rg (gi M (g₀ + 259) 2 - gi M (g₀ + 259) 0 + 1) (gi M (g₀ + 259) 3 - gi M (g₀ + 259) 1 + 1) p₀ q₀ ∧ mh_tv M P (g₀ + 259) (mh_co M t₀ (gi M (g₀ + 259) 0 + p₀) (gi M (g₀ + 259) 1 + q₀)) (gr P (g₀ + 261 + 1 + 1) i₀) := fun i₀ hi p₀ q₀ w₀ => by
    refine ⟨?_, tv i₀ hi p₀ q₀ w₀⟩
    have b₀ := bl.2.1 i₀ hi
    unfold mh_cb at w₀
    omega
  have PT₀ : ∀ i₀ : Nat, (i₀ : Int) < gi P (g₀ + 261 + 1) 0 → ∀ p₀ q₀ p' q', mh_cb P (g₀ + 261 + 1) i₀ p₀ q₀ → mh_rg (gi M (g₀ + 259) 2 - gi M (g₀ + 259) 0 + 1) (gi M (g₀ + 259) 3 - gi M (g₀ + 259) 1 + 1) p' q' → (mi M (m₀ + 1) (gi M (g₀ + 259) 0 + p') (gi M (g₀ + 259) 1 + q') = mi M (m₀ + 1) (gi M (g₀ + 259) 0 + p₀) (gi M (g₀ + 259) 1 + q₀) ↔ mh_cb P (g₀ + 261 + 1) i₀ p' q') := fun i₀ hi p₀ q₀ p' q' w₀ h' => by
    obtain ⟨h₀, v0₀, v1₀, v2, v3, _, _⟩ := TV i₀ hi p₀ q₀ w₀
    have x₀ := (rts (gi M (g₀ + 259) 0 + p₀) (gi M (g₀ + 259) 1 + q₀) (by have := rA p₀ q₀ h₀; omega)).2.2 (gi M (g₀ + 259) 0 + p') (gi M (g₀ + 259) 1 + q') (by have := rA p' q' h'; omega) (by have := rA p' q' h'; omega)
    refine x₀.trans ?_
    unfold mh_fT mh_cb
    constructor
    · intro z₀
      omega
    · intro z₀
      omega
  have bk9 : mh_bkt Q₀ g₀ m₀ := by
    refine Or.inr ⟨⟨?_, ?_, ?_⟩, ?_, ?_, fun p₀ q₀ h₀ => ?_, fun p₀ q₀ p' q' h₀ h' => ?_, fun i₀ hi p₀ q₀ w₀ => ?_⟩
    · rw [n25₀, fk _ _ (by omega)]; exact hUV.1
    · rw [n26₀, fk _ _ (by omega)]; exact hUV.2
    · rw [n27, fk _ _ (by omega), hn]; rfl
    · rw [n25₀, n26₀]; omega
    · rw [n25₀, n26₀]; exact y1
    · rw [n25₀, n26₀] at h₀
      rw [n13 p₀ q₀ h₀]
      exact hid₀ (gi M (g₀ + 259) 0 + p₀) (gi M (g₀ + 259) 1 + q₀) (by have := rA p₀ q₀ h₀; omega)
    · rw [n25₀, n26₀] at h₀ h'
      rw [n13 p₀ q₀ h₀, n13 p' q' h', fk _ _ (by omega)]
      constructor
      · intro z₀
        obtain ⟨i₀, hi, w₀⟩ := bl.2.2.2 p₀ q₀ h₀
        exact ⟨i₀, hi, (y4 i₀ hi p₀ q₀).2 w₀, (y4 i₀ hi p' q').2 ((PT₀ i₀ hi p₀ q₀ p' q' w₀ h').1 z₀.symm)⟩
      · rintro ⟨i₀, hi, w₀, w'⟩
        exact ((PT₀ i₀ hi p₀ q₀ p' q' ((y4 i₀ hi p₀ q₀).1 w₀) h').2 ((y4 i₀ hi p' q').1 w')).symm
    · rw [fk _ _ (by omega)] at hi
      have w2₀ := (y4 i₀ hi p₀ q₀).1 w₀
      obtain ⟨h₀, v0₀, v1₀, v2, v3, v4₀, v5⟩ := TV i₀ hi p₀ q₀ w2₀
      have a₀ := rA p₀ q₀ h₀
      have ir := hid₀ _ _ (show mh_rg (gi M m₀ 1) (gi M m₀ 2) (gi M (g₀ + 259) 0 + p₀) (gi M (g₀ + 259) 1 + q₀) by omega)
      have x₀ := n14₀ (mi M (m₀ + 1) (gi M (g₀ + 259) 0 + p₀) (gi M (g₀ + 259) 1 + q₀)).toNat (by omega)
      have y₀ : gi M (m₀ + 2) (mi M (m₀ + 1) (gi M (g₀ + 259) 0 + p₀) (gi M (g₀ + 259) 1 + q₀)).toNat = gi M (mh_co M t₀ (gi M (g₀ + 259) 0 + p₀) (gi M (g₀ + 259) 1 + q₀)) 4 ∧ gi M (m₀ + 3) (mi M (m₀ + 1) (gi M (g₀ + 259) 0 + p₀) (gi M (g₀ + 259) 1 + q₀)).toNat = gi M (mh_co M t₀ (gi M (g₀ + 259) 0 + p₀) (gi M (g₀ + 259) 1 + q₀)) 5 := sq.2.2.1 _ _ a₀
      have vr := mh_V_sq V9 tl nb a₀
      obtain ⟨d1₀, d2₀⟩ := y3 i₀ hi
      rw [n13 p₀ q₀ h₀, d1₀, d2₀, d2₀, x₀.1, x₀.2, v4₀, v5, y₀.1, y₀.2]
      exact ⟨rfl, rfl, vr⟩
  exact ⟨by rw [e₀, hz], n0₀, mh_far_f fQ (fun a₀ k₀ w₀ => by omega), t₀, u₀, mh_INV_cpy I₀ s9 y1.1 bk9⟩
set_option maxRecDepth 100000 in
theorem lw_copy {D : mg_D} {l : Launch} (hl : l.stackTraces = false) {N : mg_O} {X₀ : mg_X} {K : mg_K} {M : mg_M} {s₀ g₀ m₀ o od n₀ : Nat} {i₀ : Int} {B₀ : Nat} (L₀ : mh_L M s₀ g₀ m₀ o od n₀) (hi : 0 ≤ i₀ ∧ i₀ + 5 ≤ n₀) (hB₀ : 4 ≤ B₀) (nex : ∀ M' B', mh_L M' s₀ g₀ m₀ o od n₀ → B₀ ≤ B' + 4 → K 28 [(0, Sum.inr (Sum.inl s₀)), (1, Sum.inr (Sum.inl g₀)), (2, Sum.inr (Sum.inl m₀)), (3, Sum.inr (Sum.inl o)), (4, Sum.inr (Sum.inl od)), (5, Sum.inl (i₀ + 5))] [] M' B') : mg_ev mc_L_lawb (mg_Mt D l) N X₀ K 988 true 1541 [(0, Sum.inr (Sum.inl s₀)), (1, Sum.inr (Sum.inl g₀)), (2, Sum.inr (Sum.inl m₀)), (3, Sum.inr (Sum.inl o)), (4, Sum.inr (Sum.inl od)), (5, Sum.inl (i₀))] [] M B₀ := by
  -- refine hK₀ _ _ _ _ _ ?_
  obtain ⟨t₀, u₀, I₀⟩ := L₀.2.2.2.2
  have ks₀ := L₀.1.1
  have nn := L₀.1.2.2.2
  obtain ⟨R, c₀, h₀⟩ := @tj_copy D l hl M g₀ m₀ t₀ u₀ I₀
  have kg : kd M g₀ = 6 := (mh_gF_of I₀.1).1.1
  (repeat' (((conv => whnf); first | (show (_ : Option mg_V) = _ ∧ _; assumption) | (show K _ _ _ _ _; assumption) | (show mm_th _ _ _ _; assumption) | refine And.intro (by first | assumption | omega | (simp only [true_and]; first | done | assumption | omega)) ?_ | (refine And.intro (fun _ => ?_) (fun _ => ?_) <;> first | (exfalso; omega) | skip) | intro _ | fail)))
  all_goals ((conv => whnf); skip)
  refine Exists.intro _ (Exists.intro _ (And.intro (c₀) (And.intro ?_ (fun _ _ h₀ => h₀.elim))))
  rintro _ P ⟨z₀, rfl, hR⟩
  obtain ⟨far₀, mt₀⟩ := h₀ z₀ P hR
  clear h₀ c₀
  have km : kd P m₀ = 7 := (far₀.1 m₀).trans I₀.2.2.1.1.1
  (repeat' (((conv => whnf); first | (show (_ : Option mg_V) = _ ∧ _; assumption) | (show K _ _ _ _ _; assumption) | (show mm_th _ _ _ _; assumption) | refine And.intro (by first | assumption | omega | (simp only [true_and]; first | done | assumption | omega)) ?_ | (refine And.intro (fun _ => ?_) (fun _ => ?_) <;> first | (exfalso; omega) | skip) | intro _ | fail)))
  all_goals ((conv => whnf); skip)
  refine Exists.intro _ (Exists.intro _ (And.intro (mt₀) (And.intro ?_ (fun _ _ h₀ => h₀.elim))))
  rintro _ Q₀ ⟨rfl, q0, fq, inv₀⟩
  clear mt₀
  have LQ := mh_L_fa L₀ ⟨fun a₀ => (fq.1 a₀).trans (far₀.1 a₀), fun a₀ => (fq.2.1 a₀).trans (far₀.2.1 a₀), fun a₀ k₀ w₀ => (fq.2.2.2.2 a₀ k₀ w₀).trans (far₀.2.2.2.2 a₀ k₀ w₀)⟩ inv₀
  have fin : ∀ B', B₀ ≤ B' + 4 → K 28 [(0, Sum.inr (Sum.inl s₀)), (1, Sum.inr (Sum.inl g₀)), (2, Sum.inr (Sum.inl m₀)), (3, Sum.inr (Sum.inl o)), (4, Sum.inr (Sum.inl od)), (5, Sum.inl (i₀ + 5))] [] Q₀ B' := fun B' hB' => nex Q₀ B' LQ hB'
  clear nex inv₀ L₀ I₀ fq far₀
  (repeat' (((conv => whnf); first | (show (_ : Option mg_V) = _ ∧ _; assumption) | (show K _ _ _ _ _; assumption) | (show mm_th _ _ _ _; assumption) | refine And.intro (by first | assumption | omega | (simp only [true_and]; first | done | assumption | omega)) ?_ | (refine And.intro (fun _ => ?_) (fun _ => ?_) <;> first | (exfalso; omega) | skip) | intro _ | fail)))
  all_goals (first | (exfalso; contradiction) | ((conv => whnf); exact fin _ (by omega)) | skip)
theorem tj_header {D : mg_D} {l : Launch} (hl : l.stackTraces = false) {M : mg_M} {g₀ m₀ t₀ u₀ : Nat} (I₀ : mh_INV M g₀ m₀ t₀ u₀) : mh_opI D l 99 190 M g₀ m₀ := by
  obtain ⟨st₀, rc, h4, si9, rts, hid₀, cnt₀, hco, hw, hh, hb₀, hd₀⟩ := mh_INV_m I₀
  have K9 := I₀.1
  have V9 := I₀.2.1
  have zf := I₀.2.2.2.1
  have sq := I₀.2.2.2.2.1
  refine ⟨fun z₀ P => z₀ = (gi M t₀ 2) ∧ P = M, mg_MtN (cX5_header hl K9) (fun v₀ P h₀ => ⟨_, h₀.1, rfl, h₀.2⟩), ?_⟩
  rintro _ P ⟨rfl, rfl⟩
  refine ⟨mh_far_rfl, mg_MtN (cX6_header hl st₀.1) ?_⟩
  rintro w₀ Q₀ ⟨e₀, hQ⟩
  exact ⟨by rw [e₀, zf.2.2], mh_INV_q I₀ hQ⟩
set_option maxRecDepth 100000 in
theorem lw_header {D : mg_D} {l : Launch} (hl : l.stackTraces = false) {N : mg_O} {X₀ : mg_X} {K : mg_K} {M : mg_M} {s₀ g₀ m₀ o od n₀ : Nat} {i₀ : Int} {B₀ : Nat} (L₀ : mh_L M s₀ g₀ m₀ o od n₀) (hi : 0 ≤ i₀ ∧ i₀ + 5 ≤ n₀) (hB₀ : 4 ≤ B₀) (nex : ∀ M' B', mh_L M' s₀ g₀ m₀ o od n₀ → B₀ ≤ B' + 4 → K 28 [(0, Sum.inr (Sum.inl s₀)), (1, Sum.inr (Sum.inl g₀)), (2, Sum.inr (Sum.inl m₀)), (3, Sum.inr (Sum.inl o)), (4, Sum.inr (Sum.inl od)), (5, Sum.inl (i₀ + 5))] [] M' B') : mg_ev mc_L_lawb (mg_Mt D l) N X₀ K 988 true 1702 [(0, Sum.inr (Sum.inl s₀)), (1, Sum.inr (Sum.inl g₀)), (2, Sum.inr (Sum.inl m₀)), (3, Sum.inr (Sum.inl o)), (4, Sum.inr (Sum.inl od)), (5, Sum.inl (i₀))] [] M B₀ := by
  -- refine hK₀ _ _ _ _ _ ?_
  obtain ⟨t₀, u₀, I₀⟩ := L₀.2.2.2.2
  have ks₀ := L₀.1.1
  have nn := L₀.1.2.2.2
  obtain ⟨R, c₀, h₀⟩ := @tj_header D l hl M g₀ m₀ t₀ u₀ I₀
  have kg : kd M g₀ = 6 := (mh_gF_of I₀.1).1.1
  (repeat' (((conv => whnf); first | (show (_ : Option mg_V) = _ ∧ _; assumption) | (show K _ _ _ _ _; assumption) | (show mm_th _ _ _ _; assumption) | refine And.intro (by first | assumption | omega | (simp only [true_and]; first | done | assumption | omega)) ?_ | (refine And.intro (fun _ => ?_) (fun _ => ?_) <;> first | (exfalso; omega) | skip) | intro _ | fail)))
  all_goals ((conv => whnf); skip)
  refine Exists.intro _ (Exists.intro _ (And.intro (c₀) (And.intro ?_ (fun _ _ h₀ => h₀.elim))))
  rintro _ P ⟨z₀, rfl, hR⟩
  obtain ⟨far₀, mt₀⟩ := h₀ z₀ P hR
  clear h₀ c₀
  have km : kd P m₀ = 7 := (far₀.1 m₀).trans I₀.2.2.1.1.1
  (repeat' (((conv => whnf); first | (show (_ : Option mg_V) = _ ∧ _; assumption) | (show K _ _ _ _ _; assumption) | (show mm_th _ _ _ _; assumption) | refine And.intro (by first | assumption | omega | (simp only [true_and]; first | done | assumption | omega)) ?_ | (refine And.intro (fun _ => ?_) (fun _ => ?_) <;> first | (exfalso; omega) | skip) | intro _ | fail)))
  all_goals ((conv => whnf); skip)
  refine Exists.intro _ (Exists.intro _ (And.intro (mt₀) (And.intro ?_ (fun _ _ h₀ => h₀.elim))))
  rintro _ Q₀ ⟨rfl, q0, fq, inv₀⟩
  clear mt₀
  have LQ := mh_L_fa L₀ ⟨fun a₀ => (fq.1 a₀).trans (far₀.1 a₀), fun a₀ => (fq.2.1 a₀).trans (far₀.2.1 a₀), fun a₀ k₀ w₀ => (fq.2.2.2.2 a₀ k₀ w₀).trans (far₀.2.2.2.2 a₀ k₀ w₀)⟩ inv₀
  have fin : ∀ B', B₀ ≤ B' + 4 → K 28 [(0, Sum.inr (Sum.inl s₀)), (1, Sum.inr (Sum.inl g₀)), (2, Sum.inr (Sum.inl m₀)), (3, Sum.inr (Sum.inl o)), (4, Sum.inr (Sum.inl od)), (5, Sum.inl (i₀ + 5))] [] Q₀ B' := fun B' hB' => nex Q₀ B' LQ hB'
  clear nex inv₀ L₀ I₀ fq far₀
  (repeat' (((conv => whnf); first | (show (_ : Option mg_V) = _ ∧ _; assumption) | (show K _ _ _ _ _; assumption) | (show mm_th _ _ _ _; assumption) | refine And.intro (by first | assumption | omega | (simp only [true_and]; first | done | assumption | omega)) ?_ | (refine And.intro (fun _ => ?_) (fun _ => ?_) <;> first | (exfalso; omega) | skip) | intro _ | fail)))
  all_goals (first | (exfalso; contradiction) | ((conv => whnf); exact fin _ (by omega)) | skip)
theorem tj_sum {D : mg_D} {l : Launch} (hl : l.stackTraces = false) {M : mg_M} {g₀ m₀ t₀ u₀ : Nat} (I₀ : mh_INV M g₀ m₀ t₀ u₀) : mh_opJ D l 110 203 M g₀ m₀ := by
  obtain ⟨st₀, rc, h4, si9, rts, hid₀, cnt₀, hco, hw, hh, hb₀, hd₀⟩ := mh_INV_m I₀
  have K9 := I₀.1
  have V9 := I₀.2.1
  have zf := I₀.2.2.2.1
  have sq := I₀.2.2.2.2.1
  have pm := I₀.2.2.1.2
  have pl := I₀.1.2.2.1
  have bb := K9.2.2.2.1.1.1.2.2
  obtain ⟨tp, lf₀, hg, wd, rt, ch₀, _⟩ := mh_INV_ch I₀
  have sm₀ := mh_INV_cnt I₀ ch₀
  refine ⟨fun z₀ P => z₀ = (mh_sum (fun i₀ => (if mh_bi (mh_in M (gr M (t₀ + 3 + 1) i₀) (g₀ + 259)) = 0 then (0 : Int) else gi M (gr M (t₀ + 3 + 1) i₀) 4)) (gi M (t₀ + 3) 0).toNat) ∧ P = M, mg_MtN (cX5_sum hl K9 V9) (fun v₀ P h₀ => ⟨_, h₀.1, rfl, h₀.2⟩), ?_⟩
  rintro _ P ⟨rfl, rfl⟩
  refine ⟨mh_far_rfl, mg_MtN (cX6_sum hl st₀ rc h4 si9 rt hco) ?_⟩
  rintro w₀ Q₀ ⟨e₀, hQ⟩
  exact ⟨by rw [e₀, ← sm₀.2.1], mh_INV_q I₀ hQ⟩
set_option maxRecDepth 100000 in
theorem lw_sum {D : mg_D} {l : Launch} (hl : l.stackTraces = false) {N : mg_O} {X₀ : mg_X} {K : mg_K} {M : mg_M} {s₀ g₀ m₀ o od n₀ : Nat} {i₀ : Int} {B₀ : Nat} (L₀ : mh_L M s₀ g₀ m₀ o od n₀) (hi : 0 ≤ i₀ ∧ i₀ + 5 ≤ n₀) (hB₀ : 4 ≤ B₀) (nex : ∀ M' B', mh_L M' s₀ g₀ m₀ o od n₀ → B₀ ≤ B' + 4 → K 28 [(0, Sum.inr (Sum.inl s₀)), (1, Sum.inr (Sum.inl g₀)), (2, Sum.inr (Sum.inl m₀)), (3, Sum.inr (Sum.inl o)), (4, Sum.inr (Sum.inl od)), (5, Sum.inl (i₀ + 5))] [] M' B') : mg_ev mc_L_lawb (mg_Mt D l) N X₀ K 988 true 2370 [(0, Sum.inr (Sum.inl s₀)), (1, Sum.inr (Sum.inl g₀)), (2, Sum.inr (Sum.inl m₀)), (3, Sum.inr (Sum.inl o)), (4, Sum.inr (Sum.inl od)), (5, Sum.inl (i₀))] [] M B₀ := by
  -- refine hK₀ _ _ _ _ _ ?_
  obtain ⟨t₀, u₀, I₀⟩ := L₀.2.2.2.2
  have ks₀ := L₀.1.1
  have nn := L₀.1.2.2.2
  obtain ⟨R, c₀, h₀⟩ := @tj_sum D l hl M g₀ m₀ t₀ u₀ I₀
  have kg : kd M g₀ = 6 := (mh_gF_of I₀.1).1.1
  (repeat' (((conv => whnf); first | (show (_ : Option mg_V) = _ ∧ _; assumption) | (show K _ _ _ _ _; assumption) | (show mm_th _ _ _ _; assumption) | refine And.intro (by first | assumption | omega | (simp only [true_and]; first | done | assumption | omega)) ?_ | (refine And.intro (fun _ => ?_) (fun _ => ?_) <;> first | (exfalso; omega) | skip) | intro _ | fail)))
  all_goals ((conv => whnf); skip)
  refine Exists.intro _ (Exists.intro _ (And.intro (c₀) (And.intro ?_ (fun _ _ h₀ => h₀.elim))))
  rintro _ P ⟨z₀, rfl, hR⟩
  obtain ⟨far₀, mt₀⟩ := h₀ z₀ P hR
  clear h₀ c₀
  have km : kd P m₀ = 7 := (far₀.1 m₀).trans I₀.2.2.1.1.1
  (repeat' (((conv => whnf); first | (show (_ : Option mg_V) = _ ∧ _; assumption) | (show K _ _ _ _ _; assumption) | (show mm_th _ _ _ _; assumption) | refine And.intro (by first | assumption | omega | (simp only [true_and]; first | done | assumption | omega)) ?_ | (refine And.intro (fun _ => ?_) (fun _ => ?_) <;> first | (exfalso; omega) | skip) | intro _ | fail)))
  all_goals ((conv => whnf); skip)
  refine Exists.intro _ (Exists.intro _ (And.intro (mt₀) (And.intro ?_ (fun _ _ h₀ => h₀.elim))))
  rintro _ Q₀ ⟨rfl, q0, fq, inv₀⟩
  clear mt₀
  have LQ := mh_L_fa L₀ ⟨fun a₀ => (fq.1 a₀).trans (far₀.1 a₀), fun a₀ => (fq.2.1 a₀).trans (far₀.2.1 a₀), fun a₀ k₀ w₀ => (fq.2.2.2.2 a₀ k₀ w₀).trans (far₀.2.2.2.2 a₀ k₀ w₀)⟩ inv₀
  have fin : ∀ B', B₀ ≤ B' + 4 → K 28 [(0, Sum.inr (Sum.inl s₀)), (1, Sum.inr (Sum.inl g₀)), (2, Sum.inr (Sum.inl m₀)), (3, Sum.inr (Sum.inl o)), (4, Sum.inr (Sum.inl od)), (5, Sum.inl (i₀ + 5))] [] Q₀ B' := fun B' hB' => nex Q₀ B' LQ hB'
  clear nex inv₀ L₀ I₀ fq far₀
  have z9 := mh_lcmp z₀
  (repeat' (((conv => whnf); first | (show (_ : Option mg_V) = _ ∧ _; assumption) | (show K _ _ _ _ _; assumption) | (show mm_th _ _ _ _; assumption) | refine And.intro (by first | assumption | omega | (simp only [true_and]; first | done | assumption | omega)) ?_ | (refine And.intro (fun _ => ?_) (fun _ => ?_) <;> first | (exfalso; omega) | skip) | intro _ | fail)))
  all_goals (first | (exfalso; contradiction) | ((conv => whnf); exact fin _ (by omega)) | skip)
theorem tj_isTiled {D : mg_D} {l : Launch} (hl : l.stackTraces = false) {M : mg_M} {g₀ m₀ t₀ u₀ : Nat} (I₀ : mh_INV M g₀ m₀ t₀ u₀) : mh_opI D l 113 206 M g₀ m₀ := by
  obtain ⟨st₀, rc, h4, si9, rts, hid₀, cnt₀, hco, hw, hh, hb₀, hd₀⟩ := mh_INV_m I₀
  have K9 := I₀.1
  have V9 := I₀.2.1
  have zf := I₀.2.2.2.1
  have sq := I₀.2.2.2.2.1
  have pm := I₀.2.2.1.2
  have pl := I₀.1.2.2.1
  have bb := K9.2.2.2.1.1.1.2.2
  have am := @mh_acr_m M g₀ m₀ t₀ u₀ (gi M t₀ 2) I₀
  refine ⟨fun z₀ P => z₀ = (mh_pr (¬ ∃ i₀ : Nat, (i₀ : Int) < gi M (t₀ + 3) 0 ∧ gi M (gr M (t₀ + 3 + 1) i₀) 0 < gi M t₀ 2 ∧ gi M t₀ 2 ≤ gi M (gr M (t₀ + 3 + 1) i₀) 0 + gi M (gr M (t₀ + 3 + 1) i₀) 2 - 1)) ∧ P = M, mg_MtN (cX5_isTiled hl K9) (fun v₀ P h₀ => ⟨_, h₀.1, rfl, h₀.2⟩), ?_⟩
  rintro _ P ⟨rfl, rfl⟩
  refine ⟨mh_far_rfl, ?_⟩
  by_cases c₀ : ∃ i₀ : Nat, (i₀ : Int) < gi P (t₀ + 3) 0 ∧ gi P (gr P (t₀ + 3 + 1) i₀) 0 < gi P t₀ 2 ∧ gi P t₀ 2 ≤ gi P (gr P (t₀ + 3 + 1) i₀) 0 + gi P (gr P (t₀ + 3 + 1) i₀) 2 - 1
  · refine mg_MtN (cX6_isTiledF hl st₀ rc (by rw [zf.1, zf.2.1, zf.2.2]; exact am.1 c₀)) ?_
    rintro w₀ Q₀ ⟨e₀, hQ⟩
    exact ⟨by rw [e₀, mh_pr0 (fun w₀ => w₀ c₀)], mh_INV_q I₀ hQ⟩
  · refine mg_MtN (cX6_isTiled hl st₀ rc (by rw [zf.1, zf.2.1, zf.2.2]; exact fun w₀ => c₀ (am.2 w₀))) ?_
    rintro w₀ Q₀ ⟨e₀, hQ⟩
    exact ⟨by rw [e₀, mh_pr1 c₀], mh_INV_q I₀ hQ⟩
set_option maxRecDepth 100000 in
theorem lw_isTiled {D : mg_D} {l : Launch} (hl : l.stackTraces = false) {N : mg_O} {X₀ : mg_X} {K : mg_K} {M : mg_M} {s₀ g₀ m₀ o od n₀ : Nat} {i₀ : Int} {B₀ : Nat} (L₀ : mh_L M s₀ g₀ m₀ o od n₀) (hi : 0 ≤ i₀ ∧ i₀ + 5 ≤ n₀) (hB₀ : 4 ≤ B₀) (nex : ∀ M' B', mh_L M' s₀ g₀ m₀ o od n₀ → B₀ ≤ B' + 4 → K 28 [(0, Sum.inr (Sum.inl s₀)), (1, Sum.inr (Sum.inl g₀)), (2, Sum.inr (Sum.inl m₀)), (3, Sum.inr (Sum.inl o)), (4, Sum.inr (Sum.inl od)), (5, Sum.inl (i₀ + 5))] [] M' B') : mg_ev mc_L_lawb (mg_Mt D l) N X₀ K 988 true 2492 [(0, Sum.inr (Sum.inl s₀)), (1, Sum.inr (Sum.inl g₀)), (2, Sum.inr (Sum.inl m₀)), (3, Sum.inr (Sum.inl o)), (4, Sum.inr (Sum.inl od)), (5, Sum.inl (i₀))] [] M B₀ := by
  -- refine hK₀ _ _ _ _ _ ?_
  obtain ⟨t₀, u₀, I₀⟩ := L₀.2.2.2.2
  have ks₀ := L₀.1.1
  have nn := L₀.1.2.2.2
  obtain ⟨R, c₀, h₀⟩ := @tj_isTiled D l hl M g₀ m₀ t₀ u₀ I₀
  have kg : kd M g₀ = 6 := (mh_gF_of I₀.1).1.1
  (repeat' (((conv => whnf); first | (show (_ : Option mg_V) = _ ∧ _; assumption) | (show K _ _ _ _ _; assumption) | (show mm_th _ _ _ _; assumption) | refine And.intro (by first | assumption | omega | (simp only [true_and]; first | done | assumption | omega)) ?_ | (refine And.intro (fun _ => ?_) (fun _ => ?_) <;> first | (exfalso; omega) | skip) | intro _ | fail)))
  all_goals ((conv => whnf); skip)
  refine Exists.intro _ (Exists.intro _ (And.intro (c₀) (And.intro ?_ (fun _ _ h₀ => h₀.elim))))
  rintro _ P ⟨z₀, rfl, hR⟩
  obtain ⟨far₀, mt₀⟩ := h₀ z₀ P hR
  clear h₀ c₀
  have km : kd P m₀ = 7 := (far₀.1 m₀).trans I₀.2.2.1.1.1
  (repeat' (((conv => whnf); first | (show (_ : Option mg_V) = _ ∧ _; assumption) | (show K _ _ _ _ _; assumption) | (show mm_th _ _ _ _; assumption) | refine And.intro (by first | assumption | omega | (simp only [true_and]; first | done | assumption | omega)) ?_ | (refine And.intro (fun _ => ?_) (fun _ => ?_) <;> first | (exfalso; omega) | skip) | intro _ | fail)))
  all_goals ((conv => whnf); skip)
  refine Exists.intro _ (Exists.intro _ (And.intro (mt₀) (And.intro ?_ (fun _ _ h₀ => h₀.elim))))
  rintro _ Q₀ ⟨rfl, q0, fq, inv₀⟩
  clear mt₀
  have LQ := mh_L_fa L₀ ⟨fun a₀ => (fq.1 a₀).trans (far₀.1 a₀), fun a₀ => (fq.2.1 a₀).trans (far₀.2.1 a₀), fun a₀ k₀ w₀ => (fq.2.2.2.2 a₀ k₀ w₀).trans (far₀.2.2.2.2 a₀ k₀ w₀)⟩ inv₀
  have fin : ∀ B', B₀ ≤ B' + 4 → K 28 [(0, Sum.inr (Sum.inl s₀)), (1, Sum.inr (Sum.inl g₀)), (2, Sum.inr (Sum.inl m₀)), (3, Sum.inr (Sum.inl o)), (4, Sum.inr (Sum.inl od)), (5, Sum.inl (i₀ + 5))] [] Q₀ B' := fun B' hB' => nex Q₀ B' LQ hB'
  clear nex inv₀ L₀ I₀ fq far₀
  (repeat' (((conv => whnf); first | (show (_ : Option mg_V) = _ ∧ _; assumption) | (show K _ _ _ _ _; assumption) | (show mm_th _ _ _ _; assumption) | refine And.intro (by first | assumption | omega | (simp only [true_and]; first | done | assumption | omega)) ?_ | (refine And.intro (fun _ => ?_) (fun _ => ?_) <;> first | (exfalso; omega) | skip) | intro _ | fail)))
  all_goals (first | (exfalso; contradiction) | ((conv => whnf); exact fin _ (by omega)) | skip)
