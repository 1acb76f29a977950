/-! the law's cases -/
theorem mh_lcmp (x₀ : Int) : (if x₀ < x₀ then (-1 : Int) else if x₀ = x₀ then 0 else 1) = 0 := by rw [if_neg (Int.lt_irrefl _), if_pos rfl]
def mh_L (M : mg_M) (s₀ g₀ m₀ o od n₀ : Nat) : Prop := (kd M s₀ = 12 ∧ ln M s₀ = n₀ ∧ s₀ < g₀ ∧ n₀ ≤ 2560) ∧ (∀ k₀, -2147483648 ≤ gi M s₀ k₀ ∧ gi M s₀ k₀ < 2147483648) ∧ (kd M o = 10 ∧ ln M o = 1) ∧ (kd M od = 11 ∧ ln M od = 1) ∧ ∃ t₀ u₀, mh_INV M g₀ m₀ t₀ u₀
theorem mh_L_fa {M Q₀ : mg_M} {s₀ g₀ m₀ o od n₀ : Nat} (L₀ : mh_L M s₀ g₀ m₀ o od n₀) (f₀ : mh_fa M Q₀ g₀) (I₀ : ∃ t₀ u₀, mh_INV Q₀ g₀ m₀ t₀ u₀) : mh_L Q₀ s₀ g₀ m₀ o od n₀ := ⟨⟨(f₀.1 s₀).trans L₀.1.1, (f₀.2.1 s₀).trans L₀.1.2.1, L₀.1.2.2⟩, fun k₀ => by rw [f₀.2.2 s₀ k₀ L₀.1.2.2.1]; exact L₀.2.1 k₀, ⟨(f₀.1 o).trans L₀.2.2.1.1, (f₀.2.1 o).trans L₀.2.2.1.2⟩, ⟨(f₀.1 od).trans L₀.2.2.2.1.1, (f₀.2.1 od).trans L₀.2.2.2.1.2⟩, I₀⟩
set_option maxRecDepth 100000 in
theorem lw_insertRow {D : mg_D} {l : Launch} (hl : l.stackTraces = false) {N : mg_O} {X₀ : mg_X} {K : mg_K} {M : mg_M} {s₀ g₀ m₀ o od n₀ : Nat} {i₀ : Int} {B₀ : Nat} (L₀ : mh_L M s₀ g₀ m₀ o od n₀) (hi : 0 ≤ i₀ ∧ i₀ + 5 ≤ n₀) (hB₀ : 4 ≤ B₀) (nex : ∀ M' B', mh_L M' s₀ g₀ m₀ o od n₀ → B₀ ≤ B' + 4 → K 28 [(0, Sum.inr (Sum.inl s₀)), (1, Sum.inr (Sum.inl g₀)), (2, Sum.inr (Sum.inl m₀)), (3, Sum.inr (Sum.inl o)), (4, Sum.inr (Sum.inl od)), (5, Sum.inl (i₀ + 5))] [] M' B') : mg_ev mc_L_lawb (mg_Mt D l) N X₀ K 988 true 280 [(0, Sum.inr (Sum.inl s₀)), (1, Sum.inr (Sum.inl g₀)), (2, Sum.inr (Sum.inl m₀)), (3, Sum.inr (Sum.inl o)), (4, Sum.inr (Sum.inl od)), (5, Sum.inl (i₀))] [] M B₀ := by
  -- refine hK₀ _ _ _ _ _ ?_
  obtain ⟨t₀, u₀, I₀⟩ := L₀.2.2.2.2
  have ks₀ := L₀.1.1
  have lns := L₀.1.2.1
  have sg := L₀.1.2.2.1
  have nn := L₀.1.2.2.2
  obtain ⟨R, c₀, h₀⟩ := @tw_insertRow D l hl M g₀ m₀ t₀ u₀ o (gi M s₀ (i₀ + 1).toNat) I₀ L₀.2.2.1
  have kg : kd M g₀ = 6 := (mh_gF_of I₀.1).1.1
  (repeat' (((conv => whnf); first | (show (_ : Option mg_V) = _ ∧ _; assumption) | (show K _ _ _ _ _; assumption) | (show mm_th _ _ _ _; assumption) | refine And.intro (by first | assumption | omega | (simp only [true_and]; first | done | assumption | omega)) ?_ | (refine And.intro (fun _ => ?_) (fun _ => ?_) <;> first | (exfalso; omega) | skip) | intro _ | fail)))
  all_goals ((conv => whnf); skip)
  refine Exists.intro _ (Exists.intro _ (And.intro (c₀) (And.intro ?_ (fun _ _ h₀ => h₀.elim))))
  rintro _ P ⟨k₀, rfl, hR⟩
  obtain ⟨km, fa, mt₀⟩ := h₀ k₀ P hR
  clear h₀ c₀
  have ksP := (fa.1 s₀).trans ks₀
  have lnP := (fa.2.1 s₀).trans lns
  have a1₀ : gi P s₀ (i₀ + 1).toNat = gi M s₀ (i₀ + 1).toNat := fa.2.2 s₀ _ sg
  (repeat' (((conv => whnf); first | (show (_ : Option mg_V) = _ ∧ _; assumption) | (show K _ _ _ _ _; assumption) | (show mm_th _ _ _ _; assumption) | refine And.intro (by first | assumption | omega | (simp only [true_and]; first | done | assumption | omega)) ?_ | (refine And.intro (fun _ => ?_) (fun _ => ?_) <;> first | (exfalso; omega) | skip) | intro _ | fail)))
  all_goals ((conv => whnf); rw [a1₀])
  refine Exists.intro _ (Exists.intro _ (And.intro (mt₀) (And.intro ?_ (fun _ _ h₀ => h₀.elim))))
  rintro _ Q₀ ⟨b₀, rfl, q0, qg, fq, inv₀⟩
  clear mt₀
  have kmQ := (fq.1 m₀).trans I₀.2.2.1.1.1
  have cT := cX6_thrown (D := D) hl kmQ
  have koQ := (fq.1 o).trans L₀.2.2.1.1
  have loQ := (fq.2.1 o).trans L₀.2.2.1.2
  have LQ := mh_L_fa L₀ fq inv₀
  have fin : ∀ B', B₀ ≤ B' + 4 → K 28 [(0, Sum.inr (Sum.inl s₀)), (1, Sum.inr (Sum.inl g₀)), (2, Sum.inr (Sum.inl m₀)), (3, Sum.inr (Sum.inl o)), (4, Sum.inr (Sum.inl od)), (5, Sum.inl (i₀ + 5))] [] Q₀ B' := fun B' hB' => nex Q₀ B' LQ hB'
  clear nex inv₀ L₀ I₀
  by_cases hk : k₀ = 0
  · have gz := qg hk
    clear qg
    subst gz
    have z9 := mh_lcmp (gl Q₀ o 0)
    (repeat' (((conv => whnf); first | (show (_ : Option mg_V) = _ ∧ _; assumption) | (show K _ _ _ _ _; assumption) | (show mm_th _ _ _ _; assumption) | refine And.intro (by first | assumption | omega | (simp only [true_and]; first | done | assumption | omega)) ?_ | (refine And.intro (fun _ => ?_) (fun _ => ?_) <;> first | (exfalso; omega) | skip) | intro _ | fail)))
    all_goals (try ((conv => whnf); (refine Exists.intro _ (Exists.intro _ (And.intro (cT) (And.intro ?_ (fun _ _ h₀ => h₀.elim)))); rintro _ _ ⟨rfl, e₀⟩; have e2₀ := e₀.symm; clear e₀; subst e2₀); (repeat' (((conv => whnf); first | (show (_ : Option mg_V) = _ ∧ _; assumption) | (show K _ _ _ _ _; assumption) | (show mm_th _ _ _ _; assumption) | refine And.intro (by first | assumption | omega | (simp only [true_and]; first | done | assumption | omega)) ?_ | (refine And.intro (fun _ => ?_) (fun _ => ?_) <;> first | (exfalso; omega) | skip) | intro _ | fail)))))
    all_goals (first | (exfalso; contradiction) | ((conv => whnf); exact fin _ (by omega)) | skip)
  · clear qg
    (repeat' (((conv => whnf); first | (show (_ : Option mg_V) = _ ∧ _; assumption) | (show K _ _ _ _ _; assumption) | (show mm_th _ _ _ _; assumption) | refine And.intro (by first | assumption | omega | (simp only [true_and]; first | done | assumption | omega)) ?_ | (refine And.intro (fun _ => ?_) (fun _ => ?_) <;> first | (exfalso; omega) | skip) | intro _ | fail)))
    all_goals (try ((conv => whnf); (refine Exists.intro _ (Exists.intro _ (And.intro (cT) (And.intro ?_ (fun _ _ h₀ => h₀.elim)))); rintro _ _ ⟨rfl, e₀⟩; have e2₀ := e₀.symm; clear e₀; subst e2₀); (repeat' (((conv => whnf); first | (show (_ : Option mg_V) = _ ∧ _; assumption) | (show K _ _ _ _ _; assumption) | (show mm_th _ _ _ _; assumption) | refine And.intro (by first | assumption | omega | (simp only [true_and]; first | done | assumption | omega)) ?_ | (refine And.intro (fun _ => ?_) (fun _ => ?_) <;> first | (exfalso; omega) | skip) | intro _ | fail)))))
    all_goals ((conv => whnf); first | exact fin _ (by omega) | skip)
set_option maxRecDepth 100000 in
theorem lw_insertColumn {D : mg_D} {l : Launch} (hl : l.stackTraces = false) {N : mg_O} {X₀ : mg_X} {K : mg_K} {M : mg_M} {s₀ g₀ m₀ o od n₀ : Nat} {i₀ : Int} {B₀ : Nat} (L₀ : mh_L M s₀ g₀ m₀ o od n₀) (hi : 0 ≤ i₀ ∧ i₀ + 5 ≤ n₀) (hB₀ : 4 ≤ B₀) (nex : ∀ M' B', mh_L M' s₀ g₀ m₀ o od n₀ → B₀ ≤ B' + 4 → K 28 [(0, Sum.inr (Sum.inl s₀)), (1, Sum.inr (Sum.inl g₀)), (2, Sum.inr (Sum.inl m₀)), (3, Sum.inr (Sum.inl o)), (4, Sum.inr (Sum.inl od)), (5, Sum.inl (i₀ + 5))] [] M' B') : mg_ev mc_L_lawb (mg_Mt D l) N X₀ K 988 true 336 [(0, Sum.inr (Sum.inl s₀)), (1, Sum.inr (Sum.inl g₀)), (2, Sum.inr (Sum.inl m₀)), (3, Sum.inr (Sum.inl o)), (4, Sum.inr (Sum.inl od)), (5, Sum.inl (i₀))] [] M B₀ := by
  -- refine hK₀ _ _ _ _ _ ?_
  obtain ⟨t₀, u₀, I₀⟩ := L₀.2.2.2.2
  have ks₀ := L₀.1.1
  have lns := L₀.1.2.1
  have sg := L₀.1.2.2.1
  have nn := L₀.1.2.2.2
  obtain ⟨R, c₀, h₀⟩ := @tw_insertColumn D l hl M g₀ m₀ t₀ u₀ o (gi M s₀ (i₀ + 1).toNat) I₀ L₀.2.2.1
  have kg : kd M g₀ = 6 := (mh_gF_of I₀.1).1.1
  (repeat' (((conv => whnf); first | (show (_ : Option mg_V) = _ ∧ _; assumption) | (show K _ _ _ _ _; assumption) | (show mm_th _ _ _ _; assumption) | refine And.intro (by first | assumption | omega | (simp only [true_and]; first | done | assumption | omega)) ?_ | (refine And.intro (fun _ => ?_) (fun _ => ?_) <;> first | (exfalso; omega) | skip) | intro _ | fail)))
  all_goals ((conv => whnf); skip)
  refine Exists.intro _ (Exists.intro _ (And.intro (c₀) (And.intro ?_ (fun _ _ h₀ => h₀.elim))))
  rintro _ P ⟨k₀, rfl, hR⟩
  obtain ⟨km, fa, mt₀⟩ := h₀ k₀ P hR
  clear h₀ c₀
  have ksP := (fa.1 s₀).trans ks₀
  have lnP := (fa.2.1 s₀).trans lns
  have a1₀ : gi P s₀ (i₀ + 1).toNat = gi M s₀ (i₀ + 1).toNat := fa.2.2 s₀ _ sg
  (repeat' (((conv => whnf); first | (show (_ : Option mg_V) = _ ∧ _; assumption) | (show K _ _ _ _ _; assumption) | (show mm_th _ _ _ _; assumption) | refine And.intro (by first | assumption | omega | (simp only [true_and]; first | done | assumption | omega)) ?_ | (refine And.intro (fun _ => ?_) (fun _ => ?_) <;> first | (exfalso; omega) | skip) | intro _ | fail)))
  all_goals ((conv => whnf); rw [a1₀])
  refine Exists.intro _ (Exists.intro _ (And.intro (mt₀) (And.intro ?_ (fun _ _ h₀ => h₀.elim))))
  rintro _ Q₀ ⟨b₀, rfl, q0, qg, fq, inv₀⟩
  clear mt₀
  have kmQ := (fq.1 m₀).trans I₀.2.2.1.1.1
  have cT := cX6_thrown (D := D) hl kmQ
  have koQ := (fq.1 o).trans L₀.2.2.1.1
  have loQ := (fq.2.1 o).trans L₀.2.2.1.2
  have LQ := mh_L_fa L₀ fq inv₀
  have fin : ∀ B', B₀ ≤ B' + 4 → K 28 [(0, Sum.inr (Sum.inl s₀)), (1, Sum.inr (Sum.inl g₀)), (2, Sum.inr (Sum.inl m₀)), (3, Sum.inr (Sum.inl o)), (4, Sum.inr (Sum.inl od)), (5, Sum.inl (i₀ + 5))] [] Q₀ B' := fun B' hB' => nex Q₀ B' LQ hB'
  clear nex inv₀ L₀ I₀
  by_cases hk : k₀ = 0
  · have gz := qg hk
    clear qg
    subst gz
    have z9 := mh_lcmp (gl Q₀ o 0)
    (repeat' (((conv => whnf); first | (show (_ : Option mg_V) = _ ∧ _; assumption) | (show K _ _ _ _ _; assumption) | (show mm_th _ _ _ _; assumption) | refine And.intro (by first | assumption | omega | (simp only [true_and]; first | done | assumption | omega)) ?_ | (refine And.intro (fun _ => ?_) (fun _ => ?_) <;> first | (exfalso; omega) | skip) | intro _ | fail)))
    all_goals (try ((conv => whnf); (refine Exists.intro _ (Exists.intro _ (And.intro (cT) (And.intro ?_ (fun _ _ h₀ => h₀.elim)))); rintro _ _ ⟨rfl, e₀⟩; have e2₀ := e₀.symm; clear e₀; subst e2₀); (repeat' (((conv => whnf); first | (show (_ : Option mg_V) = _ ∧ _; assumption) | (show K _ _ _ _ _; assumption) | (show mm_th _ _ _ _; assumption) | refine And.intro (by first | assumption | omega | (simp only [true_and]; first | done | assumption | omega)) ?_ | (refine And.intro (fun _ => ?_) (fun _ => ?_) <;> first | (exfalso; omega) | skip) | intro _ | fail)))))
    all_goals (first | (exfalso; contradiction) | ((conv => whnf); exact fin _ (by omega)) | skip)
  · clear qg
    (repeat' (((conv => whnf); first | (show (_ : Option mg_V) = _ ∧ _; assumption) | (show K _ _ _ _ _; assumption) | (show mm_th _ _ _ _; assumption) | refine And.intro (by first | assumption | omega | (simp only [true_and]; first | done | assumption | omega)) ?_ | (refine And.intro (fun _ => ?_) (fun _ => ?_) <;> first | (exfalso; omega) | skip) | intro _ | fail)))
    all_goals (try ((conv => whnf); (refine Exists.intro _ (Exists.intro _ (And.intro (cT) (And.intro ?_ (fun _ _ h₀ => h₀.elim)))); rintro _ _ ⟨rfl, e₀⟩; have e2₀ := e₀.symm; clear e₀; subst e2₀); (repeat' (((conv => whnf); first | (show (_ : Option mg_V) = _ ∧ _; assumption) | (show K _ _ _ _ _; assumption) | (show mm_th _ _ _ _; assumption) | refine And.intro (by first | assumption | omega | (simp only [true_and]; first | done | assumption | omega)) ?_ | (refine And.intro (fun _ => ?_) (fun _ => ?_) <;> first | (exfalso; omega) | skip) | intro _ | fail)))))
    all_goals ((conv => whnf); first | exact fin _ (by omega) | skip)
set_option maxRecDepth 100000 in
theorem lw_deleteRow {D : mg_D} {l : Launch} (hl : l.stackTraces = false) {N : mg_O} {X₀ : mg_X} {K : mg_K} {M : mg_M} {s₀ g₀ m₀ o od n₀ : Nat} {i₀ : Int} {B₀ : Nat} (L₀ : mh_L M s₀ g₀ m₀ o od n₀) (hi : 0 ≤ i₀ ∧ i₀ + 5 ≤ n₀) (hB₀ : 4 ≤ B₀) (nex : ∀ M' B', mh_L M' s₀ g₀ m₀ o od n₀ → B₀ ≤ B' + 4 → K 28 [(0, Sum.inr (Sum.inl s₀)), (1, Sum.inr (Sum.inl g₀)), (2, Sum.inr (Sum.inl m₀)), (3, Sum.inr (Sum.inl o)), (4, Sum.inr (Sum.inl od)), (5, Sum.inl (i₀ + 5))] [] M' B') : mg_ev mc_L_lawb (mg_Mt D l) N X₀ K 988 true 392 [(0, Sum.inr (Sum.inl s₀)), (1, Sum.inr (Sum.inl g₀)), (2, Sum.inr (Sum.inl m₀)), (3, Sum.inr (Sum.inl o)), (4, Sum.inr (Sum.inl od)), (5, Sum.inl (i₀))] [] M B₀ := by
  -- refine hK₀ _ _ _ _ _ ?_
  obtain ⟨t₀, u₀, I₀⟩ := L₀.2.2.2.2
  have ks₀ := L₀.1.1
  have lns := L₀.1.2.1
  have sg := L₀.1.2.2.1
  have nn := L₀.1.2.2.2
  obtain ⟨R, c₀, h₀⟩ := @tw_deleteRow D l hl M g₀ m₀ t₀ u₀ o (gi M s₀ (i₀ + 1).toNat) I₀ L₀.2.2.1
  have kg : kd M g₀ = 6 := (mh_gF_of I₀.1).1.1
  (repeat' (((conv => whnf); first | (show (_ : Option mg_V) = _ ∧ _; assumption) | (show K _ _ _ _ _; assumption) | (show mm_th _ _ _ _; assumption) | refine And.intro (by first | assumption | omega | (simp only [true_and]; first | done | assumption | omega)) ?_ | (refine And.intro (fun _ => ?_) (fun _ => ?_) <;> first | (exfalso; omega) | skip) | intro _ | fail)))
  all_goals ((conv => whnf); skip)
  refine Exists.intro _ (Exists.intro _ (And.intro (c₀) (And.intro ?_ (fun _ _ h₀ => h₀.elim))))
  rintro _ P ⟨k₀, rfl, hR⟩
  obtain ⟨km, fa, mt₀⟩ := h₀ k₀ P hR
  clear h₀ c₀
  have ksP := (fa.1 s₀).trans ks₀
  have lnP := (fa.2.1 s₀).trans lns
  have a1₀ : gi P s₀ (i₀ + 1).toNat = gi M s₀ (i₀ + 1).toNat := fa.2.2 s₀ _ sg
  (repeat' (((conv => whnf); first | (show (_ : Option mg_V) = _ ∧ _; assumption) | (show K _ _ _ _ _; assumption) | (show mm_th _ _ _ _; assumption) | refine And.intro (by first | assumption | omega | (simp only [true_and]; first | done | assumption | omega)) ?_ | (refine And.intro (fun _ => ?_) (fun _ => ?_) <;> first | (exfalso; omega) | skip) | intro _ | fail)))
  all_goals ((conv => whnf); rw [a1₀])
  refine Exists.intro _ (Exists.intro _ (And.intro (mt₀) (And.intro ?_ (fun _ _ h₀ => h₀.elim))))
  rintro _ Q₀ ⟨b₀, rfl, q0, qg, fq, inv₀⟩
  clear mt₀
  have kmQ := (fq.1 m₀).trans I₀.2.2.1.1.1
  have cT := cX6_thrown (D := D) hl kmQ
  have koQ := (fq.1 o).trans L₀.2.2.1.1
  have loQ := (fq.2.1 o).trans L₀.2.2.1.2
  have LQ := mh_L_fa L₀ fq inv₀
  have fin : ∀ B', B₀ ≤ B' + 4 → K 28 [(0, Sum.inr (Sum.inl s₀)), (1, Sum.inr (Sum.inl g₀)), (2, Sum.inr (Sum.inl m₀)), (3, Sum.inr (Sum.inl o)), (4, Sum.inr (Sum.inl od)), (5, Sum.inl (i₀ + 5))] [] Q₀ B' := fun B' hB' => nex Q₀ B' LQ hB'
  clear nex inv₀ L₀ I₀
  by_cases hk : k₀ = 0
  · have gz := qg hk
    clear qg
    subst gz
    have z9 := mh_lcmp (gl Q₀ o 0)
    (repeat' (((conv => whnf); first | (show (_ : Option mg_V) = _ ∧ _; assumption) | (show K _ _ _ _ _; assumption) | (show mm_th _ _ _ _; assumption) | refine And.intro (by first | assumption | omega | (simp only [true_and]; first | done | assumption | omega)) ?_ | (refine And.intro (fun _ => ?_) (fun _ => ?_) <;> first | (exfalso; omega) | skip) | intro _ | fail)))
    all_goals (try ((conv => whnf); (refine Exists.intro _ (Exists.intro _ (And.intro (cT) (And.intro ?_ (fun _ _ h₀ => h₀.elim)))); rintro _ _ ⟨rfl, e₀⟩; have e2₀ := e₀.symm; clear e₀; subst e2₀); (repeat' (((conv => whnf); first | (show (_ : Option mg_V) = _ ∧ _; assumption) | (show K _ _ _ _ _; assumption) | (show mm_th _ _ _ _; assumption) | refine And.intro (by first | assumption | omega | (simp only [true_and]; first | done | assumption | omega)) ?_ | (refine And.intro (fun _ => ?_) (fun _ => ?_) <;> first | (exfalso; omega) | skip) | intro _ | fail)))))
    all_goals (first | (exfalso; contradiction) | ((conv => whnf); exact fin _ (by omega)) | skip)
  · clear qg
    (repeat' (((conv => whnf); first | (show (_ : Option mg_V) = _ ∧ _; assumption) | (show K _ _ _ _ _; assumption) | (show mm_th _ _ _ _; assumption) | refine And.intro (by first | assumption | omega | (simp only [true_and]; first | done | assumption | omega)) ?_ | (refine And.intro (fun _ => ?_) (fun _ => ?_) <;> first | (exfalso; omega) | skip) | intro _ | fail)))
    all_goals (try ((conv => whnf); (refine Exists.intro _ (Exists.intro _ (And.intro (cT) (And.intro ?_ (fun _ _ h₀ => h₀.elim)))); rintro _ _ ⟨rfl, e₀⟩; have e2₀ := e₀.symm; clear e₀; subst e2₀); (repeat' (((conv => whnf); first | (show (_ : Option mg_V) = _ ∧ _; assumption) | (show K _ _ _ _ _; assumption) | (show mm_th _ _ _ _; assumption) | refine And.intro (by first | assumption | omega | (simp only [true_and]; first | done | assumption | omega)) ?_ | (refine And.intro (fun _ => ?_) (fun _ => ?_) <;> first | (exfalso; omega) | skip) | intro _ | fail)))))
    all_goals ((conv => whnf); first | exact fin _ (by omega) | skip)
set_option maxRecDepth 100000 in
theorem lw_deleteColumn {D : mg_D} {l : Launch} (hl : l.stackTraces = false) {N : mg_O} {X₀ : mg_X} {K : mg_K} {M : mg_M} {s₀ g₀ m₀ o od n₀ : Nat} {i₀ : Int} {B₀ : Nat} (L₀ : mh_L M s₀ g₀ m₀ o od n₀) (hi : 0 ≤ i₀ ∧ i₀ + 5 ≤ n₀) (hB₀ : 4 ≤ B₀) (nex : ∀ M' B', mh_L M' s₀ g₀ m₀ o od n₀ → B₀ ≤ B' + 4 → K 28 [(0, Sum.inr (Sum.inl s₀)), (1, Sum.inr (Sum.inl g₀)), (2, Sum.inr (Sum.inl m₀)), (3, Sum.inr (Sum.inl o)), (4, Sum.inr (Sum.inl od)), (5, Sum.inl (i₀ + 5))] [] M' B') : mg_ev mc_L_lawb (mg_Mt D l) N X₀ K 988 true 448 [(0, Sum.inr (Sum.inl s₀)), (1, Sum.inr (Sum.inl g₀)), (2, Sum.inr (Sum.inl m₀)), (3, Sum.inr (Sum.inl o)), (4, Sum.inr (Sum.inl od)), (5, Sum.inl (i₀))] [] M B₀ := by
  -- refine hK₀ _ _ _ _ _ ?_
  obtain ⟨t₀, u₀, I₀⟩ := L₀.2.2.2.2
  have ks₀ := L₀.1.1
  have lns := L₀.1.2.1
  have sg := L₀.1.2.2.1
  have nn := L₀.1.2.2.2
  obtain ⟨R, c₀, h₀⟩ := @tw_deleteColumn D l hl M g₀ m₀ t₀ u₀ o (gi M s₀ (i₀ + 1).toNat) I₀ L₀.2.2.1
  have kg : kd M g₀ = 6 := (mh_gF_of I₀.1).1.1
  (repeat' (((conv => whnf); first | (show (_ : Option mg_V) = _ ∧ _; assumption) | (show K _ _ _ _ _; assumption) | (show mm_th _ _ _ _; assumption) | refine And.intro (by first | assumption | omega | (simp only [true_and]; first | done | assumption | omega)) ?_ | (refine And.intro (fun _ => ?_) (fun _ => ?_) <;> first | (exfalso; omega) | skip) | intro _ | fail)))
  all_goals ((conv => whnf); skip)
  refine Exists.intro _ (Exists.intro _ (And.intro (c₀) (And.intro ?_ (fun _ _ h₀ => h₀.elim))))
  rintro _ P ⟨k₀, rfl, hR⟩
  obtain ⟨km, fa, mt₀⟩ := h₀ k₀ P hR
  clear h₀ c₀
  have ksP := (fa.1 s₀).trans ks₀
  have lnP := (fa.2.1 s₀).trans lns
  have a1₀ : gi P s₀ (i₀ + 1).toNat = gi M s₀ (i₀ + 1).toNat := fa.2.2 s₀ _ sg
  (repeat' (((conv => whnf); first | (show (_ : Option mg_V) = _ ∧ _; assumption) | (show K _ _ _ _ _; assumption) | (show mm_th _ _ _ _; assumption) | refine And.intro (by first | assumption | omega | (simp only [true_and]; first | done | assumption | omega)) ?_ | (refine And.intro (fun _ => ?_) (fun _ => ?_) <;> first | (exfalso; omega) | skip) | intro _ | fail)))
  all_goals ((conv => whnf); rw [a1₀])
  refine Exists.intro _ (Exists.intro _ (And.intro (mt₀) (And.intro ?_ (fun _ _ h₀ => h₀.elim))))
  rintro _ Q₀ ⟨b₀, rfl, q0, qg, fq, inv₀⟩
  clear mt₀
  have kmQ := (fq.1 m₀).trans I₀.2.2.1.1.1
  have cT := cX6_thrown (D := D) hl kmQ
  have koQ := (fq.1 o).trans L₀.2.2.1.1
  have loQ := (fq.2.1 o).trans L₀.2.2.1.2
  have LQ := mh_L_fa L₀ fq inv₀
  have fin : ∀ B', B₀ ≤ B' + 4 → K 28 [(0, Sum.inr (Sum.inl s₀)), (1, Sum.inr (Sum.inl g₀)), (2, Sum.inr (Sum.inl m₀)), (3, Sum.inr (Sum.inl o)), (4, Sum.inr (Sum.inl od)), (5, Sum.inl (i₀ + 5))] [] Q₀ B' := fun B' hB' => nex Q₀ B' LQ hB'
  clear nex inv₀ L₀ I₀
  by_cases hk : k₀ = 0
  · have gz := qg hk
    clear qg
    subst gz
    have z9 := mh_lcmp (gl Q₀ o 0)
    (repeat' (((conv => whnf); first | (show (_ : Option mg_V) = _ ∧ _; assumption) | (show K _ _ _ _ _; assumption) | (show mm_th _ _ _ _; assumption) | refine And.intro (by first | assumption | omega | (simp only [true_and]; first | done | assumption | omega)) ?_ | (refine And.intro (fun _ => ?_) (fun _ => ?_) <;> first | (exfalso; omega) | skip) | intro _ | fail)))
    all_goals (try ((conv => whnf); (refine Exists.intro _ (Exists.intro _ (And.intro (cT) (And.intro ?_ (fun _ _ h₀ => h₀.elim)))); rintro _ _ ⟨rfl, e₀⟩; have e2₀ := e₀.symm; clear e₀; subst e2₀); (repeat' (((conv => whnf); first | (show (_ : Option mg_V) = _ ∧ _; assumption) | (show K _ _ _ _ _; assumption) | (show mm_th _ _ _ _; assumption) | refine And.intro (by first | assumption | omega | (simp only [true_and]; first | done | assumption | omega)) ?_ | (refine And.intro (fun _ => ?_) (fun _ => ?_) <;> first | (exfalso; omega) | skip) | intro _ | fail)))))
    all_goals (first | (exfalso; contradiction) | ((conv => whnf); exact fin _ (by omega)) | skip)
  · clear qg
    (repeat' (((conv => whnf); first | (show (_ : Option mg_V) = _ ∧ _; assumption) | (show K _ _ _ _ _; assumption) | (show mm_th _ _ _ _; assumption) | refine And.intro (by first | assumption | omega | (simp only [true_and]; first | done | assumption | omega)) ?_ | (refine And.intro (fun _ => ?_) (fun _ => ?_) <;> first | (exfalso; omega) | skip) | intro _ | fail)))
    all_goals (try ((conv => whnf); (refine Exists.intro _ (Exists.intro _ (And.intro (cT) (And.intro ?_ (fun _ _ h₀ => h₀.elim)))); rintro _ _ ⟨rfl, e₀⟩; have e2₀ := e₀.symm; clear e₀; subst e2₀); (repeat' (((conv => whnf); first | (show (_ : Option mg_V) = _ ∧ _; assumption) | (show K _ _ _ _ _; assumption) | (show mm_th _ _ _ _; assumption) | refine And.intro (by first | assumption | omega | (simp only [true_and]; first | done | assumption | omega)) ?_ | (refine And.intro (fun _ => ?_) (fun _ => ?_) <;> first | (exfalso; omega) | skip) | intro _ | fail)))))
    all_goals ((conv => whnf); first | exact fin _ (by omega) | skip)
set_option maxRecDepth 100000 in
theorem lw_moveRow {D : mg_D} {l : Launch} (hl : l.stackTraces = false) {N : mg_O} {X₀ : mg_X} {K : mg_K} {M : mg_M} {s₀ g₀ m₀ o od n₀ : Nat} {i₀ : Int} {B₀ : Nat} (L₀ : mh_L M s₀ g₀ m₀ o od n₀) (hi : 0 ≤ i₀ ∧ i₀ + 5 ≤ n₀) (hB₀ : 4 ≤ B₀) (nex : ∀ M' B', mh_L M' s₀ g₀ m₀ o od n₀ → B₀ ≤ B' + 4 → K 28 [(0, Sum.inr (Sum.inl s₀)), (1, Sum.inr (Sum.inl g₀)), (2, Sum.inr (Sum.inl m₀)), (3, Sum.inr (Sum.inl o)), (4, Sum.inr (Sum.inl od)), (5, Sum.inl (i₀ + 5))] [] M' B') : mg_ev mc_L_lawb (mg_Mt D l) N X₀ K 988 true 504 [(0, Sum.inr (Sum.inl s₀)), (1, Sum.inr (Sum.inl g₀)), (2, Sum.inr (Sum.inl m₀)), (3, Sum.inr (Sum.inl o)), (4, Sum.inr (Sum.inl od)), (5, Sum.inl (i₀))] [] M B₀ := by
  -- refine hK₀ _ _ _ _ _ ?_
  obtain ⟨t₀, u₀, I₀⟩ := L₀.2.2.2.2
  have ks₀ := L₀.1.1
  have lns := L₀.1.2.1
  have sg := L₀.1.2.2.1
  have nn := L₀.1.2.2.2
  obtain ⟨R, c₀, h₀⟩ := @tw_moveRow D l hl M g₀ m₀ t₀ u₀ o (gi M s₀ (i₀ + 1).toNat) (gi M s₀ (i₀ + 2).toNat) I₀ L₀.2.2.1
  have kg : kd M g₀ = 6 := (mh_gF_of I₀.1).1.1
  (repeat' (((conv => whnf); first | (show (_ : Option mg_V) = _ ∧ _; assumption) | (show K _ _ _ _ _; assumption) | (show mm_th _ _ _ _; assumption) | refine And.intro (by first | assumption | omega | (simp only [true_and]; first | done | assumption | omega)) ?_ | (refine And.intro (fun _ => ?_) (fun _ => ?_) <;> first | (exfalso; omega) | skip) | intro _ | fail)))
  all_goals ((conv => whnf); skip)
  refine Exists.intro _ (Exists.intro _ (And.intro (c₀) (And.intro ?_ (fun _ _ h₀ => h₀.elim))))
  rintro _ P ⟨k₀, rfl, hR⟩
  obtain ⟨km, fa, mt₀⟩ := h₀ k₀ P hR
  clear h₀ c₀
  have ksP := (fa.1 s₀).trans ks₀
  have lnP := (fa.2.1 s₀).trans lns
  have a1₀ : gi P s₀ (i₀ + 1).toNat = gi M s₀ (i₀ + 1).toNat := fa.2.2 s₀ _ sg
  have a2 : gi P s₀ (i₀ + 2).toNat = gi M s₀ (i₀ + 2).toNat := fa.2.2 s₀ _ sg
  (repeat' (((conv => whnf); first | (show (_ : Option mg_V) = _ ∧ _; assumption) | (show K _ _ _ _ _; assumption) | (show mm_th _ _ _ _; assumption) | refine And.intro (by first | assumption | omega | (simp only [true_and]; first | done | assumption | omega)) ?_ | (refine And.intro (fun _ => ?_) (fun _ => ?_) <;> first | (exfalso; omega) | skip) | intro _ | fail)))
  all_goals ((conv => whnf); rw [a1₀, a2])
  refine Exists.intro _ (Exists.intro _ (And.intro (mt₀) (And.intro ?_ (fun _ _ h₀ => h₀.elim))))
  rintro _ Q₀ ⟨b₀, rfl, q0, qg, fq, inv₀⟩
  clear mt₀
  have kmQ := (fq.1 m₀).trans I₀.2.2.1.1.1
  have cT := cX6_thrown (D := D) hl kmQ
  have koQ := (fq.1 o).trans L₀.2.2.1.1
  have loQ := (fq.2.1 o).trans L₀.2.2.1.2
  have LQ := mh_L_fa L₀ fq inv₀
  have fin : ∀ B', B₀ ≤ B' + 4 → K 28 [(0, Sum.inr (Sum.inl s₀)), (1, Sum.inr (Sum.inl g₀)), (2, Sum.inr (Sum.inl m₀)), (3, Sum.inr (Sum.inl o)), (4, Sum.inr (Sum.inl od)), (5, Sum.inl (i₀ + 5))] [] Q₀ B' := fun B' hB' => nex Q₀ B' LQ hB'
  clear nex inv₀ L₀ I₀
  by_cases hk : k₀ = 0
  · have gz := qg hk
    clear qg
    subst gz
    have z9 := mh_lcmp (gl Q₀ o 0)
    (repeat' (((conv => whnf); first | (show (_ : Option mg_V) = _ ∧ _; assumption) | (show K _ _ _ _ _; assumption) | (show mm_th _ _ _ _; assumption) | refine And.intro (by first | assumption | omega | (simp only [true_and]; first | done | assumption | omega)) ?_ | (refine And.intro (fun _ => ?_) (fun _ => ?_) <;> first | (exfalso; omega) | skip) | intro _ | fail)))
    all_goals (try ((conv => whnf); (refine Exists.intro _ (Exists.intro _ (And.intro (cT) (And.intro ?_ (fun _ _ h₀ => h₀.elim)))); rintro _ _ ⟨rfl, e₀⟩; have e2₀ := e₀.symm; clear e₀; subst e2₀); (repeat' (((conv => whnf); first | (show (_ : Option mg_V) = _ ∧ _; assumption) | (show K _ _ _ _ _; assumption) | (show mm_th _ _ _ _; assumption) | refine And.intro (by first | assumption | omega | (simp only [true_and]; first | done | assumption | omega)) ?_ | (refine And.intro (fun _ => ?_) (fun _ => ?_) <;> first | (exfalso; omega) | skip) | intro _ | fail)))))
    all_goals (first | (exfalso; contradiction) | ((conv => whnf); exact fin _ (by omega)) | skip)
  · clear qg
    (repeat' (((conv => whnf); first | (show (_ : Option mg_V) = _ ∧ _; assumption) | (show K _ _ _ _ _; assumption) | (show mm_th _ _ _ _; assumption) | refine And.intro (by first | assumption | omega | (simp only [true_and]; first | done | assumption | omega)) ?_ | (refine And.intro (fun _ => ?_) (fun _ => ?_) <;> first | (exfalso; omega) | skip) | intro _ | fail)))
    all_goals (try ((conv => whnf); (refine Exists.intro _ (Exists.intro _ (And.intro (cT) (And.intro ?_ (fun _ _ h₀ => h₀.elim)))); rintro _ _ ⟨rfl, e₀⟩; have e2₀ := e₀.symm; clear e₀; subst e2₀); (repeat' (((conv => whnf); first | (show (_ : Option mg_V) = _ ∧ _; assumption) | (show K _ _ _ _ _; assumption) | (show mm_th _ _ _ _; assumption) | refine And.intro (by first | assumption | omega | (simp only [true_and]; first | done | assumption | omega)) ?_ | (refine And.intro (fun _ => ?_) (fun _ => ?_) <;> first | (exfalso; omega) | skip) | intro _ | fail)))))
    all_goals ((conv => whnf); first | exact fin _ (by omega) | skip)
