def mg_put4 (M : mg_M) (a : Nat) (t c h w : Int) : mg_M := si (si (si (si M a 0 t) a 1 c) a 2 h) a 3 w
theorem cX0_span {D : mg_D} {l : Launch} (hl : l.stackTraces = false) {M : mg_M} {a : Nat} {r c d e : Int} (ha : kd M a = 1) : mg_Mt D l 15 [.inr (.inl a), .inl r, .inl c, .inl d, .inl e] M (fun v M' => v = none ∧ M' = mg_put4 M a (min r d) (min c e) (max r d) (max c e)) mg_no := by
  refine mg_of2 hl ok_X0_span al_X0_span rfl (fun K hK => ?_)
  refine hK _ _ _ _ _ ?_
  (repeat' (first | rfl | ((conv => whnf); first | exact And.intro rfl rfl | refine And.intro (by first | assumption | omega) ?_ | (refine And.intro (fun _ => ?_) (fun _ => ?_) <;> first | (exfalso; omega) | skip) | exact rfl | intro _ | fail)))
  all_goals (refine And.intro ?_ ?_ <;> first | rfl | ((repeat' split) <;> first | rfl | omega))
theorem cX0_squares {D : mg_D} {l : Launch} (hl : l.stackTraces = false) {M : mg_M} {a : Nat} (ha : kd M a = 1) (h1 : -1000 ≤ gi M a 0 ∧ gi M a 0 ≤ 1000 ∧ -1000 ≤ gi M a 2 ∧ gi M a 2 ≤ 1000) (h2 : -1000 ≤ gi M a 1 ∧ gi M a 1 ≤ 1000 ∧ -1000 ≤ gi M a 3 ∧ gi M a 3 ≤ 1000) (h3 : -10000000 ≤ (gi M a 2 - gi M a 0 + 1) * (gi M a 3 - gi M a 1 + 1) ∧ (gi M a 2 - gi M a 0 + 1) * (gi M a 3 - gi M a 1 + 1) ≤ 10000000) : mg_Mt D l 16 [.inr (.inl a)] M (fun v M' => v = some (.inl ((gi M a 2 - gi M a 0 + 1) * (gi M a 3 - gi M a 1 + 1))) ∧ M' = M) mg_no := by
  refine mg_of2 hl ok_X0_squares al_X0_squares rfl (fun K hK => ?_)
  refine hK _ _ _ _ _ ?_
  (repeat' (first | rfl | ((conv => whnf); first | exact And.intro rfl rfl | refine And.intro (by first | assumption | omega) ?_ | (refine And.intro (fun _ => ?_) (fun _ => ?_) <;> first | (exfalso; omega) | skip) | exact rfl | intro _ | fail)))
  all_goals (refine And.intro ?_ ?_ <;> first | rfl | ((repeat' split) <;> first | rfl | omega))
theorem mg_sm_si {M : mg_M} {a b k : Nat} {x : Int} (h : ¬ (b = a)) (g : mg_sm M b) : mg_sm (si M a k x) b := by
  unfold mg_sm at *
  simpa only [gi_si, kd_si, h, false_and, if_false] using g
theorem cX0_takeIn {D : mg_D} {l : Launch} (hl : l.stackTraces = false) {M : mg_M} {a b : Nat} (ha : kd M a = 1) (h : mg_sm M b) : mg_Mt D l 17 [.inr (.inl a), .inr (.inl b)] M (fun v M' => v = none ∧ M' = mg_put4 M a (min (gi M a 0) (gi M b 0)) (min (gi M a 1) (gi M b 1)) (max (gi M a 2) (gi M b 0 + gi M b 2 - 1)) (max (gi M a 3) (gi M b 1 + gi M b 3 - 1))) mg_no := by
  refine mg_of2 hl ok_X0_takeIn al_X0_takeIn rfl (fun K hK => ?_)
  have h' := h
  obtain ⟨h1, h2, h3⟩ := h
  have hab : ¬ (b = a) := fun e => by rw [e] at h1; omega
  refine hK _ _ _ _ _ ?_
  (repeat' (first | rfl | ((conv => whnf); first | exact And.intro rfl rfl | refine And.intro (by first | assumption | omega) ?_ | (refine And.intro (fun _ => ?_) (fun _ => ?_) <;> first | (exfalso; omega) | skip) | exact rfl | intro _ | fail)))
  all_goals (try ((conv => whnf); (refine Exists.intro _ (Exists.intro _ (And.intro (cX2_bottom hl (mg_sm_si hab (mg_sm_si hab h'))) (And.intro ?_ (fun _ _ h => h.elim)))); rintro _ _ ⟨rfl, e⟩; have e2 := e.symm; clear e; subst e2); (repeat' (first | rfl | ((conv => whnf); first | exact And.intro rfl rfl | refine And.intro (by first | assumption | omega) ?_ | (refine And.intro (fun _ => ?_) (fun _ => ?_) <;> first | (exfalso; omega) | skip) | exact rfl | intro _ | fail)))))
  all_goals (try ((conv => whnf); (refine Exists.intro _ (Exists.intro _ (And.intro (cX2_right hl (mg_sm_si hab (mg_sm_si hab (mg_sm_si hab h')))) (And.intro ?_ (fun _ _ h => h.elim)))); rintro _ _ ⟨rfl, e⟩; have e2 := e.symm; clear e; subst e2); (repeat' (first | rfl | ((conv => whnf); first | exact And.intro rfl rfl | refine And.intro (by first | assumption | omega) ?_ | (refine And.intro (fun _ => ?_) (fun _ => ?_) <;> first | (exfalso; omega) | skip) | exact rfl | intro _ | fail)))))
  all_goals (refine And.intro rfl ?_; simp only [gi_si, hab, false_and, if_false, mg_put4]; rfl)
def mg_cL (M : mg_M) (c : Nat) : Prop := kd M c = 4 ∧ gr M c 1 = c + 1 ∧ gr M c 2 = c + 2 ∧ kd M (c + 1) = 9 ∧ ln M (c + 1) = 120 ∧ kd M (c + 2) = 3 ∧ (0 ≤ gi M c 0 ∧ gi M c 0 ≤ 120) ∧ (∀ i : Nat, i < 120 → kd M (gr M (c + 1) i) = 3 ∧ c + 3 ≤ gr M (c + 1) i ∧ gr M (c + 1) i < c + 123) ∧ (∀ i j : Nat, i < 120 → j < 120 → gr M (c + 1) i = gr M (c + 1) j → i = j)
theorem cX3_get {D : mg_D} {l : Launch} (hl : l.stackTraces = false) {M : mg_M} {c : Nat} {i : Int} (h : mg_cL M c) (hi : 0 ≤ i ∧ i < gi M c 0) : mg_Mt D l 19 [.inr (.inl c), .inl i] M (fun v M' => v = some (.inr (.inl (gr M (c + 1) i.toNat))) ∧ M' = M) mg_no := by
  refine mg_of2 hl ok_X3_get al_X3_get rfl (fun K hK => ?_)
  obtain ⟨g1, g2, g3, g4, g5, g6, g7, g8, g9⟩ := h
  have g10 := g8 i.toNat (by omega)
  refine hK _ _ _ _ _ ?_
  (repeat' (first | rfl | ((conv => whnf); first | exact And.intro rfl rfl | refine And.intro (by first | assumption | omega | (simp only [g2, g3, g5]; first | done | assumption | omega)) ?_ | (refine And.intro (fun _ => ?_) (fun _ => ?_) <;> first | (exfalso; omega) | skip) | exact rfl | intro _ | fail)))
def mh_in (M : mg_M) (a b : Nat) : Bool := decide (gi M b 0 ≤ gi M a 0 ∧ gi M a 0 + gi M a 2 - 1 ≤ gi M b 2 ∧ gi M b 1 ≤ gi M a 1 ∧ gi M a 1 + gi M a 3 - 1 ≤ gi M b 3)
def mh_bi (p : Bool) : Int := if p then 1 else 0
theorem mh_bi01 (p : Bool) : mh_bi p = 0 ∨ mh_bi p = 1 := by cases p <;> simp [mh_bi]
theorem mh_bi0 {p : Bool} (h : mh_bi p = 0) : p = false := by cases p <;> simp [mh_bi] at *
theorem mh_bi1 {p : Bool} (h : ¬ (mh_bi p = 0)) : p = true := by cases p <;> simp [mh_bi] at *
theorem cX2_within {D : mg_D} {l : Launch} (hl : l.stackTraces = false) {M : mg_M} {a b : Nat} (h : mg_sm M a) (hb : kd M b = 1) : mg_Mt D l 7 [.inr (.inl a), .inr (.inl b)] M (fun v M' => v = some (.inl (mh_bi (mh_in M a b))) ∧ M' = M) mg_no := by
  have g := cX2_isWithin (D := D) hl h hb
  simpa only [mh_bi, mh_in, decide_eq_true_eq] using g
def mg_cS (M : mg_M) (c : Nat) : Prop := ∀ i : Nat, (i : Int) < gi M c 0 → mg_sm M (gr M (c + 1) i)
theorem mh_bi01le (p : Bool) : 0 ≤ mh_bi p ∧ mh_bi p ≤ 10000 := by cases p <;> simp [mh_bi]
def mh_sum (f : Nat → Int) : Nat → Int
  | 0 => 0
  | n + 1 => mh_sum f n + f n
theorem mh_sum_le {f : Nat → Int} {b : Int} (n : Nat) (h : ∀ i : Nat, i < n → 0 ≤ f i ∧ f i ≤ b) : 0 ≤ mh_sum f n ∧ mh_sum f n ≤ b * n := by
  induction n with
  | zero => exact ⟨Int.le_refl 0, by simp [mh_sum]⟩
  | succ n ih =>
    have e : mh_sum f (n + 1) = mh_sum f n + f n := rfl
    have g := ih (fun i hi => h i (by omega))
    have g2 := h n (by omega)
    have e3 : b * ((n + 1 : Nat) : Int) = b * n + b := by rw [Int.natCast_succ, Int.mul_add, Int.mul_one]
    omega
theorem cX3_countIn {D : mg_D} {l : Launch} (hl : l.stackTraces = false) {M : mg_M} {c b : Nat} (h : mg_cL M c) (hs : mg_cS M c) (hb : kd M b = 1) : mg_Mt D l 25 [.inr (.inl c), .inr (.inl b)] M (fun v M' => v = some (.inl (mh_sum (fun i => mh_bi (mh_in M (gr M (c + 1) i) b)) (gi M c 0).toNat)) ∧ M' = M) mg_no := by
  refine mg_of2 hl ok_X3_countIn al_X3_countIn rfl (fun K hK => ?_)
  have h' := h
  obtain ⟨g1, g2, g3, g4, g5, g6, g7, g8, g9⟩ := h
  refine hK _ _ _ _ _ ?_
  (repeat' (first | rfl | ((conv => whnf); first | exact And.intro rfl rfl | refine And.intro (by first | assumption | omega | (simp only [g2, g3, g5, Int.toNat_natCast]; first | done | assumption | omega)) ?_ | (refine And.intro (fun _ => ?_) (fun _ => ?_) <;> first | (exfalso; omega) | skip) | exact rfl | intro _ | fail)))
  (conv => whnf)
  have L : ∀ n i : Nat, ∀ k j : Int, gi M c 0 = i + n → j = i → k = mh_sum (fun i => mh_bi (mh_in M (gr M (c + 1) i) b)) i → K 4 [(0, .inr (.inl c)), (1, .inr (.inl b)), (2, Sum.inl k), (3, Sum.inl j)] [] M 0 := by
    intro n
    induction n with
    | zero =>
      intro i k j hn hj hk
      refine hK _ _ _ _ _ ?_
      (repeat' (first | rfl | ((conv => whnf); first | exact And.intro rfl rfl | refine And.intro (by first | assumption | omega | (simp only [g2, g3, g5, Int.toNat_natCast]; first | done | assumption | omega)) ?_ | (refine And.intro (fun _ => ?_) (fun _ => ?_) <;> first | (exfalso; omega) | skip) | exact rfl | intro _ | fail)))
      refine And.intro ?_ rfl
      rw [hk, hn]
      simp
    | succ n ih =>
      intro i k j hn hj hk
      have hf : ∀ i : Nat, (i : Int) < gi M c 0 → 0 ≤ mh_bi (mh_in M (gr M (c + 1) i) b) ∧ mh_bi (mh_in M (gr M (c + 1) i) b) ≤ 10000 := by
        intro i hi
        exact mh_bi01le _
      have hc := mh_sum_le (f := (fun i => mh_bi (mh_in M (gr M (c + 1) i) b))) (b := 10000) i (fun j hj => hf j (by omega))
      have e : mh_sum (fun i => mh_bi (mh_in M (gr M (c + 1) i) b)) (i + 1) = mh_sum (fun i => mh_bi (mh_in M (gr M (c + 1) i) b)) i + mh_bi (mh_in M (gr M (c + 1) i) b) := rfl
      have hfi := hf i (by omega)
      subst hj
      have hm := hs i (by omega)
      have hk3 := hm.1
      skip
      refine hK _ _ _ _ _ ?_
      (repeat' (first | rfl | ((conv => whnf); first | exact And.intro rfl rfl | refine And.intro (by first | assumption | omega | (simp only [g2, g3, g5, Int.toNat_natCast]; first | done | assumption | omega)) ?_ | (refine And.intro (fun _ => ?_) (fun _ => ?_) <;> first | (exfalso; omega) | skip) | exact rfl | intro _ | fail)))
      all_goals (try ((conv => whnf); (refine Exists.intro _ (Exists.intro _ (And.intro (cX3_get hl h' (by omega)) (And.intro ?_ (fun _ _ h => h.elim)))); rintro _ _ ⟨rfl, e⟩; have e2 := e.symm; clear e; subst e2); (repeat' (first | rfl | ((conv => whnf); first | exact And.intro rfl rfl | refine And.intro (by first | assumption | omega | (simp only [g2, g3, g5, Int.toNat_natCast]; first | done | assumption | omega)) ?_ | (refine And.intro (fun _ => ?_) (fun _ => ?_) <;> first | (exfalso; omega) | skip) | exact rfl | intro _ | fail)))))
      all_goals (try ((conv => whnf); (refine Exists.intro _ (Exists.intro _ (And.intro (cX2_within hl hm hb) (And.intro ?_ (fun _ _ h => h.elim)))); rintro _ _ ⟨rfl, e⟩; have e2 := e.symm; clear e; subst e2); (repeat' (first | rfl | ((conv => whnf); first | exact And.intro rfl rfl | refine And.intro (by first | assumption | omega | (simp only [g2, g3, g5, Int.toNat_natCast]; first | done | assumption | omega)) ?_ | (refine And.intro (fun _ => ?_) (fun _ => ?_) <;> first | (exfalso; omega) | skip) | exact rfl | intro _ | fail)))))
      all_goals (rename_i hp; (conv => whnf); simp only [Int.toNat_natCast] at hp; have h01 := mh_bi01 ((mh_in M (gr M (c + 1) i) b)); exact ih (i + 1) _ _ (by omega) (by omega) (by omega))
  exact L (gi M c 0).toNat 0 0 0 (by omega) rfl rfl
theorem cX3_filledIn {D : mg_D} {l : Launch} (hl : l.stackTraces = false) {M : mg_M} {c b : Nat} (h : mg_cL M c) (hs : mg_cS M c) (hb : kd M b = 1) : mg_Mt D l 26 [.inr (.inl c), .inr (.inl b)] M (fun v M' => v = some (.inl (mh_sum (fun i => (if mh_bi (mh_in M (gr M (c + 1) i) b) = 0 then (0 : Int) else if gi M (gr M (c + 1) i) 4 = 0 then (0 : Int) else 1)) (gi M c 0).toNat)) ∧ M' = M) mg_no := by
  refine mg_of2 hl ok_X3_filledIn al_X3_filledIn rfl (fun K hK => ?_)
  have h' := h
  obtain ⟨g1, g2, g3, g4, g5, g6, g7, g8, g9⟩ := h
  refine hK _ _ _ _ _ ?_
  (repeat' (first | rfl | ((conv => whnf); first | exact And.intro rfl rfl | refine And.intro (by first | assumption | omega | (simp only [g2, g3, g5, Int.toNat_natCast]; first | done | assumption | omega)) ?_ | (refine And.intro (fun _ => ?_) (fun _ => ?_) <;> first | (exfalso; omega) | skip) | exact rfl | intro _ | fail)))
  (conv => whnf)
  have L : ∀ n i : Nat, ∀ k j : Int, gi M c 0 = i + n → j = i → k = mh_sum (fun i => (if mh_bi (mh_in M (gr M (c + 1) i) b) = 0 then (0 : Int) else if gi M (gr M (c + 1) i) 4 = 0 then (0 : Int) else 1)) i → K 4 [(0, .inr (.inl c)), (1, .inr (.inl b)), (2, Sum.inl k), (3, Sum.inl j)] [] M 0 := by
    intro n
    induction n with
    | zero =>
      intro i k j hn hj hk
      refine hK _ _ _ _ _ ?_
      (repeat' (first | rfl | ((conv => whnf); first | exact And.intro rfl rfl | refine And.intro (by first | assumption | omega | (simp only [g2, g3, g5, Int.toNat_natCast]; first | done | assumption | omega)) ?_ | (refine And.intro (fun _ => ?_) (fun _ => ?_) <;> first | (exfalso; omega) | skip) | exact rfl | intro _ | fail)))
      refine And.intro ?_ rfl
      rw [hk, hn]
      simp
    | succ n ih =>
      intro i k j hn hj hk
      have hf : ∀ i : Nat, (i : Int) < gi M c 0 → 0 ≤ (if mh_bi (mh_in M (gr M (c + 1) i) b) = 0 then (0 : Int) else if gi M (gr M (c + 1) i) 4 = 0 then (0 : Int) else 1) ∧ (if mh_bi (mh_in M (gr M (c + 1) i) b) = 0 then (0 : Int) else if gi M (gr M (c + 1) i) 4 = 0 then (0 : Int) else 1) ≤ 10000 := by
        intro i hi
        (repeat' split) <;> omega
      have hc := mh_sum_le (f := (fun i => (if mh_bi (mh_in M (gr M (c + 1) i) b) = 0 then (0 : Int) else if gi M (gr M (c + 1) i) 4 = 0 then (0 : Int) else 1))) (b := 10000) i (fun j hj => hf j (by omega))
      have e : mh_sum (fun i => (if mh_bi (mh_in M (gr M (c + 1) i) b) = 0 then (0 : Int) else if gi M (gr M (c + 1) i) 4 = 0 then (0 : Int) else 1)) (i + 1) = mh_sum (fun i => (if mh_bi (mh_in M (gr M (c + 1) i) b) = 0 then (0 : Int) else if gi M (gr M (c + 1) i) 4 = 0 then (0 : Int) else 1)) i + (if mh_bi (mh_in M (gr M (c + 1) i) b) = 0 then (0 : Int) else if gi M (gr M (c + 1) i) 4 = 0 then (0 : Int) else 1) := rfl
      have hfi := hf i (by omega)
      subst hj
      have hm := hs i (by omega)
      have hk3 := hm.1
      skip
      refine hK _ _ _ _ _ ?_
      (repeat' (first | rfl | ((conv => whnf); first | exact And.intro rfl rfl | refine And.intro (by first | assumption | omega | (simp only [g2, g3, g5, Int.toNat_natCast]; first | done | assumption | omega)) ?_ | (refine And.intro (fun _ => ?_) (fun _ => ?_) <;> first | (exfalso; omega) | skip) | exact rfl | intro _ | fail)))
      all_goals (try ((conv => whnf); (refine Exists.intro _ (Exists.intro _ (And.intro (cX3_get hl h' (by omega)) (And.intro ?_ (fun _ _ h => h.elim)))); rintro _ _ ⟨rfl, e⟩; have e2 := e.symm; clear e; subst e2); (repeat' (first | rfl | ((conv => whnf); first | exact And.intro rfl rfl | refine And.intro (by first | assumption | omega | (simp only [g2, g3, g5, Int.toNat_natCast]; first | done | assumption | omega)) ?_ | (refine And.intro (fun _ => ?_) (fun _ => ?_) <;> first | (exfalso; omega) | skip) | exact rfl | intro _ | fail)))))
      all_goals (try ((conv => whnf); (refine Exists.intro _ (Exists.intro _ (And.intro (cX2_within hl hm hb) (And.intro ?_ (fun _ _ h => h.elim)))); rintro _ _ ⟨rfl, e⟩; have e2 := e.symm; clear e; subst e2); (repeat' (first | rfl | ((conv => whnf); first | exact And.intro rfl rfl | refine And.intro (by first | assumption | omega | (simp only [g2, g3, g5, Int.toNat_natCast]; first | done | assumption | omega)) ?_ | (refine And.intro (fun _ => ?_) (fun _ => ?_) <;> first | (exfalso; omega) | skip) | exact rfl | intro _ | fail)))))
      all_goals (try ((conv => whnf); (refine Exists.intro _ (Exists.intro _ (And.intro (cX3_get hl h' (by omega)) (And.intro ?_ (fun _ _ h => h.elim)))); rintro _ _ ⟨rfl, e⟩; have e2 := e.symm; clear e; subst e2); (repeat' (first | rfl | ((conv => whnf); first | exact And.intro rfl rfl | refine And.intro (by first | assumption | omega | (simp only [g2, g3, g5, Int.toNat_natCast]; first | done | assumption | omega)) ?_ | (refine And.intro (fun _ => ?_) (fun _ => ?_) <;> first | (exfalso; omega) | skip) | exact rfl | intro _ | fail)))))
      all_goals ((conv => whnf); simp only [Int.toNat_natCast] at *; refine ih (i + 1) _ _ (by omega) (by omega) ?_; rw [e]; (repeat' split) <;> omega)
  exact L (gi M c 0).toNat 0 0 0 (by omega) rfl rfl
theorem cX3_sumIn {D : mg_D} {l : Launch} (hl : l.stackTraces = false) {M : mg_M} {c b : Nat} (h : mg_cL M c) (hs : mg_cS M c) (hb : kd M b = 1) (h4 : ∀ i : Nat, (i : Int) < gi M c 0 → 0 ≤ gi M (gr M (c + 1) i) 4 ∧ gi M (gr M (c + 1) i) 4 ≤ 999) : mg_Mt D l 27 [.inr (.inl c), .inr (.inl b)] M (fun v M' => v = some (.inl (mh_sum (fun i => (if mh_bi (mh_in M (gr M (c + 1) i) b) = 0 then (0 : Int) else gi M (gr M (c + 1) i) 4)) (gi M c 0).toNat)) ∧ M' = M) mg_no := by
  refine mg_of2 hl ok_X3_sumIn al_X3_sumIn rfl (fun K hK => ?_)
  have h' := h
  obtain ⟨g1, g2, g3, g4, g5, g6, g7, g8, g9⟩ := h
  refine hK _ _ _ _ _ ?_
  (repeat' (first | rfl | ((conv => whnf); first | exact And.intro rfl rfl | refine And.intro (by first | assumption | omega | (simp only [g2, g3, g5, Int.toNat_natCast]; first | done | assumption | omega)) ?_ | (refine And.intro (fun _ => ?_) (fun _ => ?_) <;> first | (exfalso; omega) | skip) | exact rfl | intro _ | fail)))
  (conv => whnf)
  have L : ∀ n i : Nat, ∀ k j : Int, gi M c 0 = i + n → j = i → k = mh_sum (fun i => (if mh_bi (mh_in M (gr M (c + 1) i) b) = 0 then (0 : Int) else gi M (gr M (c + 1) i) 4)) i → K 4 [(0, .inr (.inl c)), (1, .inr (.inl b)), (2, Sum.inl k), (3, Sum.inl j)] [] M 0 := by
    intro n
    induction n with
    | zero =>
      intro i k j hn hj hk
      refine hK _ _ _ _ _ ?_
      (repeat' (first | rfl | ((conv => whnf); first | exact And.intro rfl rfl | refine And.intro (by first | assumption | omega | (simp only [g2, g3, g5, Int.toNat_natCast]; first | done | assumption | omega)) ?_ | (refine And.intro (fun _ => ?_) (fun _ => ?_) <;> first | (exfalso; omega) | skip) | exact rfl | intro _ | fail)))
      refine And.intro ?_ rfl
      rw [hk, hn]
      simp
    | succ n ih =>
      intro i k j hn hj hk
      have hf : ∀ i : Nat, (i : Int) < gi M c 0 → 0 ≤ (if mh_bi (mh_in M (gr M (c + 1) i) b) = 0 then (0 : Int) else gi M (gr M (c + 1) i) 4) ∧ (if mh_bi (mh_in M (gr M (c + 1) i) b) = 0 then (0 : Int) else gi M (gr M (c + 1) i) 4) ≤ 10000 := by
        intro i hi
        have := h4 i hi; (repeat' split) <;> omega
      have hc := mh_sum_le (f := (fun i => (if mh_bi (mh_in M (gr M (c + 1) i) b) = 0 then (0 : Int) else gi M (gr M (c + 1) i) 4))) (b := 10000) i (fun j hj => hf j (by omega))
      have e : mh_sum (fun i => (if mh_bi (mh_in M (gr M (c + 1) i) b) = 0 then (0 : Int) else gi M (gr M (c + 1) i) 4)) (i + 1) = mh_sum (fun i => (if mh_bi (mh_in M (gr M (c + 1) i) b) = 0 then (0 : Int) else gi M (gr M (c + 1) i) 4)) i + (if mh_bi (mh_in M (gr M (c + 1) i) b) = 0 then (0 : Int) else gi M (gr M (c + 1) i) 4) := rfl
      have hfi := hf i (by omega)
      subst hj
      have hm := hs i (by omega)
      have hk3 := hm.1
      have h4i := h4 i (by omega)
      refine hK _ _ _ _ _ ?_
      (repeat' (first | rfl | ((conv => whnf); first | exact And.intro rfl rfl | refine And.intro (by first | assumption | omega | (simp only [g2, g3, g5, Int.toNat_natCast]; first | done | assumption | omega)) ?_ | (refine And.intro (fun _ => ?_) (fun _ => ?_) <;> first | (exfalso; omega) | skip) | exact rfl | intro _ | fail)))
      all_goals (try ((conv => whnf); (refine Exists.intro _ (Exists.intro _ (And.intro (cX3_get hl h' (by omega)) (And.intro ?_ (fun _ _ h => h.elim)))); rintro _ _ ⟨rfl, e⟩; have e2 := e.symm; clear e; subst e2); (repeat' (first | rfl | ((conv => whnf); first | exact And.intro rfl rfl | refine And.intro (by first | assumption | omega | (simp only [g2, g3, g5, Int.toNat_natCast]; first | done | assumption | omega)) ?_ | (refine And.intro (fun _ => ?_) (fun _ => ?_) <;> first | (exfalso; omega) | skip) | exact rfl | intro _ | fail)))))
      all_goals (try ((conv => whnf); (refine Exists.intro _ (Exists.intro _ (And.intro (cX2_within hl hm hb) (And.intro ?_ (fun _ _ h => h.elim)))); rintro _ _ ⟨rfl, e⟩; have e2 := e.symm; clear e; subst e2); (repeat' (first | rfl | ((conv => whnf); first | exact And.intro rfl rfl | refine And.intro (by first | assumption | omega | (simp only [g2, g3, g5, Int.toNat_natCast]; first | done | assumption | omega)) ?_ | (refine And.intro (fun _ => ?_) (fun _ => ?_) <;> first | (exfalso; omega) | skip) | exact rfl | intro _ | fail)))))
      all_goals (try ((conv => whnf); (refine Exists.intro _ (Exists.intro _ (And.intro (cX3_get hl h' (by omega)) (And.intro ?_ (fun _ _ h => h.elim)))); rintro _ _ ⟨rfl, e⟩; have e2 := e.symm; clear e; subst e2); (repeat' (first | rfl | ((conv => whnf); first | exact And.intro rfl rfl | refine And.intro (by first | assumption | omega | (simp only [g2, g3, g5, Int.toNat_natCast]; first | done | assumption | omega)) ?_ | (refine And.intro (fun _ => ?_) (fun _ => ?_) <;> first | (exfalso; omega) | skip) | exact rfl | intro _ | fail)))))
      all_goals ((conv => whnf); simp only [Int.toNat_natCast] at *; refine ih (i + 1) _ _ (by omega) (by omega) ?_; rw [e]; (repeat' split) <;> omega)
  exact L (gi M c 0).toNat 0 0 0 (by omega) rfl rfl
theorem cX3_mergedSquares {D : mg_D} {l : Launch} (hl : l.stackTraces = false) {M : mg_M} {c : Nat} (h : mg_cL M c) (hs : mg_cS M c) (h4 : ∀ i : Nat, (i : Int) < gi M c 0 → 0 ≤ gi M (gr M (c + 1) i) 2 * gi M (gr M (c + 1) i) 3 ∧ gi M (gr M (c + 1) i) 2 * gi M (gr M (c + 1) i) 3 ≤ 999) : mg_Mt D l 33 [.inr (.inl c)] M (fun v M' => v = some (.inl (mh_sum (fun i => (if gi M (gr M (c + 1) i) 2 * gi M (gr M (c + 1) i) 3 ≤ 1 then (0 : Int) else gi M (gr M (c + 1) i) 2 * gi M (gr M (c + 1) i) 3)) (gi M c 0).toNat)) ∧ M' = M) mg_no := by
  refine mg_of2 hl ok_X3_mergedSquares al_X3_mergedSquares rfl (fun K hK => ?_)
  have h' := h
  obtain ⟨g1, g2, g3, g4, g5, g6, g7, g8, g9⟩ := h
  refine hK _ _ _ _ _ ?_
  (repeat' (first | rfl | ((conv => whnf); first | exact And.intro rfl rfl | refine And.intro (by first | assumption | omega | (simp only [g2, g3, g5, Int.toNat_natCast]; first | done | assumption | omega)) ?_ | (refine And.intro (fun _ => ?_) (fun _ => ?_) <;> first | (exfalso; omega) | skip) | exact rfl | intro _ | fail)))
  (conv => whnf)
  have L : ∀ n i : Nat, ∀ k j : Int, gi M c 0 = i + n → j = i → k = mh_sum (fun i => (if gi M (gr M (c + 1) i) 2 * gi M (gr M (c + 1) i) 3 ≤ 1 then (0 : Int) else gi M (gr M (c + 1) i) 2 * gi M (gr M (c + 1) i) 3)) i → K 4 [(0, .inr (.inl c)), (1, Sum.inl k), (2, Sum.inl j)] [] M 0 := by
    intro n
    induction n with
    | zero =>
      intro i k j hn hj hk
      refine hK _ _ _ _ _ ?_
      (repeat' (first | rfl | ((conv => whnf); first | exact And.intro rfl rfl | refine And.intro (by first | assumption | omega | (simp only [g2, g3, g5, Int.toNat_natCast]; first | done | assumption | omega)) ?_ | (refine And.intro (fun _ => ?_) (fun _ => ?_) <;> first | (exfalso; omega) | skip) | exact rfl | intro _ | fail)))
      refine And.intro ?_ rfl
      rw [hk, hn]
      simp
    | succ n ih =>
      intro i k j hn hj hk
      have hf : ∀ i : Nat, (i : Int) < gi M c 0 → 0 ≤ (if gi M (gr M (c + 1) i) 2 * gi M (gr M (c + 1) i) 3 ≤ 1 then (0 : Int) else gi M (gr M (c + 1) i) 2 * gi M (gr M (c + 1) i) 3) ∧ (if gi M (gr M (c + 1) i) 2 * gi M (gr M (c + 1) i) 3 ≤ 1 then (0 : Int) else gi M (gr M (c + 1) i) 2 * gi M (gr M (c + 1) i) 3) ≤ 10000 := by
        intro i hi
        have := h4 i hi; (repeat' split) <;> omega
      have hc := mh_sum_le (f := (fun i => (if gi M (gr M (c + 1) i) 2 * gi M (gr M (c + 1) i) 3 ≤ 1 then (0 : Int) else gi M (gr M (c + 1) i) 2 * gi M (gr M (c + 1) i) 3))) (b := 10000) i (fun j hj => hf j (by omega))
      have e : mh_sum (fun i => (if gi M (gr M (c + 1) i) 2 * gi M (gr M (c + 1) i) 3 ≤ 1 then (0 : Int) else gi M (gr M (c + 1) i) 2 * gi M (gr M (c + 1) i) 3)) (i + 1) = mh_sum (fun i => (if gi M (gr M (c + 1) i) 2 * gi M (gr M (c + 1) i) 3 ≤ 1 then (0 : Int) else gi M (gr M (c + 1) i) 2 * gi M (gr M (c + 1) i) 3)) i + (if gi M (gr M (c + 1) i) 2 * gi M (gr M (c + 1) i) 3 ≤ 1 then (0 : Int) else gi M (gr M (c + 1) i) 2 * gi M (gr M (c + 1) i) 3) := rfl
      have hfi := hf i (by omega)
      subst hj
      have hm := hs i (by omega)
      have hk3 := hm.1
      have h4i := h4 i (by omega)
      refine hK _ _ _ _ _ ?_
      (repeat' (first | rfl | ((conv => whnf); first | exact And.intro rfl rfl | refine And.intro (by first | assumption | omega | (simp only [g2, g3, g5, Int.toNat_natCast]; first | done | assumption | omega)) ?_ | (refine And.intro (fun _ => ?_) (fun _ => ?_) <;> first | (exfalso; omega) | skip) | exact rfl | intro _ | fail)))
      all_goals (try ((conv => whnf); (refine Exists.intro _ (Exists.intro _ (And.intro (cX3_get hl h' (by omega)) (And.intro ?_ (fun _ _ h => h.elim)))); rintro _ _ ⟨rfl, e⟩; have e2 := e.symm; clear e; subst e2); (repeat' (first | rfl | ((conv => whnf); first | exact And.intro rfl rfl | refine And.intro (by first | assumption | omega | (simp only [g2, g3, g5, Int.toNat_natCast]; first | done | assumption | omega)) ?_ | (refine And.intro (fun _ => ?_) (fun _ => ?_) <;> first | (exfalso; omega) | skip) | exact rfl | intro _ | fail)))))
      all_goals (try ((conv => whnf); (refine Exists.intro _ (Exists.intro _ (And.intro (cX3_get hl h' (by omega)) (And.intro ?_ (fun _ _ h => h.elim)))); rintro _ _ ⟨rfl, e⟩; have e2 := e.symm; clear e; subst e2); (repeat' (first | rfl | ((conv => whnf); first | exact And.intro rfl rfl | refine And.intro (by first | assumption | omega | (simp only [g2, g3, g5, Int.toNat_natCast]; first | done | assumption | omega)) ?_ | (refine And.intro (fun _ => ?_) (fun _ => ?_) <;> first | (exfalso; omega) | skip) | exact rfl | intro _ | fail)))))
      all_goals ((conv => whnf); simp only [Int.toNat_natCast] at *; refine ih (i + 1) _ _ (by omega) (by omega) ?_; rw [e]; (repeat' split) <;> omega)
  exact L (gi M c 0).toNat 0 0 0 (by omega) rfl rfl
def mh_or (f : Nat → Int) : Nat → Int
  | 0 => 0
  | n + 1 => if mh_or f n = 0 then f n else 1
theorem mh_or_stay {f : Nat → Int} {i n : Nat} (h : i ≤ n) (g : mh_or f i = 1) : mh_or f n = 1 := by
  induction n with
  | zero => rw [show i = 0 from by omega] at g; exact g
  | succ n ih =>
    by_cases q : i = n + 1
    · rw [q] at g; exact g
    · have := ih (by omega)
      have e : mh_or f (n + 1) = if mh_or f n = 0 then f n else 1 := rfl
      rw [e, if_neg (by omega)]
def mh_me (M : mg_M) (a b : Nat) : Bool := decide (gi M a 0 ≤ gi M b 2 ∧ gi M b 0 ≤ gi M a 0 + gi M a 2 - 1 ∧ gi M a 1 ≤ gi M b 3 ∧ gi M b 1 ≤ gi M a 1 + gi M a 3 - 1)
theorem cX2_meet {D : mg_D} {l : Launch} (hl : l.stackTraces = false) {M : mg_M} {a b : Nat} (h : mg_sm M a) (hb : kd M b = 1) : mg_Mt D l 8 [.inr (.inl a), .inr (.inl b)] M (fun v M' => v = some (.inl (mh_bi (mh_me M a b))) ∧ M' = M) mg_no := by
  have g := cX2_meets (D := D) hl h hb
  simpa only [mh_bi, mh_me, decide_eq_true_eq] using g
def mh_ac (M : mg_M) (a : Nat) (r : Int) : Bool := decide (gi M a 0 < r ∧ r ≤ gi M a 0 + gi M a 2 - 1)
theorem cX2_across {D : mg_D} {l : Launch} (hl : l.stackTraces = false) {M : mg_M} {a : Nat} {r : Int} (h : mg_sm M a) : mg_Mt D l 9 [.inr (.inl a), .inl r] M (fun v M' => v = some (.inl (mh_bi (mh_ac M a r))) ∧ M' = M) mg_no := by
  have g := cX2_isAcross (D := D) hl (r := r) h
  simpa only [mh_bi, mh_ac, decide_eq_true_eq] using g
theorem cX3_isCut {D : mg_D} {l : Launch} (hl : l.stackTraces = false) {M : mg_M} {c b : Nat} (h : mg_cL M c) (hs : mg_cS M c) (hb : kd M b = 1) : mg_Mt D l 30 [.inr (.inl c), .inr (.inl b)] M (fun v M' => v = some (.inl (mh_or (fun i => (if mh_bi (mh_me M (gr M (c + 1) i) b) = 0 then (0 : Int) else if mh_bi (mh_in M (gr M (c + 1) i) b) = 0 then 1 else 0)) (gi M c 0).toNat)) ∧ M' = M) mg_no := by
  refine mg_of2 hl ok_X3_isCut al_X3_isCut rfl (fun K hK => ?_)
  have h' := h
  obtain ⟨g1, g2, g3, g4, g5, g6, g7, g8, g9⟩ := h
  refine hK _ _ _ _ _ ?_
  (repeat' (first | rfl | ((conv => whnf); first | exact And.intro rfl rfl | refine And.intro (by first | assumption | omega | (simp only [g2, g3, g5, Int.toNat_natCast]; first | done | assumption | omega)) ?_ | (refine And.intro (fun _ => ?_) (fun _ => ?_) <;> first | (exfalso; omega) | skip) | exact rfl | intro _ | fail)))
  (conv => whnf)
  have L : ∀ n i : Nat, ∀ j : Int, gi M c 0 = i + n → j = i → mh_or (fun i => (if mh_bi (mh_me M (gr M (c + 1) i) b) = 0 then (0 : Int) else if mh_bi (mh_in M (gr M (c + 1) i) b) = 0 then 1 else 0)) i = 0 → K 2 [(0, .inr (.inl c)), (1, .inr (.inl b)), (2, Sum.inl j)] [] M 0 := by
    intro n
    induction n with
    | zero =>
      intro i j hn hj hk
      refine hK _ _ _ _ _ ?_
      (repeat' (first | rfl | ((conv => whnf); first | exact And.intro rfl rfl | refine And.intro (by first | assumption | omega | (simp only [g2, g3, g5, Int.toNat_natCast]; first | done | assumption | omega)) ?_ | (refine And.intro (fun _ => ?_) (fun _ => ?_) <;> first | (exfalso; omega) | skip) | exact rfl | intro _ | fail)))
      refine And.intro ?_ rfl
      rw [show (gi M c 0).toNat = i from by omega, hk]
    | succ n ih =>
      intro i j hn hj hk
      have e : mh_or (fun i => (if mh_bi (mh_me M (gr M (c + 1) i) b) = 0 then (0 : Int) else if mh_bi (mh_in M (gr M (c + 1) i) b) = 0 then 1 else 0)) (i + 1) = if mh_or (fun i => (if mh_bi (mh_me M (gr M (c + 1) i) b) = 0 then (0 : Int) else if mh_bi (mh_in M (gr M (c + 1) i) b) = 0 then 1 else 0)) i = 0 then (if mh_bi (mh_me M (gr M (c + 1) i) b) = 0 then (0 : Int) else if mh_bi (mh_in M (gr M (c + 1) i) b) = 0 then 1 else 0) else 1 := rfl
      rw [if_pos hk] at e
      have stay : mh_or (fun i => (if mh_bi (mh_me M (gr M (c + 1) i) b) = 0 then (0 : Int) else if mh_bi (mh_in M (gr M (c + 1) i) b) = 0 then 1 else 0)) (i + 1) = 1 → mh_or (fun i => (if mh_bi (mh_me M (gr M (c + 1) i) b) = 0 then (0 : Int) else if mh_bi (mh_in M (gr M (c + 1) i) b) = 0 then 1 else 0)) (gi M c 0).toNat = 1 := mh_or_stay (by omega)
      subst hj
      have hm := hs i (by omega)
      have hk3 := hm.1
      have hm2 := hm.2
      skip
      refine hK _ _ _ _ _ ?_
      (repeat' (first | rfl | ((conv => whnf); first | exact And.intro rfl rfl | refine And.intro (by first | assumption | omega | (simp only [g2, g3, g5, Int.toNat_natCast]; first | done | assumption | omega)) ?_ | (refine And.intro (fun _ => ?_) (fun _ => ?_) <;> first | (exfalso; omega) | skip) | exact rfl | intro _ | fail)))
      all_goals (try ((conv => whnf); (refine Exists.intro _ (Exists.intro _ (And.intro (cX3_get hl h' (by omega)) (And.intro ?_ (fun _ _ h => h.elim)))); rintro _ _ ⟨rfl, e⟩; have e2 := e.symm; clear e; subst e2); (repeat' (first | rfl | ((conv => whnf); first | exact And.intro rfl rfl | refine And.intro (by first | assumption | omega | (simp only [g2, g3, g5, Int.toNat_natCast]; first | done | assumption | omega)) ?_ | (refine And.intro (fun _ => ?_) (fun _ => ?_) <;> first | (exfalso; omega) | skip) | exact rfl | intro _ | fail)))))
      all_goals (try ((conv => whnf); (refine Exists.intro _ (Exists.intro _ (And.intro (cX2_meet hl hm hb) (And.intro ?_ (fun _ _ h => h.elim)))); rintro _ _ ⟨rfl, e⟩; have e2 := e.symm; clear e; subst e2); (repeat' (first | rfl | ((conv => whnf); first | exact And.intro rfl rfl | refine And.intro (by first | assumption | omega | (simp only [g2, g3, g5, Int.toNat_natCast]; first | done | assumption | omega)) ?_ | (refine And.intro (fun _ => ?_) (fun _ => ?_) <;> first | (exfalso; omega) | skip) | exact rfl | intro _ | fail)))))
      all_goals (try ((conv => whnf); (refine Exists.intro _ (Exists.intro _ (And.intro (cX3_get hl h' (by omega)) (And.intro ?_ (fun _ _ h => h.elim)))); rintro _ _ ⟨rfl, e⟩; have e2 := e.symm; clear e; subst e2); (repeat' (first | rfl | ((conv => whnf); first | exact And.intro rfl rfl | refine And.intro (by first | assumption | omega | (simp only [g2, g3, g5, Int.toNat_natCast]; first | done | assumption | omega)) ?_ | (refine And.intro (fun _ => ?_) (fun _ => ?_) <;> first | (exfalso; omega) | skip) | exact rfl | intro _ | fail)))))
      all_goals (try ((conv => whnf); (refine Exists.intro _ (Exists.intro _ (And.intro (cX2_within hl hm hb) (And.intro ?_ (fun _ _ h => h.elim)))); rintro _ _ ⟨rfl, e⟩; have e2 := e.symm; clear e; subst e2); (repeat' (first | rfl | ((conv => whnf); first | exact And.intro rfl rfl | refine And.intro (by first | assumption | omega | (simp only [g2, g3, g5, Int.toNat_natCast]; first | done | assumption | omega)) ?_ | (refine And.intro (fun _ => ?_) (fun _ => ?_) <;> first | (exfalso; omega) | skip) | exact rfl | intro _ | fail)))))
      all_goals ((conv => whnf); simp only [Int.toNat_natCast] at *)
      all_goals (first
        | (refine ih (i + 1) _ (by omega) (by omega) ?_; rw [e]; (repeat' split) <;> omega)
        | (refine And.intro ?_ (by first | rfl | trivial); rw [stay (by rw [e]; (repeat' split) <;> omega)]))
  exact L (gi M c 0).toNat 0 0 (by omega) rfl rfl
theorem cX3_isAcross {D : mg_D} {l : Launch} (hl : l.stackTraces = false) {M : mg_M} {c : Nat} {r : Int} (h : mg_cL M c) (hs : mg_cS M c) : mg_Mt D l 31 [.inr (.inl c), .inl r] M (fun v M' => v = some (.inl (mh_or (fun i => (if mh_bi (mh_ac M (gr M (c + 1) i) r) = 0 then (0 : Int) else 1)) (gi M c 0).toNat)) ∧ M' = M) mg_no := by
  refine mg_of2 hl ok_X3_isAcross al_X3_isAcross rfl (fun K hK => ?_)
  have h' := h
  obtain ⟨g1, g2, g3, g4, g5, g6, g7, g8, g9⟩ := h
  refine hK _ _ _ _ _ ?_
  (repeat' (first | rfl | ((conv => whnf); first | exact And.intro rfl rfl | refine And.intro (by first | assumption | omega | (simp only [g2, g3, g5, Int.toNat_natCast]; first | done | assumption | omega)) ?_ | (refine And.intro (fun _ => ?_) (fun _ => ?_) <;> first | (exfalso; omega) | skip) | exact rfl | intro _ | fail)))
  (conv => whnf)
  have L : ∀ n i : Nat, ∀ j : Int, gi M c 0 = i + n → j = i → mh_or (fun i => (if mh_bi (mh_ac M (gr M (c + 1) i) r) = 0 then (0 : Int) else 1)) i = 0 → K 2 [(0, .inr (.inl c)), (1, .inl r), (2, Sum.inl j)] [] M 0 := by
    intro n
    induction n with
    | zero =>
      intro i j hn hj hk
      refine hK _ _ _ _ _ ?_
      (repeat' (first | rfl | ((conv => whnf); first | exact And.intro rfl rfl | refine And.intro (by first | assumption | omega | (simp only [g2, g3, g5, Int.toNat_natCast]; first | done | assumption | omega)) ?_ | (refine And.intro (fun _ => ?_) (fun _ => ?_) <;> first | (exfalso; omega) | skip) | exact rfl | intro _ | fail)))
      refine And.intro ?_ rfl
      rw [show (gi M c 0).toNat = i from by omega, hk]
    | succ n ih =>
      intro i j hn hj hk
      have e : mh_or (fun i => (if mh_bi (mh_ac M (gr M (c + 1) i) r) = 0 then (0 : Int) else 1)) (i + 1) = if mh_or (fun i => (if mh_bi (mh_ac M (gr M (c + 1) i) r) = 0 then (0 : Int) else 1)) i = 0 then (if mh_bi (mh_ac M (gr M (c + 1) i) r) = 0 then (0 : Int) else 1) else 1 := rfl
      rw [if_pos hk] at e
      have stay : mh_or (fun i => (if mh_bi (mh_ac M (gr M (c + 1) i) r) = 0 then (0 : Int) else 1)) (i + 1) = 1 → mh_or (fun i => (if mh_bi (mh_ac M (gr M (c + 1) i) r) = 0 then (0 : Int) else 1)) (gi M c 0).toNat = 1 := mh_or_stay (by omega)
      subst hj
      have hm := hs i (by omega)
      have hk3 := hm.1
      have hm2 := hm.2
      skip
      refine hK _ _ _ _ _ ?_
      (repeat' (first | rfl | ((conv => whnf); first | exact And.intro rfl rfl | refine And.intro (by first | assumption | omega | (simp only [g2, g3, g5, Int.toNat_natCast]; first | done | assumption | omega)) ?_ | (refine And.intro (fun _ => ?_) (fun _ => ?_) <;> first | (exfalso; omega) | skip) | exact rfl | intro _ | fail)))
      all_goals (try ((conv => whnf); (refine Exists.intro _ (Exists.intro _ (And.intro (cX3_get hl h' (by omega)) (And.intro ?_ (fun _ _ h => h.elim)))); rintro _ _ ⟨rfl, e⟩; have e2 := e.symm; clear e; subst e2); (repeat' (first | rfl | ((conv => whnf); first | exact And.intro rfl rfl | refine And.intro (by first | assumption | omega | (simp only [g2, g3, g5, Int.toNat_natCast]; first | done | assumption | omega)) ?_ | (refine And.intro (fun _ => ?_) (fun _ => ?_) <;> first | (exfalso; omega) | skip) | exact rfl | intro _ | fail)))))
      all_goals (try ((conv => whnf); (refine Exists.intro _ (Exists.intro _ (And.intro (cX2_across hl hm) (And.intro ?_ (fun _ _ h => h.elim)))); rintro _ _ ⟨rfl, e⟩; have e2 := e.symm; clear e; subst e2); (repeat' (first | rfl | ((conv => whnf); first | exact And.intro rfl rfl | refine And.intro (by first | assumption | omega | (simp only [g2, g3, g5, Int.toNat_natCast]; first | done | assumption | omega)) ?_ | (refine And.intro (fun _ => ?_) (fun _ => ?_) <;> first | (exfalso; omega) | skip) | exact rfl | intro _ | fail)))))
      all_goals ((conv => whnf); simp only [Int.toNat_natCast] at *)
      all_goals (first
        | (refine ih (i + 1) _ (by omega) (by omega) ?_; rw [e]; (repeat' split) <;> omega)
        | (refine And.intro ?_ (by first | rfl | trivial); rw [stay (by rw [e]; (repeat' split) <;> omega)]))
  exact L (gi M c 0).toNat 0 0 (by omega) rfl rfl
theorem cX3_hasTall {D : mg_D} {l : Launch} (hl : l.stackTraces = false) {M : mg_M} {c : Nat} {r s : Int} (h : mg_cL M c) (hs : mg_cS M c) : mg_Mt D l 32 [.inr (.inl c), .inl r, .inl s] M (fun v M' => v = some (.inl (mh_or (fun i => (if gi M (gr M (c + 1) i) 2 ≤ 1 then (0 : Int) else if s < gi M (gr M (c + 1) i) 0 then (0 : Int) else if gi M (gr M (c + 1) i) 0 + gi M (gr M (c + 1) i) 2 - 1 < r then (0 : Int) else 1)) (gi M c 0).toNat)) ∧ M' = M) mg_no := by
  refine mg_of2 hl ok_X3_hasTall al_X3_hasTall rfl (fun K hK => ?_)
  have h' := h
  obtain ⟨g1, g2, g3, g4, g5, g6, g7, g8, g9⟩ := h
  refine hK _ _ _ _ _ ?_
  (repeat' (first | rfl | ((conv => whnf); first | exact And.intro rfl rfl | refine And.intro (by first | assumption | omega | (simp only [g2, g3, g5, Int.toNat_natCast]; first | done | assumption | omega)) ?_ | (refine And.intro (fun _ => ?_) (fun _ => ?_) <;> first | (exfalso; omega) | skip) | exact rfl | intro _ | fail)))
  (conv => whnf)
  have L : ∀ n i : Nat, ∀ j : Int, gi M c 0 = i + n → j = i → mh_or (fun i => (if gi M (gr M (c + 1) i) 2 ≤ 1 then (0 : Int) else if s < gi M (gr M (c + 1) i) 0 then (0 : Int) else if gi M (gr M (c + 1) i) 0 + gi M (gr M (c + 1) i) 2 - 1 < r then (0 : Int) else 1)) i = 0 → K 2 [(0, .inr (.inl c)), (1, .inl r), (2, .inl s), (3, Sum.inl j)] [] M 0 := by
    intro n
    induction n with
    | zero =>
      intro i j hn hj hk
      refine hK _ _ _ _ _ ?_
      (repeat' (first | rfl | ((conv => whnf); first | exact And.intro rfl rfl | refine And.intro (by first | assumption | omega | (simp only [g2, g3, g5, Int.toNat_natCast]; first | done | assumption | omega)) ?_ | (refine And.intro (fun _ => ?_) (fun _ => ?_) <;> first | (exfalso; omega) | skip) | exact rfl | intro _ | fail)))
      refine And.intro ?_ rfl
      rw [show (gi M c 0).toNat = i from by omega, hk]
    | succ n ih =>
      intro i j hn hj hk
      have e : mh_or (fun i => (if gi M (gr M (c + 1) i) 2 ≤ 1 then (0 : Int) else if s < gi M (gr M (c + 1) i) 0 then (0 : Int) else if gi M (gr M (c + 1) i) 0 + gi M (gr M (c + 1) i) 2 - 1 < r then (0 : Int) else 1)) (i + 1) = if mh_or (fun i => (if gi M (gr M (c + 1) i) 2 ≤ 1 then (0 : Int) else if s < gi M (gr M (c + 1) i) 0 then (0 : Int) else if gi M (gr M (c + 1) i) 0 + gi M (gr M (c + 1) i) 2 - 1 < r then (0 : Int) else 1)) i = 0 then (if gi M (gr M (c + 1) i) 2 ≤ 1 then (0 : Int) else if s < gi M (gr M (c + 1) i) 0 then (0 : Int) else if gi M (gr M (c + 1) i) 0 + gi M (gr M (c + 1) i) 2 - 1 < r then (0 : Int) else 1) else 1 := rfl
      rw [if_pos hk] at e
      have stay : mh_or (fun i => (if gi M (gr M (c + 1) i) 2 ≤ 1 then (0 : Int) else if s < gi M (gr M (c + 1) i) 0 then (0 : Int) else if gi M (gr M (c + 1) i) 0 + gi M (gr M (c + 1) i) 2 - 1 < r then (0 : Int) else 1)) (i + 1) = 1 → mh_or (fun i => (if gi M (gr M (c + 1) i) 2 ≤ 1 then (0 : Int) else if s < gi M (gr M (c + 1) i) 0 then (0 : Int) else if gi M (gr M (c + 1) i) 0 + gi M (gr M (c + 1) i) 2 - 1 < r then (0 : Int) else 1)) (gi M c 0).toNat = 1 := mh_or_stay (by omega)
      subst hj
      have hm := hs i (by omega)
      have hk3 := hm.1
      have hm2 := hm.2
      skip
      refine hK _ _ _ _ _ ?_
      (repeat' (first | rfl | ((conv => whnf); first | exact And.intro rfl rfl | refine And.intro (by first | assumption | omega | (simp only [g2, g3, g5, Int.toNat_natCast]; first | done | assumption | omega)) ?_ | (refine And.intro (fun _ => ?_) (fun _ => ?_) <;> first | (exfalso; omega) | skip) | exact rfl | intro _ | fail)))
      all_goals (try ((conv => whnf); (refine Exists.intro _ (Exists.intro _ (And.intro (cX3_get hl h' (by omega)) (And.intro ?_ (fun _ _ h => h.elim)))); rintro _ _ ⟨rfl, e⟩; have e2 := e.symm; clear e; subst e2); (repeat' (first | rfl | ((conv => whnf); first | exact And.intro rfl rfl | refine And.intro (by first | assumption | omega | (simp only [g2, g3, g5, Int.toNat_natCast]; first | done | assumption | omega)) ?_ | (refine And.intro (fun _ => ?_) (fun _ => ?_) <;> first | (exfalso; omega) | skip) | exact rfl | intro _ | fail)))))
      all_goals (try ((conv => whnf); (refine Exists.intro _ (Exists.intro _ (And.intro (cX2_bottom hl hm) (And.intro ?_ (fun _ _ h => h.elim)))); rintro _ _ ⟨rfl, e⟩; have e2 := e.symm; clear e; subst e2); (repeat' (first | rfl | ((conv => whnf); first | exact And.intro rfl rfl | refine And.intro (by first | assumption | omega | (simp only [g2, g3, g5, Int.toNat_natCast]; first | done | assumption | omega)) ?_ | (refine And.intro (fun _ => ?_) (fun _ => ?_) <;> first | (exfalso; omega) | skip) | exact rfl | intro _ | fail)))))
      all_goals ((conv => whnf); simp only [Int.toNat_natCast] at *)
      all_goals (first
        | (refine ih (i + 1) _ (by omega) (by omega) ?_; rw [e]; (repeat' split) <;> omega)
        | (refine And.intro ?_ (by first | rfl | trivial); rw [stay (by rw [e]; (repeat' split) <;> omega)]))
  exact L (gi M c 0).toNat 0 0 (by omega) rfl rfl
