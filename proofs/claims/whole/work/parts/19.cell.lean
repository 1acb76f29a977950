theorem cX2_lie {D : mg_D} {l : Launch} (hl : l.stackTraces = false) {M : mg_M} {a : Nat} {r c d e : Int} (ha : kd M a = 3) : mg_Mt D l 2 [.inr (.inl a), .inl r, .inl c, .inl d, .inl e] M (fun v M' => v = none ∧ M' = si (si (si (si M a 0 r) a 1 c) a 2 d) a 3 e) mg_no := by
  refine mg_of2 hl ok_X2_lie al_X2_lie rfl (fun K hK => ?_)
  refine hK _ _ _ _ _ ?_
  (repeat' ((conv => whnf); first | exact And.intro rfl rfl | refine And.intro (by first | assumption | omega) ?_ | refine And.intro (fun _ => ?_) (fun _ => ?_) | fail))
theorem cX2_fill {D : mg_D} {l : Launch} (hl : l.stackTraces = false) {M : mg_M} {a : Nat} {r c : Int} (ha : kd M a = 3) : mg_Mt D l 3 [.inr (.inl a), .inl r, .inl c] M (fun v M' => v = none ∧ M' = si (si M a 4 r) a 5 c) mg_no := by
  refine mg_of2 hl ok_X2_fill al_X2_fill rfl (fun K hK => ?_)
  refine hK _ _ _ _ _ ?_
  (repeat' ((conv => whnf); first | exact And.intro rfl rfl | refine And.intro (by first | assumption | omega) ?_ | refine And.intro (fun _ => ?_) (fun _ => ?_) | fail))
def mg_put6 (M : mg_M) (a : Nat) (t c h w x y : Int) : mg_M := si (si (si (si (si (si M a 0 t) a 1 c) a 2 h) a 3 w) a 4 x) a 5 y
theorem cX2_become {D : mg_D} {l : Launch} (hl : l.stackTraces = false) {M : mg_M} {a b : Nat} (ha : kd M a = 3) (hb : kd M b = 3) (hab : a ≠ b) : mg_Mt D l 4 [.inr (.inl a), .inr (.inl b)] M (fun v M' => v = none ∧ M' = mg_put6 M a (gi M b 0) (gi M b 1) (gi M b 2) (gi M b 3) (gi M b 4) (gi M b 5)) mg_no := by
  refine mg_of2 hl ok_X2_become al_X2_become rfl (fun K hK => ?_)
  refine hK _ _ _ _ _ ?_
  (repeat' ((conv => whnf); first | exact And.intro rfl rfl | refine And.intro (by first | assumption | omega) ?_ | refine And.intro (fun _ => ?_) (fun _ => ?_) | fail))
  all_goals (try ((conv => whnf); (refine Exists.intro _ (Exists.intro _ (And.intro (cX2_lie hl ha) (And.intro ?_ (fun _ _ h => h.elim)))); rintro _ _ ⟨rfl, rfl⟩); (repeat' ((conv => whnf); first | exact And.intro rfl rfl | refine And.intro (by first | assumption | omega) ?_ | refine And.intro (fun _ => ?_) (fun _ => ?_) | fail))))
  all_goals (try ((conv => whnf); (refine Exists.intro _ (Exists.intro _ (And.intro (cX2_fill hl ha) (And.intro ?_ (fun _ _ h => h.elim)))); rintro _ _ ⟨rfl, rfl⟩); (repeat' ((conv => whnf); first | exact And.intro rfl rfl | refine And.intro (by first | assumption | omega) ?_ | refine And.intro (fun _ => ?_) (fun _ => ?_) | fail))))
  all_goals (simp only [gi_si, hab.symm, false_and, if_false, mg_put6]; exact And.intro rfl rfl)
def mg_sm (M : mg_M) (a : Nat) : Prop := kd M a = 3 ∧ (-1000 ≤ gi M a 0 ∧ gi M a 0 ≤ 1000 ∧ -1000 ≤ gi M a 2 ∧ gi M a 2 ≤ 1000) ∧ (-1000 ≤ gi M a 1 ∧ gi M a 1 ≤ 1000 ∧ -1000 ≤ gi M a 3 ∧ gi M a 3 ≤ 1000)
theorem cX2_bottom {D : mg_D} {l : Launch} (hl : l.stackTraces = false) {M : mg_M} {a : Nat} (h : mg_sm M a) : mg_Mt D l 5 [.inr (.inl a)] M (fun v M' => v = some (.inl (gi M a 0 + gi M a 2 - 1)) ∧ M' = M) mg_no := by
  refine mg_of2 hl ok_X2_bottom al_X2_bottom rfl (fun K hK => ?_)
  obtain ⟨h1, h2, h3⟩ := h
  refine hK _ _ _ _ _ ?_
  (repeat' ((conv => whnf); first | exact And.intro rfl rfl | refine And.intro (by first | assumption | omega) ?_ | refine And.intro (fun _ => ?_) (fun _ => ?_) | fail))
theorem cX2_right {D : mg_D} {l : Launch} (hl : l.stackTraces = false) {M : mg_M} {a : Nat} (h : mg_sm M a) : mg_Mt D l 6 [.inr (.inl a)] M (fun v M' => v = some (.inl (gi M a 1 + gi M a 3 - 1)) ∧ M' = M) mg_no := by
  refine mg_of2 hl ok_X2_right al_X2_right rfl (fun K hK => ?_)
  obtain ⟨h1, h2, h3⟩ := h
  refine hK _ _ _ _ _ ?_
  (repeat' ((conv => whnf); first | exact And.intro rfl rfl | refine And.intro (by first | assumption | omega) ?_ | refine And.intro (fun _ => ?_) (fun _ => ?_) | fail))
theorem cX2_isAcross {D : mg_D} {l : Launch} (hl : l.stackTraces = false) {M : mg_M} {a : Nat} {r : Int} (h : mg_sm M a) : mg_Mt D l 9 [.inr (.inl a), .inl r] M (fun v M' => v = some (.inl (if gi M a 0 < r ∧ r ≤ gi M a 0 + gi M a 2 - 1 then 1 else 0)) ∧ M' = M) mg_no := by
  refine mg_of2 hl ok_X2_isAcross al_X2_isAcross rfl (fun K hK => ?_)
  have h' := h
  obtain ⟨h1, h2, h3⟩ := h
  refine hK _ _ _ _ _ ?_
  (repeat' ((conv => whnf); first | exact And.intro rfl rfl | refine And.intro (by first | assumption | omega) ?_ | refine And.intro (fun _ => ?_) (fun _ => ?_) | fail))
  all_goals (try ((conv => whnf); (refine Exists.intro _ (Exists.intro _ (And.intro (cX2_bottom hl h') (And.intro ?_ (fun _ _ h => h.elim)))); rintro _ _ ⟨rfl, rfl⟩); (repeat' ((conv => whnf); first | exact And.intro rfl rfl | refine And.intro (by first | assumption | omega) ?_ | refine And.intro (fun _ => ?_) (fun _ => ?_) | fail))))
  all_goals (refine And.intro ?_ ?_ <;> first | rfl | ((repeat' split) <;> first | rfl | omega))
theorem cX2_makeRoomForRow {D : mg_D} {l : Launch} (hl : l.stackTraces = false) {M : mg_M} {a : Nat} {r : Int} (h : mg_sm M a) : mg_Mt D l 10 [.inr (.inl a), .inl r] M (fun v M' => v = none ∧ M' = if r ≤ gi M a 0 then si M a 0 (gi M a 0 + 1) else if r ≤ gi M a 0 + gi M a 2 - 1 then si M a 2 (gi M a 2 + 1) else M) mg_no := by
  refine mg_of2 hl ok_X2_makeRoomForRow al_X2_makeRoomForRow rfl (fun K hK => ?_)
  have h' := h
  obtain ⟨h1, h2, h3⟩ := h
  refine hK _ _ _ _ _ ?_
  (repeat' ((conv => whnf); first | exact And.intro rfl rfl | refine And.intro (by first | assumption | omega) ?_ | refine And.intro (fun _ => ?_) (fun _ => ?_) | fail))
  all_goals (try ((conv => whnf); (refine Exists.intro _ (Exists.intro _ (And.intro (cX2_bottom hl h') (And.intro ?_ (fun _ _ h => h.elim)))); rintro _ _ ⟨rfl, rfl⟩); (repeat' ((conv => whnf); first | exact And.intro rfl rfl | refine And.intro (by first | assumption | omega) ?_ | refine And.intro (fun _ => ?_) (fun _ => ?_) | fail))))
  all_goals (refine And.intro ?_ ?_ <;> first | rfl | ((repeat' split) <;> first | rfl | omega))
theorem cX2_makeRoomForColumn {D : mg_D} {l : Launch} (hl : l.stackTraces = false) {M : mg_M} {a : Nat} {r : Int} (h : mg_sm M a) : mg_Mt D l 11 [.inr (.inl a), .inl r] M (fun v M' => v = none ∧ M' = if r ≤ gi M a 1 then si M a 1 (gi M a 1 + 1) else if r ≤ gi M a 1 + gi M a 3 - 1 then si M a 3 (gi M a 3 + 1) else M) mg_no := by
  refine mg_of2 hl ok_X2_makeRoomForColumn al_X2_makeRoomForColumn rfl (fun K hK => ?_)
  have h' := h
  obtain ⟨h1, h2, h3⟩ := h
  refine hK _ _ _ _ _ ?_
  (repeat' ((conv => whnf); first | exact And.intro rfl rfl | refine And.intro (by first | assumption | omega) ?_ | refine And.intro (fun _ => ?_) (fun _ => ?_) | fail))
  all_goals (try ((conv => whnf); (refine Exists.intro _ (Exists.intro _ (And.intro (cX2_right hl h') (And.intro ?_ (fun _ _ h => h.elim)))); rintro _ _ ⟨rfl, rfl⟩); (repeat' ((conv => whnf); first | exact And.intro rfl rfl | refine And.intro (by first | assumption | omega) ?_ | refine And.intro (fun _ => ?_) (fun _ => ?_) | fail))))
  all_goals (refine And.intro ?_ ?_ <;> first | rfl | ((repeat' split) <;> first | rfl | omega))
theorem cX2_loseRow {D : mg_D} {l : Launch} (hl : l.stackTraces = false) {M : mg_M} {a : Nat} {r : Int} (h : mg_sm M a) : mg_Mt D l 12 [.inr (.inl a), .inl r] M (fun v M' => v = none ∧ M' = if r < gi M a 0 then si M a 0 (gi M a 0 - 1) else if r ≤ gi M a 0 + gi M a 2 - 1 then si M a 2 (gi M a 2 - 1) else M) mg_no := by
  refine mg_of2 hl ok_X2_loseRow al_X2_loseRow rfl (fun K hK => ?_)
  have h' := h
  obtain ⟨h1, h2, h3⟩ := h
  refine hK _ _ _ _ _ ?_
  (repeat' ((conv => whnf); first | exact And.intro rfl rfl | refine And.intro (by first | assumption | omega) ?_ | refine And.intro (fun _ => ?_) (fun _ => ?_) | fail))
  all_goals (try ((conv => whnf); (refine Exists.intro _ (Exists.intro _ (And.intro (cX2_bottom hl h') (And.intro ?_ (fun _ _ h => h.elim)))); rintro _ _ ⟨rfl, rfl⟩); (repeat' ((conv => whnf); first | exact And.intro rfl rfl | refine And.intro (by first | assumption | omega) ?_ | refine And.intro (fun _ => ?_) (fun _ => ?_) | fail))))
  all_goals (refine And.intro ?_ ?_ <;> first | rfl | ((repeat' split) <;> first | rfl | omega))
theorem cX2_loseColumn {D : mg_D} {l : Launch} (hl : l.stackTraces = false) {M : mg_M} {a : Nat} {r : Int} (h : mg_sm M a) : mg_Mt D l 13 [.inr (.inl a), .inl r] M (fun v M' => v = none ∧ M' = if r < gi M a 1 then si M a 1 (gi M a 1 - 1) else if r ≤ gi M a 1 + gi M a 3 - 1 then si M a 3 (gi M a 3 - 1) else M) mg_no := by
  refine mg_of2 hl ok_X2_loseColumn al_X2_loseColumn rfl (fun K hK => ?_)
  have h' := h
  obtain ⟨h1, h2, h3⟩ := h
  refine hK _ _ _ _ _ ?_
  (repeat' ((conv => whnf); first | exact And.intro rfl rfl | refine And.intro (by first | assumption | omega) ?_ | refine And.intro (fun _ => ?_) (fun _ => ?_) | fail))
  all_goals (try ((conv => whnf); (refine Exists.intro _ (Exists.intro _ (And.intro (cX2_right hl h') (And.intro ?_ (fun _ _ h => h.elim)))); rintro _ _ ⟨rfl, rfl⟩); (repeat' ((conv => whnf); first | exact And.intro rfl rfl | refine And.intro (by first | assumption | omega) ?_ | refine And.intro (fun _ => ?_) (fun _ => ?_) | fail))))
  all_goals (refine And.intro ?_ ?_ <;> first | rfl | ((repeat' split) <;> first | rfl | omega))
theorem cX2_isWithin {D : mg_D} {l : Launch} (hl : l.stackTraces = false) {M : mg_M} {a b : Nat} (h : mg_sm M a) (hb : kd M b = 1) : mg_Mt D l 7 [.inr (.inl a), .inr (.inl b)] M (fun v M' => v = some (.inl (if gi M b 0 ≤ gi M a 0 ∧ gi M a 0 + gi M a 2 - 1 ≤ gi M b 2 ∧ gi M b 1 ≤ gi M a 1 ∧ gi M a 1 + gi M a 3 - 1 ≤ gi M b 3 then 1 else 0)) ∧ M' = M) mg_no := by
  refine mg_of2 hl ok_X2_isWithin al_X2_isWithin rfl (fun K hK => ?_)
  have h' := h
  obtain ⟨h1, h2, h3⟩ := h
  refine hK _ _ _ _ _ ?_
  (repeat' ((conv => whnf); first | exact And.intro rfl rfl | refine And.intro (by first | assumption | omega) ?_ | refine And.intro (fun _ => ?_) (fun _ => ?_) | fail))
  all_goals (try ((conv => whnf); (refine Exists.intro _ (Exists.intro _ (And.intro (cX2_bottom hl h') (And.intro ?_ (fun _ _ h => h.elim)))); rintro _ _ ⟨rfl, rfl⟩); (repeat' ((conv => whnf); first | exact And.intro rfl rfl | refine And.intro (by first | assumption | omega) ?_ | refine And.intro (fun _ => ?_) (fun _ => ?_) | fail))))
  all_goals (try ((conv => whnf); (refine Exists.intro _ (Exists.intro _ (And.intro (cX2_right hl h') (And.intro ?_ (fun _ _ h => h.elim)))); rintro _ _ ⟨rfl, rfl⟩); (repeat' ((conv => whnf); first | exact And.intro rfl rfl | refine And.intro (by first | assumption | omega) ?_ | refine And.intro (fun _ => ?_) (fun _ => ?_) | fail))))
  all_goals (refine And.intro ?_ ?_ <;> first | rfl | ((repeat' split) <;> first | rfl | omega))
theorem cX2_meets {D : mg_D} {l : Launch} (hl : l.stackTraces = false) {M : mg_M} {a b : Nat} (h : mg_sm M a) (hb : kd M b = 1) : mg_Mt D l 8 [.inr (.inl a), .inr (.inl b)] M (fun v M' => v = some (.inl (if gi M a 0 ≤ gi M b 2 ∧ gi M b 0 ≤ gi M a 0 + gi M a 2 - 1 ∧ gi M a 1 ≤ gi M b 3 ∧ gi M b 1 ≤ gi M a 1 + gi M a 3 - 1 then 1 else 0)) ∧ M' = M) mg_no := by
  refine mg_of2 hl ok_X2_meets al_X2_meets rfl (fun K hK => ?_)
  have h' := h
  obtain ⟨h1, h2, h3⟩ := h
  refine hK _ _ _ _ _ ?_
  (repeat' ((conv => whnf); first | exact And.intro rfl rfl | refine And.intro (by first | assumption | omega) ?_ | refine And.intro (fun _ => ?_) (fun _ => ?_) | fail))
  all_goals (try ((conv => whnf); (refine Exists.intro _ (Exists.intro _ (And.intro (cX2_bottom hl h') (And.intro ?_ (fun _ _ h => h.elim)))); rintro _ _ ⟨rfl, rfl⟩); (repeat' ((conv => whnf); first | exact And.intro rfl rfl | refine And.intro (by first | assumption | omega) ?_ | refine And.intro (fun _ => ?_) (fun _ => ?_) | fail))))
  all_goals (try ((conv => whnf); (refine Exists.intro _ (Exists.intro _ (And.intro (cX2_right hl h') (And.intro ?_ (fun _ _ h => h.elim)))); rintro _ _ ⟨rfl, rfl⟩); (repeat' ((conv => whnf); first | exact And.intro rfl rfl | refine And.intro (by first | assumption | omega) ?_ | refine And.intro (fun _ => ?_) (fun _ => ?_) | fail))))
  all_goals (refine And.intro ?_ ?_ <;> first | rfl | ((repeat' split) <;> first | rfl | omega))
