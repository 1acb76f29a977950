def mg_tb (M : mg_M) (t : Nat) : Prop := (kd M t = 5 ∧ gr M t 3 = t + 1 ∧ gr M t 4 = t + 2 ∧ gr M t 5 = t + 3 ∧ gr M t 6 = t + 126 ∧ gr M t 7 = t + 127 ∧ gr M t 8 = t + 128) ∧ ((kd M (t + 1) = 8 ∧ ln M (t + 1) = 12) ∧ (kd M (t + 2) = 8 ∧ ln M (t + 2) = 10) ∧ (kd M (t + 126) = 8 ∧ ln M (t + 126) = 120) ∧ (kd M (t + 127) = 8 ∧ ln M (t + 127) = 12) ∧ (kd M (t + 128) = 8 ∧ ln M (t + 128) = 12)) ∧ (0 ≤ gi M t 0 ∧ gi M t 0 ≤ 12 ∧ 0 ≤ gi M t 1 ∧ gi M t 1 ≤ 10 ∧ 0 ≤ gi M t 2 ∧ gi M t 2 ≤ 12)
theorem cX4_hasRow {D : mg_D} {l : Launch} (hl : l.stackTraces = false) {M : mg_M} {t : Nat} {r : Int} (h : kd M t = 5) : mg_Mt D l 39 [.inr (.inl t), .inl r] M (fun v M' => v = some (.inl (if 0 ≤ r ∧ r < gi M t 0 then 1 else 0)) ∧ M' = M) mg_no := by
  refine mg_of2 hl ok_X4_hasRow al_X4_hasRow rfl (fun K hK => ?_)
  refine hK _ _ _ _ _ ?_
  (repeat' (first | rfl | ((conv => whnf); first | exact And.intro rfl rfl | refine And.intro (by first | assumption | omega) ?_ | (refine And.intro (fun _ => ?_) (fun _ => ?_) <;> first | (exfalso; omega) | skip) | exact rfl | intro _ | fail)))
  all_goals (refine And.intro ?_ rfl; (repeat' split) <;> first | rfl | omega)
theorem cX4_hasColumn {D : mg_D} {l : Launch} (hl : l.stackTraces = false) {M : mg_M} {t : Nat} {r : Int} (h : kd M t = 5) : mg_Mt D l 40 [.inr (.inl t), .inl r] M (fun v M' => v = some (.inl (if 0 ≤ r ∧ r < gi M t 1 then 1 else 0)) ∧ M' = M) mg_no := by
  refine mg_of2 hl ok_X4_hasColumn al_X4_hasColumn rfl (fun K hK => ?_)
  refine hK _ _ _ _ _ ?_
  (repeat' (first | rfl | ((conv => whnf); first | exact And.intro rfl rfl | refine And.intro (by first | assumption | omega) ?_ | (refine And.intro (fun _ => ?_) (fun _ => ?_) <;> first | (exfalso; omega) | skip) | exact rfl | intro _ | fail)))
  all_goals (refine And.intro ?_ rfl; (repeat' split) <;> first | rfl | omega)
theorem cX4_isInHeader {D : mg_D} {l : Launch} (hl : l.stackTraces = false) {M : mg_M} {t : Nat} {r : Int} (h : kd M t = 5) : mg_Mt D l 41 [.inr (.inl t), .inl r] M (fun v M' => v = some (.inl (if r < gi M t 2 then 1 else 0)) ∧ M' = M) mg_no := by
  refine mg_of2 hl ok_X4_isInHeader al_X4_isInHeader rfl (fun K hK => ?_)
  refine hK _ _ _ _ _ ?_
  (repeat' (first | rfl | ((conv => whnf); first | exact And.intro rfl rfl | refine And.intro (by first | assumption | omega) ?_ | (refine And.intro (fun _ => ?_) (fun _ => ?_) <;> first | (exfalso; omega) | skip) | exact rfl | intro _ | fail)))
  all_goals (refine And.intro ?_ rfl; (repeat' split) <;> first | rfl | omega)
def mh_ow (M : mg_M) (t : Nat) (r c : Int) : Int := if 0 ≤ r ∧ r < gi M t 0 ∧ 0 ≤ c ∧ c < gi M t 1 then gi M (t + 126) (r * 10 + c).toNat else -1
theorem cX4_ownerOf {D : mg_D} {l : Launch} (hl : l.stackTraces = false) {M : mg_M} {t : Nat} {r c : Int} (h : mg_tb M t) : mg_Mt D l 43 [.inr (.inl t), .inl r, .inl c] M (fun v M' => v = some (.inl (mh_ow M t r c)) ∧ M' = M) mg_no := by
  refine mg_of2 hl ok_X4_ownerOf al_X4_ownerOf rfl (fun K hK => ?_)
  obtain ⟨⟨g1, g2, g3, g4, g5, g6, g7⟩, ⟨⟨b1, b2⟩, ⟨b3, b4⟩, ⟨b5, b6⟩, ⟨b7, b8⟩, b9, b10⟩, d1⟩ := h
  refine hK _ _ _ _ _ ?_
  (repeat' (((conv => whnf); first | refine And.intro (by first | assumption | omega | (simp only [g5, b5, b6, true_and]; first | done | assumption | omega)) ?_ | (refine And.intro (fun _ => ?_) (fun _ => ?_) <;> first | (exfalso; omega) | skip) | intro _ | fail)))
  all_goals (try ((conv => whnf); (refine Exists.intro _ (Exists.intro _ (And.intro (cX4_hasRow hl g1) (And.intro ?_ (fun _ _ h => h.elim)))); rintro _ _ ⟨rfl, e⟩; have e2 := e.symm; clear e; subst e2); (repeat' (((conv => whnf); first | refine And.intro (by first | assumption | omega | (simp only [g5, b5, b6, true_and]; first | done | assumption | omega)) ?_ | (refine And.intro (fun _ => ?_) (fun _ => ?_) <;> first | (exfalso; omega) | skip) | intro _ | fail)))))
  all_goals (try ((conv => whnf); (refine Exists.intro _ (Exists.intro _ (And.intro (cX4_hasColumn hl g1) (And.intro ?_ (fun _ _ h => h.elim)))); rintro _ _ ⟨rfl, e⟩; have e2 := e.symm; clear e; subst e2); (repeat' (((conv => whnf); first | refine And.intro (by first | assumption | omega | (simp only [g5, b5, b6, true_and]; first | done | assumption | omega)) ?_ | (refine And.intro (fun _ => ?_) (fun _ => ?_) <;> first | (exfalso; omega) | skip) | intro _ | fail)))))
  · (conv => whnf); refine And.intro ?_ rfl; unfold mh_ow; (repeat' split) <;> first | rfl | omega
  · (conv => whnf); refine And.intro ?_ rfl; unfold mh_ow; (repeat' split) <;> first | rfl | omega
  · (conv => whnf); unfold mh_ow; simp only [g5, b5, b6, true_and]; refine And.intro ?_ (by first | rfl | trivial); (repeat' split) <;> first | rfl | omega
def mh_so (M : mg_M) (t : Nat) (r c x : Int) : mg_M := if 0 ≤ r ∧ r < gi M t 0 ∧ 0 ≤ c ∧ c < gi M t 1 then si M (t + 126) (r * 10 + c).toNat x else M
theorem cX4_setOwner {D : mg_D} {l : Launch} (hl : l.stackTraces = false) {M : mg_M} {t : Nat} {r c x : Int} (h : mg_tb M t) : mg_Mt D l 44 [.inr (.inl t), .inl r, .inl c, .inl x] M (fun v M' => v = none ∧ M' = mh_so M t r c x) mg_no := by
  refine mg_of2 hl ok_X4_setOwner al_X4_setOwner rfl (fun K hK => ?_)
  obtain ⟨⟨g1, g2, g3, g4, g5, g6, g7⟩, ⟨⟨b1, b2⟩, ⟨b3, b4⟩, ⟨b5, b6⟩, ⟨b7, b8⟩, b9, b10⟩, d1⟩ := h
  refine hK _ _ _ _ _ ?_
  (repeat' (((conv => whnf); first | refine And.intro (by first | assumption | omega | (simp only [g5, b5, b6, true_and]; first | done | assumption | omega)) ?_ | (refine And.intro (fun _ => ?_) (fun _ => ?_) <;> first | (exfalso; omega) | skip) | intro _ | fail)))
  all_goals (try ((conv => whnf); (refine Exists.intro _ (Exists.intro _ (And.intro (cX4_hasRow hl g1) (And.intro ?_ (fun _ _ h => h.elim)))); rintro _ _ ⟨rfl, e⟩; have e2 := e.symm; clear e; subst e2); (repeat' (((conv => whnf); first | refine And.intro (by first | assumption | omega | (simp only [g5, b5, b6, true_and]; first | done | assumption | omega)) ?_ | (refine And.intro (fun _ => ?_) (fun _ => ?_) <;> first | (exfalso; omega) | skip) | intro _ | fail)))))
  all_goals (try ((conv => whnf); (refine Exists.intro _ (Exists.intro _ (And.intro (cX4_hasColumn hl g1) (And.intro ?_ (fun _ _ h => h.elim)))); rintro _ _ ⟨rfl, e⟩; have e2 := e.symm; clear e; subst e2); (repeat' (((conv => whnf); first | refine And.intro (by first | assumption | omega | (simp only [g5, b5, b6, true_and]; first | done | assumption | omega)) ?_ | (refine And.intro (fun _ => ?_) (fun _ => ?_) <;> first | (exfalso; omega) | skip) | intro _ | fail)))))
  all_goals ((conv => whnf); (try unfold mh_so); (try simp only [g5, b5, b6, true_and]); (try (refine And.intro ?_ ?_)); all_goals ((repeat' split) <;> first | rfl | trivial | omega))
def mh_pl (M : mg_M) (t : Nat) (r : Int) : Int := if 0 ≤ r ∧ r < gi M t 0 then gi M (t + 127) r.toNat else r
theorem cX4_placeOf {D : mg_D} {l : Launch} (hl : l.stackTraces = false) {M : mg_M} {t : Nat} {r : Int} (h : mg_tb M t) : mg_Mt D l 57 [.inr (.inl t), .inl r] M (fun v M' => v = some (.inl (mh_pl M t r)) ∧ M' = M) mg_no := by
  refine mg_of2 hl ok_X4_placeOf al_X4_placeOf rfl (fun K hK => ?_)
  obtain ⟨⟨g1, g2, g3, g4, g5, g6, g7⟩, ⟨⟨b1, b2⟩, ⟨b3, b4⟩, ⟨b5, b6⟩, ⟨b7, b8⟩, b9, b10⟩, d1⟩ := h
  refine hK _ _ _ _ _ ?_
  (repeat' (((conv => whnf); first | refine And.intro (by first | assumption | omega | (simp only [g6, b7, b8, true_and]; first | done | assumption | omega)) ?_ | (refine And.intro (fun _ => ?_) (fun _ => ?_) <;> first | (exfalso; omega) | skip) | intro _ | fail)))
  all_goals (try ((conv => whnf); (refine Exists.intro _ (Exists.intro _ (And.intro (cX4_hasRow hl g1) (And.intro ?_ (fun _ _ h => h.elim)))); rintro _ _ ⟨rfl, e⟩; have e2 := e.symm; clear e; subst e2); (repeat' (((conv => whnf); first | refine And.intro (by first | assumption | omega | (simp only [g6, b7, b8, true_and]; first | done | assumption | omega)) ?_ | (refine And.intro (fun _ => ?_) (fun _ => ?_) <;> first | (exfalso; omega) | skip) | intro _ | fail)))))
  all_goals ((conv => whnf); (try unfold mh_pl); (try simp only [g6, b7, b8, true_and]); (try (refine And.intro ?_ ?_)); all_goals ((repeat' split) <;> first | rfl | trivial | omega))
theorem cX4_cellOn {D : mg_D} {l : Launch} (hl : l.stackTraces = false) {M : mg_M} {t : Nat} {r c : Int} (h : mg_tb M t) (hc : mg_cL M (t + 3)) (hi : 0 ≤ mh_ow M t r c ∧ mh_ow M t r c < gi M (t + 3) 0) : mg_Mt D l 45 [.inr (.inl t), .inl r, .inl c] M (fun v M' => v = some (.inr (.inl (gr M (t + 3 + 1) (mh_ow M t r c).toNat))) ∧ M' = M) mg_no := by
  refine mg_of2 hl ok_X4_cellOn al_X4_cellOn rfl (fun K hK => ?_)
  have h' := h
  obtain ⟨⟨g1, g2, g3, g4, g5, g6, g7⟩, _, d1⟩ := h
  have k0 := hc.1
  refine hK _ _ _ _ _ ?_
  (repeat' (((conv => whnf); first | refine And.intro (by first | assumption | omega | (simp only [g4, true_and]; first | done | assumption | omega)) ?_ | (refine And.intro (fun _ => ?_) (fun _ => ?_) <;> first | (exfalso; omega) | skip) | intro _ | fail)))
  all_goals (try ((conv => whnf); (refine Exists.intro _ (Exists.intro _ (And.intro (cX4_ownerOf hl h') (And.intro ?_ (fun _ _ h => h.elim)))); rintro _ _ ⟨rfl, e⟩; have e2 := e.symm; clear e; subst e2); (repeat' (((conv => whnf); first | refine And.intro (by first | assumption | omega | (simp only [g4, true_and]; first | done | assumption | omega)) ?_ | (refine And.intro (fun _ => ?_) (fun _ => ?_) <;> first | (exfalso; omega) | skip) | intro _ | fail)))))
  all_goals ((conv => whnf); try rw [g4])
  (refine Exists.intro _ (Exists.intro _ (And.intro (cX3_get hl hc hi) (And.intro ?_ (fun _ _ h => h.elim)))); rintro _ _ ⟨rfl, e⟩; have e2 := e.symm; clear e; subst e2)
  (conv => whnf)
  exact And.intro rfl rfl
