/-! the reference: its arrays -/
def mm_ar (M : mg_M) (m k o n : Nat) : Prop := gr M m k = m + o ∧ kd M (m + o) = 8 ∧ ln M (m + o) = n
def mm_st (M : mg_M) (m : Nat) : Prop := kd M m = 7 ∧ (mm_ar M m 5 1 120 ∧ mm_ar M m 6 2 140 ∧ mm_ar M m 7 3 140 ∧ mm_ar M m 8 4 10 ∧ mm_ar M m 9 5 12) ∧ (mm_ar M m 14 6 120 ∧ mm_ar M m 15 7 140 ∧ mm_ar M m 16 8 140 ∧ mm_ar M m 17 9 10 ∧ mm_ar M m 18 10 12) ∧ mm_ar M m 19 11 120 ∧ mm_ar M m 20 12 140 ∧ (mm_ar M m 28 13 120 ∧ mm_ar M m 29 14 140 ∧ mm_ar M m 30 15 140) ∧ mm_ar M m 31 16 140 ∧ mm_ar M m 36 17 12
theorem mm_f_st {S : Nat → Nat → Prop} {M N : mg_M} {m : Nat} (h : mm_f S M N) (g : mm_st M m) : mm_st N m := by
  obtain ⟨h1, h2, h3, h4, h5, h6, h7⟩ := h
  unfold mm_st mm_ar at *
  simp only [h1, h2, h3]
  exact g
def mi (M : mg_M) (a : Nat) (r c : Int) : Int := gi M a (10 * r + c).toNat
def mm_rc (M : mg_M) (m : Nat) : Prop := 0 ≤ gi M m 1 ∧ gi M m 1 ≤ 12 ∧ 0 ≤ gi M m 2 ∧ gi M m 2 ≤ 10
theorem cX6_in {D : mg_D} {l : Launch} (hl : l.stackTraces = false) {M : mg_M} {a b c : Int} : mg_Mt D l 126 [.inl a, .inl b, .inl c] M (fun v N => v = some (.inl (if b ≤ a ∧ a ≤ c then 1 else 0)) ∧ N = M) mg_no := by
  refine mg_of2 hl ok_X6_in al_X6_in rfl (fun K hK => ?_)
  refine hK _ _ _ _ _ ?_
  (repeat' (first | rfl | ((conv => whnf); first | exact And.intro rfl rfl | refine And.intro (by first | assumption | omega) ?_ | (refine And.intro (fun _ => ?_) (fun _ => ?_) <;> first | (exfalso; omega) | skip) | exact rfl | intro _ | fail)))
  all_goals (refine And.intro ?_ ?_ <;> first | rfl | ((repeat' split) <;> first | rfl | omega))
theorem cX6_fails {D : mg_D} {l : Launch} (hl : l.stackTraces = false) {M : mg_M} {m : Nat} {x : Int} (k7 : kd M m = 7) : mg_Mt D l 125 [.inr (.inl m), .inl x] M (fun v N => v = some (.inl (if 0 < x then 1 else 0)) ∧ N = si M m 0 x) mg_no := by
  refine mg_of2 hl ok_X6_fails al_X6_fails rfl (fun K hK => ?_)
  refine hK _ _ _ _ _ ?_
  (repeat' (first | rfl | ((conv => whnf); first | exact And.intro rfl rfl | refine And.intro (by first | assumption | omega) ?_ | (refine And.intro (fun _ => ?_) (fun _ => ?_) <;> first | (exfalso; omega) | skip) | exact rfl | intro _ | fail)))
  all_goals (refine And.intro ?_ ?_ <;> first | rfl | ((repeat' split) <;> first | rfl | omega))
theorem cX6_isSquare {D : mg_D} {l : Launch} (hl : l.stackTraces = false) {M : mg_M} {m : Nat} {r c : Int} (k7 : kd M m = 7) (rc : mm_rc M m) : mg_Mt D l 127 [.inr (.inl m), .inl r, .inl c] M (fun v N => v = some (.inl (if 0 ≤ r ∧ r < gi M m 1 ∧ 0 ≤ c ∧ c < gi M m 2 then 1 else 0)) ∧ N = M) mg_no := by
  refine mg_of2 hl ok_X6_isSquare al_X6_isSquare rfl (fun K hK => ?_)
  unfold mm_rc at rc
  refine hK _ _ _ _ _ ?_
  (repeat' (((conv => whnf); first | refine And.intro (by first | omega) ?_ | (refine And.intro (fun _ => ?_) (fun _ => ?_) <;> first | (exfalso; omega) | skip) | intro _ | fail)))
  all_goals (try ((conv => whnf); (refine Exists.intro _ (Exists.intro _ (And.intro (cX6_in hl) (And.intro ?_ (fun _ _ h => h.elim)))); rintro _ _ ⟨rfl, e⟩; have e2 := e.symm; clear e; subst e2); (repeat' (((conv => whnf); first | refine And.intro (by first | omega) ?_ | (refine And.intro (fun _ => ?_) (fun _ => ?_) <;> first | (exfalso; omega) | skip) | intro _ | fail)))))
  all_goals (try ((conv => whnf); (refine Exists.intro _ (Exists.intro _ (And.intro (cX6_in hl) (And.intro ?_ (fun _ _ h => h.elim)))); rintro _ _ ⟨rfl, e⟩; have e2 := e.symm; clear e; subst e2); (repeat' (((conv => whnf); first | refine And.intro (by first | omega) ?_ | (refine And.intro (fun _ => ?_) (fun _ => ?_) <;> first | (exfalso; omega) | skip) | intro _ | fail)))))
  all_goals (refine And.intro ?_ ?_ <;> first | rfl | ((repeat' split) <;> first | rfl | omega))
theorem cX6_id {D : mg_D} {l : Launch} (hl : l.stackTraces = false) {M : mg_M} {m : Nat} {r c : Int} (st : mm_st M m) (hr : 0 ≤ r ∧ r < 12) (hc : 0 ≤ c ∧ c < 10) : mg_Mt D l 128 [.inr (.inl m), .inl r, .inl c] M (fun v N => v = some (.inl (mi M (m + 1) r c)) ∧ N = M) mg_no := by
  refine mg_of2 hl ok_X6_id al_X6_id rfl (fun K hK => ?_)
  have k7 := st.1
  obtain ⟨a5, b5, c5⟩ := st.2.1.1
  refine hK _ _ _ _ _ ?_
  (repeat' (((conv => whnf); first | refine And.intro (by first | assumption | omega | (simp only [a5, b5, c5, true_and]; first | done | assumption | omega)) ?_ | (refine And.intro (fun _ => ?_) (fun _ => ?_) <;> first | (exfalso; omega) | skip) | intro _ | fail)))
  all_goals ((conv => whnf); rw [a5]; exact And.intro rfl rfl)
theorem cX6_isIn {D : mg_D} {l : Launch} (hl : l.stackTraces = false) {M : mg_M} {m : Nat} {r c : Int} (k7 : kd M m = 7) : mg_Mt D l 132 [.inr (.inl m), .inl r, .inl c] M (fun v N => v = some (.inl (if gi M m 32 ≤ r ∧ r ≤ gi M m 33 ∧ gi M m 34 ≤ c ∧ c ≤ gi M m 35 then 1 else 0)) ∧ N = M) mg_no := by
  refine mg_of2 hl ok_X6_isIn al_X6_isIn rfl (fun K hK => ?_)
  refine hK _ _ _ _ _ ?_
  (repeat' (((conv => whnf); first | refine And.intro (by first | omega) ?_ | (refine And.intro (fun _ => ?_) (fun _ => ?_) <;> first | (exfalso; omega) | skip) | intro _ | fail)))
  all_goals (try ((conv => whnf); (refine Exists.intro _ (Exists.intro _ (And.intro (cX6_in hl) (And.intro ?_ (fun _ _ h => h.elim)))); rintro _ _ ⟨rfl, e⟩; have e2 := e.symm; clear e; subst e2); (repeat' (((conv => whnf); first | refine And.intro (by first | omega) ?_ | (refine And.intro (fun _ => ?_) (fun _ => ?_) <;> first | (exfalso; omega) | skip) | intro _ | fail)))))
  all_goals (try ((conv => whnf); (refine Exists.intro _ (Exists.intro _ (And.intro (cX6_in hl) (And.intro ?_ (fun _ _ h => h.elim)))); rintro _ _ ⟨rfl, e⟩; have e2 := e.symm; clear e; subst e2); (repeat' (((conv => whnf); first | refine And.intro (by first | omega) ?_ | (refine And.intro (fun _ => ?_) (fun _ => ?_) <;> first | (exfalso; omega) | skip) | intro _ | fail)))))
  all_goals (refine And.intro ?_ ?_ <;> first | rfl | ((repeat' split) <;> first | rfl | omega))
