/-! the reference₀: its arrays₀ -/
def mm_ar (M : mg_M) (m₀ k₀ o n₀ : Nat) : Prop := gr M m₀ k₀ = m₀ + o ∧ kd M (m₀ + o) = 8 ∧ ln M (m₀ + o) = n₀
def mm_st (M : mg_M) (m₀ : Nat) : Prop := kd M m₀ = 7 ∧ (mm_ar M m₀ 5 1 120 ∧ mm_ar M m₀ 6 2 140 ∧ mm_ar M m₀ 7 3 140 ∧ mm_ar M m₀ 8 4 10 ∧ mm_ar M m₀ 9 5 12) ∧ (mm_ar M m₀ 14 6 120 ∧ mm_ar M m₀ 15 7 140 ∧ mm_ar M m₀ 16 8 140 ∧ mm_ar M m₀ 17 9 10 ∧ mm_ar M m₀ 18 10 12) ∧ mm_ar M m₀ 19 11 120 ∧ mm_ar M m₀ 20 12 140 ∧ (mm_ar M m₀ 28 13 120 ∧ mm_ar M m₀ 29 14 140 ∧ mm_ar M m₀ 30 15 140) ∧ mm_ar M m₀ 31 16 140 ∧ mm_ar M m₀ 36 17 12
theorem mm_f_st {S : Nat → Nat → Prop} {M N : mg_M} {m₀ : Nat} (h₀ : mm_f S M N) (g₀ : mm_st M m₀) : mm_st N m₀ := by
  obtain ⟨h1, h2, h3, h4, h5, h6, h7⟩ := h₀
  unfold mm_st mm_ar at *
  simp only [h1, h2, h3]
  exact g₀
def mi (M : mg_M) (a₀ : Nat) (r₀ c₀ : Int) : Int := gi M a₀ (10 * r₀ + c₀).toNat
def mm_rc (M : mg_M) (m₀ : Nat) : Prop := 0 ≤ gi M m₀ 1 ∧ gi M m₀ 1 ≤ 12 ∧ 0 ≤ gi M m₀ 2 ∧ gi M m₀ 2 ≤ 10
theorem cX6_in {D : mg_D} {l : Launch} (hl : l.stackTraces = false) {M : mg_M} {a₀ b₀ c₀ : Int} : mg_Mt D l 126 [.inl a₀, .inl b₀, .inl c₀] M (fun v₀ N => v₀ = some (.inl (if b₀ ≤ a₀ ∧ a₀ ≤ c₀ then 1 else 0)) ∧ N = M) mg_no := by
  refine mg_of2 hl ok_X6_in al_X6_in rfl (fun K hK₀ => ?_)
  refine hK₀ _ _ _ _ _ ?_
  (repeat' (first | rfl | ((conv => whnf); first | exact And.intro rfl rfl | refine And.intro (by first | assumption | omega) ?_ | (refine And.intro (fun _ => ?_) (fun _ => ?_) <;> first | (exfalso; omega) | skip) | exact rfl | intro _ | fail)))
  all_goals (refine And.intro ?_ ?_ <;> first | rfl | ((repeat' split) <;> first | rfl | omega))
theorem cX6_fails {D : mg_D} {l : Launch} (hl : l.stackTraces = false) {M : mg_M} {m₀ : Nat} {x₀ : Int} (k7₀ : kd M m₀ = 7) : mg_Mt D l 125 [.inr (.inl m₀), .inl x₀] M (fun v₀ N => v₀ = some (.inl (if 0 < x₀ then 1 else 0)) ∧ N = si M m₀ 0 x₀) mg_no := by
  refine mg_of2 hl ok_X6_fails al_X6_fails rfl (fun K hK₀ => ?_)
  refine hK₀ _ _ _ _ _ ?_
  (repeat' (first | rfl | ((conv => whnf); first | exact And.intro rfl rfl | refine And.intro (by first | assumption | omega) ?_ | (refine And.intro (fun _ => ?_) (fun _ => ?_) <;> first | (exfalso; omega) | skip) | exact rfl | intro _ | fail)))
  all_goals (refine And.intro ?_ ?_ <;> first | rfl | ((repeat' split) <;> first | rfl | omega))
theorem cX6_isSquare {D : mg_D} {l : Launch} (hl : l.stackTraces = false) {M : mg_M} {m₀ : Nat} {r₀ c₀ : Int} (k7₀ : kd M m₀ = 7) (rc : mm_rc M m₀) : mg_Mt D l 127 [.inr (.inl m₀), .inl r₀, .inl c₀] M (fun v₀ N => v₀ = some (.inl (if 0 ≤ r₀ ∧ r₀ < gi M m₀ 1 ∧ 0 ≤ c₀ ∧ c₀ < gi M m₀ 2 then 1 else 0)) ∧ N = M) mg_no := by
  refine mg_of2 hl ok_X6_isSquare al_X6_isSquare rfl (fun K hK₀ => ?_)
  unfold mm_rc at rc
  refine hK₀ _ _ _ _ _ ?_
  (repeat' (((conv => whnf); first | assumption | refine And.intro (by first | omega) ?_ | (refine And.intro (fun _ => ?_) (fun _ => ?_) <;> first | (exfalso; omega) | skip) | intro _ | fail)))
  all_goals (try ((conv => whnf); (refine Exists.intro _ (Exists.intro _ (And.intro (cX6_in hl) (And.intro ?_ (fun _ _ h₀ => h₀.elim)))); rintro _ _ ⟨rfl, e₀⟩; have e2₀ := e₀.symm; clear e₀; subst e2₀); (repeat' (((conv => whnf); first | assumption | refine And.intro (by first | omega) ?_ | (refine And.intro (fun _ => ?_) (fun _ => ?_) <;> first | (exfalso; omega) | skip) | intro _ | fail)))))
  all_goals (try ((conv => whnf); (refine Exists.intro _ (Exists.intro _ (And.intro (cX6_in hl) (And.intro ?_ (fun _ _ h₀ => h₀.elim)))); rintro _ _ ⟨rfl, e₀⟩; have e2₀ := e₀.symm; clear e₀; subst e2₀); (repeat' (((conv => whnf); first | assumption | refine And.intro (by first | omega) ?_ | (refine And.intro (fun _ => ?_) (fun _ => ?_) <;> first | (exfalso; omega) | skip) | intro _ | fail)))))
  all_goals (refine And.intro ?_ ?_ <;> first | rfl | ((repeat' split) <;> first | rfl | omega))
theorem cX6_id {D : mg_D} {l : Launch} (hl : l.stackTraces = false) {M : mg_M} {m₀ : Nat} {r₀ c₀ : Int} (st₀ : mm_st M m₀) (hr : 0 ≤ r₀ ∧ r₀ < 12) (hc₀ : 0 ≤ c₀ ∧ c₀ < 10) : mg_Mt D l 128 [.inr (.inl m₀), .inl r₀, .inl c₀] M (fun v₀ N => v₀ = some (.inl (mi M (m₀ + 1) r₀ c₀)) ∧ N = M) mg_no := by
  refine mg_of2 hl ok_X6_id al_X6_id rfl (fun K hK₀ => ?_)
  have k7₀ := st₀.1
  obtain ⟨a5, b5, c5₀⟩ := st₀.2.1.1
  refine hK₀ _ _ _ _ _ ?_
  (repeat' (((conv => whnf); first | assumption | refine And.intro (by first | assumption | omega | (simp only [a5, b5, c5₀, true_and]; first | done | assumption | omega)) ?_ | (refine And.intro (fun _ => ?_) (fun _ => ?_) <;> first | (exfalso; omega) | skip) | intro _ | fail)))
  all_goals ((conv => whnf); rw [a5]; exact And.intro rfl rfl)
theorem cX6_isIn {D : mg_D} {l : Launch} (hl : l.stackTraces = false) {M : mg_M} {m₀ : Nat} {r₀ c₀ : Int} (k7₀ : kd M m₀ = 7) : mg_Mt D l 132 [.inr (.inl m₀), .inl r₀, .inl c₀] M (fun v₀ N => v₀ = some (.inl (if gi M m₀ 32 ≤ r₀ ∧ r₀ ≤ gi M m₀ 33 ∧ gi M m₀ 34 ≤ c₀ ∧ c₀ ≤ gi M m₀ 35 then 1 else 0)) ∧ N = M) mg_no := by
  refine mg_of2 hl ok_X6_isIn al_X6_isIn rfl (fun K hK₀ => ?_)
  refine hK₀ _ _ _ _ _ ?_
  (repeat' (((conv => whnf); first | assumption | refine And.intro (by first | omega) ?_ | (refine And.intro (fun _ => ?_) (fun _ => ?_) <;> first | (exfalso; omega) | skip) | intro _ | fail)))
  all_goals (try ((conv => whnf); (refine Exists.intro _ (Exists.intro _ (And.intro (cX6_in hl) (And.intro ?_ (fun _ _ h₀ => h₀.elim)))); rintro _ _ ⟨rfl, e₀⟩; have e2₀ := e₀.symm; clear e₀; subst e2₀); (repeat' (((conv => whnf); first | assumption | refine And.intro (by first | omega) ?_ | (refine And.intro (fun _ => ?_) (fun _ => ?_) <;> first | (exfalso; omega) | skip) | intro _ | fail)))))
  all_goals (try ((conv => whnf); (refine Exists.intro _ (Exists.intro _ (And.intro (cX6_in hl) (And.intro ?_ (fun _ _ h₀ => h₀.elim)))); rintro _ _ ⟨rfl, e₀⟩; have e2₀ := e₀.symm; clear e₀; subst e2₀); (repeat' (((conv => whnf); first | assumption | refine And.intro (by first | omega) ?_ | (refine And.intro (fun _ => ?_) (fun _ => ?_) <;> first | (exfalso; omega) | skip) | intro _ | fail)))))
  all_goals (refine And.intro ?_ ?_ <;> first | rfl | ((repeat' split) <;> first | rfl | omega))
