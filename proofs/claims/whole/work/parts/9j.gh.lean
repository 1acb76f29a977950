/-! MergeGrid: the small₀ methods -/
def mh_tX (k₀ : Nat) (M : mg_M) : mg_X := fun q₀ P => q₀ = k₀ ∧ ∃ n₀, nx M ≤ n₀ ∧ P = nxt M n₀
def mh_nN : mg_O := fun _ _ => False
def mh_G0 (M : mg_M) (g₀ t₀ : Nat) : Prop := kd M g₀ = 6 ∧ gr M g₀ 0 = t₀ ∧ kd M t₀ = 5 ∧ t₀ ≠ 0
set_option maxRecDepth 100000 in
theorem cX5_checkRow0 {D : mg_D} {l : Launch} (hl : l.stackTraces = false) {M : mg_M} {g₀ t₀ : Nat} {r₀ : Int} (G : mh_G0 M g₀ t₀) (h₀ : 0 ≤ r₀ ∧ r₀ < gi M t₀ 0) : mg_Mt D l 114 [.inr (.inl g₀), .inl r₀] M (fun v₀ N => v₀ = none ∧ N = M) mg_no := by
  refine mg_of2 hl ok_X5_checkRow al_X5_checkRow rfl (fun K hK₀ => ?_)
  obtain ⟨k6₀, g0, kt, tn₀⟩ := G
  have g0n : gr M g₀ 0 ≠ 0 := by omega
  have k0₀ : kd M (gr M g₀ 0) = 5 := by rw [g0]; exact kt
  have c₀ := @cX4_hasRow D l hl M t₀ r₀ kt
  rw [if_pos h₀] at c₀
  have Q₀ : (none : Option mg_V) = none ∧ M = M := ⟨rfl, rfl⟩
  refine hK₀ _ _ _ _ _ ?_
  (repeat' (((conv => whnf); first | (show (_ : Option mg_V) = _ ∧ _; assumption) | (show K _ _ _ _ _; assumption) | (show mm_th _ _ _ _; assumption) | refine And.intro (by first | assumption | omega | (simp only [true_and]; first | done | assumption | omega)) ?_ | (refine And.intro (fun _ => ?_) (fun _ => ?_) <;> first | (exfalso; omega) | skip) | intro _ | fail)))
  all_goals ((conv => whnf); rw [g0])
  (refine Exists.intro _ (Exists.intro _ (And.intro (c₀) (And.intro ?_ (fun _ _ h₀ => h₀.elim)))); rintro _ _ ⟨rfl, e₀⟩; have e2₀ := e₀.symm; clear e₀; subst e2₀)
  (repeat' (((conv => whnf); first | (show (_ : Option mg_V) = _ ∧ _; assumption) | (show K _ _ _ _ _; assumption) | (show mm_th _ _ _ _; assumption) | refine And.intro (by first | assumption | omega | (simp only [true_and]; first | done | assumption | omega)) ?_ | (refine And.intro (fun _ => ?_) (fun _ => ?_) <;> first | (exfalso; omega) | skip) | intro _ | fail)))
set_option maxRecDepth 100000 in
theorem cX5_checkRow1 {D : mg_D} {l : Launch} (hl : l.stackTraces = false) {M : mg_M} {g₀ t₀ : Nat} {r₀ : Int} (G : mh_G0 M g₀ t₀) (h₀ : ¬ (0 ≤ r₀ ∧ r₀ < gi M t₀ 0)) : mg_Mt D l 114 [.inr (.inl g₀), .inl r₀] M mh_nN (mh_tX 1 M) := by
  refine mg_of2 hl ok_X5_checkRow al_X5_checkRow rfl (fun K hK₀ => ?_)
  obtain ⟨k6₀, g0, kt, tn₀⟩ := G
  have g0n : gr M g₀ 0 ≠ 0 := by omega
  have k0₀ : kd M (gr M g₀ 0) = 5 := by rw [g0]; exact kt
  have c₀ := @cX4_hasRow D l hl M t₀ r₀ kt
  rw [if_neg h₀] at c₀
  refine hK₀ _ _ _ _ _ ?_
  (repeat' (((conv => whnf); first | (show (_ : Option mg_V) = _ ∧ _; assumption) | (show K _ _ _ _ _; assumption) | (show mm_th _ _ _ _; assumption) | refine And.intro (by first | assumption | omega | (simp only [true_and]; first | done | assumption | omega)) ?_ | (refine And.intro (fun _ => ?_) (fun _ => ?_) <;> first | (exfalso; omega) | skip) | intro _ | fail)))
  all_goals ((conv => whnf); rw [g0])
  (refine Exists.intro _ (Exists.intro _ (And.intro (c₀) (And.intro ?_ (fun _ _ h₀ => h₀.elim)))); rintro _ _ ⟨rfl, e₀⟩; have e2₀ := e₀.symm; clear e₀; subst e2₀)
  (repeat' (((conv => whnf); first | (show (_ : Option mg_V) = _ ∧ _; assumption) | (show K _ _ _ _ _; assumption) | (show mm_th _ _ _ _; assumption) | refine And.intro (by first | assumption | omega | (simp only [true_and]; first | done | assumption | omega)) ?_ | (refine And.intro (fun _ => ?_) (fun _ => ?_) <;> first | (exfalso; omega) | skip) | intro _ | fail)))
  all_goals (first | exact ⟨_, by assumption, rfl⟩ | exact ⟨rfl, _, by assumption, rfl⟩)
