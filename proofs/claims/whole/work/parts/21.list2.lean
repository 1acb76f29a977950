theorem cX3_remove {D : mg_D} {l : Launch} (hl : l.stackTraces = false) {M : mg_M} {c : Nat} {i : Int} (h : mg_cL M c) (hi : 0 ≤ i ∧ i < gi M c 0) : mg_Mt D l 21 [.inr (.inl c), .inl i] M (fun v M' => v = none ∧ M' = sr (sr (si M c 0 (gi M c 0 - 1)) (c + 1) i.toNat (gr M (c + 1) (gi M c 0 - 1).toNat)) (c + 1) (gi M c 0 - 1).toNat (gr M (c + 1) i.toNat)) mg_no := by
  refine mg_of2 hl ok_X3_remove al_X3_remove rfl (fun K hK => ?_)
  obtain ⟨g1, g2, g3, g4, g5, g6, g7, g8, g9⟩ := h
  have n1 : ¬ (c = c + 1) := by omega
  have n2 : ¬ (c + 1 = c) := by omega
  have g10 := g8 i.toNat (by omega)
  have g11 := g8 (gi M c 0 - 1).toNat (by omega)
  have e1 : gr M (c + 1) i.toNat ≠ 0 := by omega
  have e2 : gr M (c + 1) (gi M c 0 - 1).toNat ≠ 0 := by omega
  refine hK _ _ _ _ _ ?_
  (repeat' (((conv => whnf); first | refine And.intro (by first | assumption | omega | (simp only [g2, g3, g5, gr_si, kd_si, ln_si, gi_si, gr_sr, kd_sr, ln_sr, gi_sr, n1, n2, false_and, and_false, if_false, and_self, if_true, Nat.add_eq_zero_iff]; first | done | assumption | omega)) ?_ | (refine And.intro (fun _ => ?_) (fun _ => ?_) <;> first | (exfalso; omega) | skip) | intro _ | fail)))
  all_goals (simp only [g2, g3, g5, gr_si, kd_si, ln_si, gi_si, gr_sr, kd_sr, ln_sr, gi_sr, n1, n2, false_and, and_false, if_false, and_self, if_true, Nat.add_eq_zero_iff])
theorem cX3_add {D : mg_D} {l : Launch} (hl : l.stackTraces = false) {M : mg_M} {c : Nat} {r s t u : Int} (h : mg_cL M c) (hi : gi M c 0 < 120) : mg_Mt D l 20 [.inr (.inl c), .inl r, .inl s, .inl t, .inl u] M (fun v M' => v = some (.inr (.inl (gr M (c + 1) (gi M c 0).toNat))) ∧ M' = mg_put6 (si M c 0 (gi M c 0 + 1)) (gr M (c + 1) (gi M c 0).toNat) r s t u 0 0) mg_no := by
  refine mg_of2 hl ok_X3_add al_X3_add rfl (fun K hK => ?_)
  obtain ⟨g1, g2, g3, g4, g5, g6, g7, g8, g9⟩ := h
  have n1 : ¬ (c = c + 1) := by omega
  have n2 : ¬ (c + 1 = c) := by omega
  have g10 := g8 (gi M c 0).toNat (by omega)
  have e1 : gr M (c + 1) (gi M c 0).toNat ≠ 0 := by omega
  have g5' : ln M (gr M c 1) = 120 := by rw [g2]; exact g5
  refine hK _ _ _ _ _ ?_
  (repeat' (((conv => whnf); first | refine And.intro (by first | assumption | omega | (simp only [g2, g3, g5, gr_si, kd_si, ln_si, gi_si, gr_sr, kd_sr, ln_sr, gi_sr, n1, n2, false_and, and_false, if_false, and_self, if_true, Nat.add_eq_zero_iff]; first | done | assumption | omega)) ?_ | (refine And.intro (fun _ => ?_) (fun _ => ?_) <;> first | (exfalso; omega) | skip) | intro _ | fail)))
  all_goals (try ((conv => whnf); (refine Exists.intro _ (Exists.intro _ (And.intro (cX2_lie hl (by simp only [g2, g3, g5, gr_si, kd_si, ln_si, gi_si, gr_sr, kd_sr, ln_sr, gi_sr, n1, n2, false_and, and_false, if_false, and_self, if_true, Nat.add_eq_zero_iff]; exact g10.1)) (And.intro ?_ (fun _ _ h => h.elim)))); rintro _ _ ⟨rfl, e⟩; have e2 := e.symm; clear e; subst e2); (repeat' (((conv => whnf); first | refine And.intro (by first | assumption | omega | (simp only [g2, g3, g5, gr_si, kd_si, ln_si, gi_si, gr_sr, kd_sr, ln_sr, gi_sr, n1, n2, false_and, and_false, if_false, and_self, if_true, Nat.add_eq_zero_iff]; first | done | assumption | omega)) ?_ | (refine And.intro (fun _ => ?_) (fun _ => ?_) <;> first | (exfalso; omega) | skip) | intro _ | fail)))))
  all_goals (try ((conv => whnf); (refine Exists.intro _ (Exists.intro _ (And.intro (cX2_fill hl (by simp only [g2, g3, g5, gr_si, kd_si, ln_si, gi_si, gr_sr, kd_sr, ln_sr, gi_sr, n1, n2, false_and, and_false, if_false, and_self, if_true, Nat.add_eq_zero_iff]; exact g10.1)) (And.intro ?_ (fun _ _ h => h.elim)))); rintro _ _ ⟨rfl, e⟩; have e2 := e.symm; clear e; subst e2); (repeat' (((conv => whnf); first | refine And.intro (by first | assumption | omega | (simp only [g2, g3, g5, gr_si, kd_si, ln_si, gi_si, gr_sr, kd_sr, ln_sr, gi_sr, n1, n2, false_and, and_false, if_false, and_self, if_true, Nat.add_eq_zero_iff]; first | done | assumption | omega)) ?_ | (refine And.intro (fun _ => ?_) (fun _ => ?_) <;> first | (exfalso; omega) | skip) | intro _ | fail)))))
  all_goals (simp only [g2, g3, g5, gr_si, kd_si, ln_si, gi_si, gr_sr, kd_sr, ln_sr, gi_sr, n1, n2, false_and, and_false, if_false, and_self, if_true, Nat.add_eq_zero_iff]; rfl)
def mh_if (p : Prop) [Decidable p] (M N : mg_M) : mg_M := if p then M else N
def mh_em (c b : Nat) (M : mg_M) : Nat → mg_M
  | 0 => M
  | n + 1 => bif mh_in M (gr M (c + 1) n) b then si (mh_em c b M n) (gr M (c + 1) n) 4 0 else mh_em c b M n
theorem mg_cL_si {M : mg_M} {c a k : Nat} {x : Int} (h : mg_cL M c) (g : ¬ (a = c ∧ k = 0)) : mg_cL (si M a k x) c := by
  unfold mg_cL at *
  have g' : ¬ (c = a ∧ (0 : Nat) = k) := fun q => g ⟨q.1.symm, q.2.symm⟩
  simpa only [gr_si, kd_si, ln_si, gi_si, g', if_false] using h
theorem mg_cL_siz {M : mg_M} {c : Nat} {x : Int} (h : mg_cL M c) (g : 0 ≤ x ∧ x ≤ 120) : mg_cL (si M c 0 x) c := by
  unfold mg_cL at *
  obtain ⟨g1, g2, g3, g4, g5, g6, g7, g8, g9⟩ := h
  exact ⟨g1, g2, g3, g4, g5, g6, by simpa only [gi_si, and_self, if_true] using g, g8, g9⟩
