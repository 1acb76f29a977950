def mh_va (M : mg_M) (a : Nat) : Bool := decide (gi M a 2 = 0 ∨ gi M a 3 = 0)
def mh_rv (c : Nat) : Nat → mg_M → mg_M
  | 0, M => M
  | n + 1, M => mh_rv c n (bif mh_va M (gr M (c + 1) n) then mh_rm M c n else M)
theorem cX3_removeVanished {D : mg_D} {l : Launch} (hl : l.stackTraces = false) {M : mg_M} {c : Nat} (h : mg_cL M c) (hs : mg_cS M c) : mg_Mt D l 23 [.inr (.inl c)] M (fun v M' => v = none ∧ M' = mh_rv c (gi M c 0).toNat M) mg_no := by
  refine mg_of2 hl ok_X3_removeVanished al_X3_removeVanished rfl (fun K hK => ?_)
  have g1 := h.1
  have g2 := h.2.2.2.2.2.2.1
  refine hK _ _ _ _ _ ?_
  (repeat' (first | rfl | ((conv => whnf); first | exact And.intro rfl rfl | refine And.intro (by first | assumption | omega | (simp only [Int.toNat_natCast]; first | done | assumption | omega)) ?_ | (refine And.intro (fun _ => ?_) (fun _ => ?_) <;> first | (exfalso; omega) | skip) | exact rfl | intro _ | fail)))
  (conv => whnf)
  have L : ∀ n : Nat, ∀ j : Int, ∀ N : mg_M, mg_cL N c → mg_cS N c → (n : Int) ≤ gi N c 0 → j = n - 1 → mh_rv c n N = mh_rv c (gi M c 0).toNat M → K 7 [(0, Sum.inr (Sum.inl c)), (1, Sum.inl j)] [] N 0 := by
    intro n
    induction n with
    | zero =>
      intro j N k1 k2 k4 k5 k6
      refine hK _ _ _ _ _ ?_
      (repeat' (first | rfl | ((conv => whnf); first | exact And.intro rfl rfl | refine And.intro (by first | assumption | omega | (simp only [Int.toNat_natCast]; first | done | assumption | omega)) ?_ | (refine And.intro (fun _ => ?_) (fun _ => ?_) <;> first | (exfalso; omega) | skip) | exact rfl | intro _ | fail)))
      first | refine And.intro rfl ?_ | skip
      exact k6
    | succ n ih =>
      intro j N k1 k2 k4 k5 k6
      have hj : j = n := by omega
      clear k5
      subst hj
      have hm := k2 n (by omega)
      have hk3 := hm.1
      have g3 := k1.2.2.2.2.2.2.1
      have k0 := k1.1
      refine hK _ _ _ _ _ ?_
      (repeat' (first | rfl | ((conv => whnf); first | exact And.intro rfl rfl | refine And.intro (by first | assumption | omega | (simp only [Int.toNat_natCast]; first | done | assumption | omega)) ?_ | (refine And.intro (fun _ => ?_) (fun _ => ?_) <;> first | (exfalso; omega) | skip) | exact rfl | intro _ | fail)))
      all_goals (try ((conv => whnf); (refine Exists.intro _ (Exists.intro _ (And.intro (cX3_get hl k1 (by omega)) (And.intro ?_ (fun _ _ h => h.elim)))); rintro _ _ ⟨rfl, e⟩; have e2 := e.symm; clear e; subst e2); (repeat' (first | rfl | ((conv => whnf); first | exact And.intro rfl rfl | refine And.intro (by first | assumption | omega | (simp only [Int.toNat_natCast]; first | done | assumption | omega)) ?_ | (refine And.intro (fun _ => ?_) (fun _ => ?_) <;> first | (exfalso; omega) | skip) | exact rfl | intro _ | fail)))))
      all_goals (try ((conv => whnf); (refine Exists.intro _ (Exists.intro _ (And.intro (cX3_get hl k1 (by omega)) (And.intro ?_ (fun _ _ h => h.elim)))); rintro _ _ ⟨rfl, e⟩; have e2 := e.symm; clear e; subst e2); (repeat' (first | rfl | ((conv => whnf); first | exact And.intro rfl rfl | refine And.intro (by first | assumption | omega | (simp only [Int.toNat_natCast]; first | done | assumption | omega)) ?_ | (refine And.intro (fun _ => ?_) (fun _ => ?_) <;> first | (exfalso; omega) | skip) | exact rfl | intro _ | fail)))))
      all_goals (try ((conv => whnf); (refine Exists.intro _ (Exists.intro _ (And.intro (cX3_rm hl rfl k1 (by omega)) (And.intro ?_ (fun _ _ h => h.elim)))); rintro _ _ ⟨rfl, e⟩; have e2 := e.symm; clear e; subst e2); (repeat' (first | rfl | ((conv => whnf); first | exact And.intro rfl rfl | refine And.intro (by first | assumption | omega | (simp only [Int.toNat_natCast]; first | done | assumption | omega)) ?_ | (refine And.intro (fun _ => ?_) (fun _ => ?_) <;> first | (exfalso; omega) | skip) | exact rfl | intro _ | fail)))))
      all_goals ((conv => whnf); simp only [Int.toNat_natCast] at *)
      all_goals (first
        | (refine ih _ _ k1 k2 (by omega) (by omega) ?_
           rw [← k6]
           show mh_rv c n N = mh_rv c n (bif mh_va N (gr N (c + 1) n) then mh_rm N c n else N)
           rw [show mh_va N (gr N (c + 1) n) = false from decide_eq_false (by omega)]; rfl)
        | (refine ih _ _ (mh_rm_cL k1 (by omega)) (mh_rm_cS k1 k2 (by omega)) (by rw [mh_rm_gi, if_pos ⟨rfl, rfl⟩]; omega) (by omega) ?_
           rw [← k6]
           show _ = mh_rv c n (bif mh_va N (gr N (c + 1) n) then mh_rm N c n else N)
           rw [show mh_va N (gr N (c + 1) n) = true from decide_eq_true (by omega)]; rfl))
  exact L (gi M c 0).toNat _ M h hs (by omega) (by omega) rfl
