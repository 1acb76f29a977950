theorem cX1_isNothing {D : mg_D} {l : Launch} (hl : l.stackTraces = false) {M : mg_M} {b : Nat} (hb : kd M b = 2) : mg_Mt D l 35 [.inr (.inl b)] M (fun v N => v = some (.inl (if gi M b 0 = 0 then 1 else 0)) ∧ N = M) mg_no := by
  refine mg_of2 hl ok_X1_isNothing al_X1_isNothing rfl (fun K hK => ?_)
  refine hK _ _ _ _ _ ?_
  (repeat' (first | rfl | ((conv => whnf); first | exact And.intro rfl rfl | refine And.intro (by first | assumption | omega) ?_ | (refine And.intro (fun _ => ?_) (fun _ => ?_) <;> first | (exfalso; omega) | skip) | exact rfl | intro _ | fail)))
  all_goals (refine And.intro ?_ ?_ <;> first | rfl | ((repeat' split) <;> first | rfl | omega))
set_option maxRecDepth 100000 in
theorem cX4_ownsIts0 {D : mg_D} {l : Launch} (hl : l.stackTraces = false) {M : mg_M} {t i : Nat} {x : Int} (hx : x = i) (tl : mh_tl M t) (hi : (i : Int) < gi M (t + 3) 0) : mg_Mt D l 69 [.inr (.inl t), .inl x] M (fun v N => v = some (.inl 1) ∧ N = M) mg_no := by
  subst hx
  refine mg_of2 hl ok_X4_ownsItsSquares al_X4_ownsItsSquares rfl (fun K hK => ?_)
  have g1 := tl.1.1.1
  have g4 := tl.1.1.2.2.2.1
  have k0 := tl.2.1.1
  have z := tl.2.1.2.2.2.2.2.2.1
  have sm := mh_tl_sm tl i hi
  have k3 := sm.1
  have o := tl.2.2.1 i hi
  have ow := tl.2.2.2.1 i hi
  have bb := tl.1.2.2
  unfold mh_ok at o
  have g5 : gr M t 5 ≠ 0 := by omega
  have g6 : kd M (gr M t 5) = 4 := by rw [g4]; exact k0
  refine hK _ _ _ _ _ ?_
  (repeat' (((conv => whnf); first | refine And.intro (by first | omega | (simp only [true_and, Int.toNat_natCast]; first | done | omega)) ?_ | (refine And.intro (fun _ => ?_) (fun _ => ?_) <;> first | (exfalso; omega) | skip) | intro _ | fail)))
  (conv => whnf)
  rw [g4]
  (refine Exists.intro _ (Exists.intro _ (And.intro (cX3_get hl tl.2.1 (by omega)) (And.intro ?_ (fun _ _ h => h.elim)))); rintro _ _ ⟨rfl, e⟩; have e2 := e.symm; clear e; subst e2)
  simp only [Int.toNat_natCast]
  (repeat' (((conv => whnf); first | refine And.intro (by first | omega | (simp only [true_and, Int.toNat_natCast]; first | done | omega)) ?_ | (refine And.intro (fun _ => ?_) (fun _ => ?_) <;> first | (exfalso; omega) | skip) | intro _ | fail)))
  (conv => whnf)
  generalize ha : gr M (t + 3 + 1) i = a at *
  have cvr : ∀ r c, mh_cv M t i r c ↔ (gi M a 0 ≤ r ∧ r < gi M a 0 + gi M a 2 ∧ gi M a 1 ≤ c ∧ c < gi M a 1 + gi M a 3) := by
    intro r c
    unfold mh_cv
    rw [ha]
  have LR : ∀ n : Nat, ∀ r : Int, gi M a 0 ≤ r ∧ gi M a 0 + gi M a 2 - r = n → K 14 [(0, Sum.inr (Sum.inl t)), (1, Sum.inl (i : Int)), (2, Sum.inr (Sum.inl a)), (3, Sum.inl r)] [] M 0 := by
    intro n
    induction n with
    | zero =>
      intro r hr
      refine hK _ _ _ _ _ ?_
      (repeat' (((conv => whnf); first | refine And.intro (by first | omega | (simp only [true_and, Int.toNat_natCast]; first | done | omega)) ?_ | (refine And.intro (fun _ => ?_) (fun _ => ?_) <;> first | (exfalso; omega) | skip) | intro _ | fail)))
      all_goals (try ((conv => whnf); (refine Exists.intro _ (Exists.intro _ (And.intro (cX2_bottom hl sm) (And.intro ?_ (fun _ _ h => h.elim)))); rintro _ _ ⟨rfl, e⟩; have e2 := e.symm; clear e; subst e2); (repeat' (((conv => whnf); first | refine And.intro (by first | omega | (simp only [true_and, Int.toNat_natCast]; first | done | omega)) ?_ | (refine And.intro (fun _ => ?_) (fun _ => ?_) <;> first | (exfalso; omega) | skip) | intro _ | fail)))))
      (conv => whnf)
    | succ n ih =>
      intro r hr
      have LC : ∀ p : Nat, ∀ c : Int, gi M a 1 ≤ c ∧ gi M a 1 + gi M a 3 - c = p → K 28 [(0, Sum.inr (Sum.inl t)), (1, Sum.inl (i : Int)), (2, Sum.inr (Sum.inl a)), (3, Sum.inl r), (4, Sum.inl c)] [] M 0 := by
        intro p
        induction p with
        | zero =>
          intro c hc
          refine hK _ _ _ _ _ ?_
          (repeat' (((conv => whnf); first | refine And.intro (by first | omega | (simp only [true_and, Int.toNat_natCast]; first | done | omega)) ?_ | (refine And.intro (fun _ => ?_) (fun _ => ?_) <;> first | (exfalso; omega) | skip) | intro _ | fail)))
          all_goals (try ((conv => whnf); (refine Exists.intro _ (Exists.intro _ (And.intro (cX2_right hl sm) (And.intro ?_ (fun _ _ h => h.elim)))); rintro _ _ ⟨rfl, e⟩; have e2 := e.symm; clear e; subst e2); (repeat' (((conv => whnf); first | refine And.intro (by first | omega | (simp only [true_and, Int.toNat_natCast]; first | done | omega)) ?_ | (refine And.intro (fun _ => ?_) (fun _ => ?_) <;> first | (exfalso; omega) | skip) | intro _ | fail)))))
          (conv => whnf)
          exact ih _ (by omega)
        | succ p ihp =>
          intro c hc
          have w := ow r c ((cvr r c).2 (by omega))
          have eo : mh_ow M t r c = i := by unfold mh_ow; rw [if_pos (by omega)]; exact w
          refine hK _ _ _ _ _ ?_
          (repeat' (((conv => whnf); first | refine And.intro (by first | omega | (simp only [true_and, Int.toNat_natCast]; first | done | omega)) ?_ | (refine And.intro (fun _ => ?_) (fun _ => ?_) <;> first | (exfalso; omega) | skip) | intro _ | fail)))
          all_goals (try ((conv => whnf); (refine Exists.intro _ (Exists.intro _ (And.intro (cX2_right hl sm) (And.intro ?_ (fun _ _ h => h.elim)))); rintro _ _ ⟨rfl, e⟩; have e2 := e.symm; clear e; subst e2); (repeat' (((conv => whnf); first | refine And.intro (by first | omega | (simp only [true_and, Int.toNat_natCast]; first | done | omega)) ?_ | (refine And.intro (fun _ => ?_) (fun _ => ?_) <;> first | (exfalso; omega) | skip) | intro _ | fail)))))
          all_goals (try ((conv => whnf); (refine Exists.intro _ (Exists.intro _ (And.intro (cX4_ownerOf hl tl.1) (And.intro ?_ (fun _ _ h => h.elim)))); rintro _ _ ⟨rfl, e⟩; have e2 := e.symm; clear e; subst e2); (repeat' (((conv => whnf); first | refine And.intro (by first | omega | (simp only [true_and, Int.toNat_natCast]; first | done | omega)) ?_ | (refine And.intro (fun _ => ?_) (fun _ => ?_) <;> first | (exfalso; omega) | skip) | intro _ | fail)))))
          (conv => whnf)
          exact ihp _ (by omega)
      refine hK _ _ _ _ _ ?_
      (repeat' (((conv => whnf); first | refine And.intro (by first | omega | (simp only [true_and, Int.toNat_natCast]; first | done | omega)) ?_ | (refine And.intro (fun _ => ?_) (fun _ => ?_) <;> first | (exfalso; omega) | skip) | intro _ | fail)))
      all_goals (try ((conv => whnf); (refine Exists.intro _ (Exists.intro _ (And.intro (cX2_bottom hl sm) (And.intro ?_ (fun _ _ h => h.elim)))); rintro _ _ ⟨rfl, e⟩; have e2 := e.symm; clear e; subst e2); (repeat' (((conv => whnf); first | refine And.intro (by first | omega | (simp only [true_and, Int.toNat_natCast]; first | done | omega)) ?_ | (refine And.intro (fun _ => ?_) (fun _ => ?_) <;> first | (exfalso; omega) | skip) | intro _ | fail)))))
      (conv => whnf)
      exact LC (gi M a 3).toNat _ (by omega)
  exact LR (gi M a 2).toNat _ (by omega)
