def mh_ct (M : mg_M) (t : Nat) (r c : Int) : Int := gi M (mh_co M t r c) 4
def mh_rb (M : mg_M) (t : Nat) (c r a i : Int) : Int := if a ≠ 0 ∧ mh_ct M t i c < mh_ct M t r c then 1 else if a = 0 ∧ mh_ct M t r c < mh_ct M t i c then 1 else if mh_ct M t i c = mh_ct M t r c ∧ i < r then 1 else 0
set_option maxRecDepth 100000 in
theorem cX4_rowsSortedBefore {D : mg_D} {l : Launch} (hl : l.stackTraces = false) {M : mg_M} {t : Nat} {r c a : Int} (tl : mh_tl M t) (nb : mh_nb M t) (hr : 0 ≤ r ∧ r < gi M t 0) (hc : 0 ≤ c ∧ c < gi M t 1) (hh : gi M t 2 ≤ gi M t 0) : mg_Mt D l 56 [.inr (.inl t), .inl r, .inl c, .inl a] M (fun v N => v = some (.inl (mh_sum (fun k => mh_rb M t c r a (gi M t 2 + k)) (gi M t 0 - gi M t 2).toNat)) ∧ N = M) mg_no := by
  refine mg_of2 hl ok_X4_rowsSortedBefore al_X4_rowsSortedBefore rfl (fun K hK => ?_)
  have g1 := tl.1.1.1
  have bb := tl.1.2.2
  have c3 : ∀ i, 0 ≤ i ∧ i < gi M t 0 → kd M (mh_co M t i c) = 3 := fun i hi => (mh_co_sm tl nb hi hc).1
  have c0 := c3 r hr
  have at' : ∀ i, 0 ≤ i ∧ i < gi M t 0 → mh_at M t i c ≠ -1 := fun i hi => nb i c hi.1 hi.2 hc.1 hc.2
  refine hK _ _ _ _ _ ?_
  (repeat' (((conv => whnf); first | refine And.intro (by first | omega | (simp only [true_and]; first | done | omega)) ?_ | (refine And.intro (fun _ => ?_) (fun _ => ?_) <;> first | (exfalso; omega) | skip) | intro _ | fail)))
  all_goals (try ((conv => whnf); (refine Exists.intro _ (Exists.intro _ (And.intro (cX4_cellAt hl tl hr hc (at' r hr)) (And.intro ?_ (fun _ _ h => h.elim)))); rintro _ _ ⟨rfl, e⟩; have e2 := e.symm; clear e; subst e2); (repeat' (((conv => whnf); first | refine And.intro (by first | omega | (simp only [true_and]; first | done | omega)) ?_ | (refine And.intro (fun _ => ?_) (fun _ => ?_) <;> first | (exfalso; omega) | skip) | intro _ | fail)))))
  (conv => whnf)
  have L : ∀ n i : Nat, ∀ k j : Int, gi M t 0 - gi M t 2 = i + n → j = gi M t 2 + i → k = mh_sum (fun k => mh_rb M t c r a (gi M t 2 + k)) i → K 20 [(0, Sum.inr (Sum.inl t)), (1, Sum.inl r), (2, Sum.inl c), (3, Sum.inl a), (4, Sum.inl (gi M (mh_co M t r c) 4)), (5, Sum.inl k), (6, Sum.inl j)] [] M 0 := by
    intro n
    induction n with
    | zero =>
      intro i k j hm hj hk
      refine hK _ _ _ _ _ ?_
      (repeat' (((conv => whnf); first | refine And.intro (by first | omega | (simp only [true_and]; first | done | omega)) ?_ | (refine And.intro (fun _ => ?_) (fun _ => ?_) <;> first | (exfalso; omega) | skip) | intro _ | fail)))
      (conv => whnf)
      refine And.intro ?_ rfl
      rw [hk, show (gi M t 0 - gi M t 2).toNat = i from by omega]
    | succ n ih =>
      intro i k j hm hj hk
      have hb : ∀ j, 0 ≤ mh_rb M t c r a j ∧ mh_rb M t c r a j ≤ 1 := by
        intro j
        unfold mh_rb
        (repeat' split) <;> omega
      have hs := mh_sum_le (f := fun k => mh_rb M t c r a (gi M t 2 + k)) (b := 1) i (fun j _ => hb _)
      have e : mh_sum (fun k => mh_rb M t c r a (gi M t 2 + k)) (i + 1) = mh_sum (fun k => mh_rb M t c r a (gi M t 2 + k)) i + mh_rb M t c r a (gi M t 2 + i) := rfl
      rw [← hj] at e
      have c1 := c3 j (by omega)
      have e2 : mh_rb M t c r a j = if a ≠ 0 ∧ gi M (mh_co M t j c) 4 < gi M (mh_co M t r c) 4 then 1 else if a = 0 ∧ gi M (mh_co M t r c) 4 < gi M (mh_co M t j c) 4 then 1 else if gi M (mh_co M t j c) 4 = gi M (mh_co M t r c) 4 ∧ j < r then 1 else 0 := rfl
      have hbj := hb j
      clear hb
      refine hK _ _ _ _ _ ?_
      (repeat' (((conv => whnf); first | refine And.intro (by first | omega | (simp only [true_and]; first | done | omega)) ?_ | (refine And.intro (fun _ => ?_) (fun _ => ?_) <;> first | (exfalso; omega) | skip) | intro _ | fail)))
      all_goals (try ((conv => whnf); (refine Exists.intro _ (Exists.intro _ (And.intro (cX4_cellAt hl tl (by omega) hc (at' j (by omega))) (And.intro ?_ (fun _ _ h => h.elim)))); rintro _ _ ⟨rfl, e⟩; have e2 := e.symm; clear e; subst e2); (repeat' (((conv => whnf); first | refine And.intro (by first | omega | (simp only [true_and]; first | done | omega)) ?_ | (refine And.intro (fun _ => ?_) (fun _ => ?_) <;> first | (exfalso; omega) | skip) | intro _ | fail)))))
      all_goals (try (conv => whnf))
      all_goals (refine ih (i + 1) _ _ (by omega) (by omega) ?_; rw [e, ← hk, e2]; (repeat' split) <;> omega)
  exact L (gi M t 0 - gi M t 2).toNat 0 0 _ (by omega) (by omega) rfl
