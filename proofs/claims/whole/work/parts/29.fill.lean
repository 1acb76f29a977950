def mh_fi (a : Nat) (v : Int) (M : mg_M) : Nat → mg_M
  | 0 => M
  | n + 1 => si (mh_fi a v M n) a n v
theorem mh_fi_fx {a n : Nat} {v : Int} {M : mg_M} : mh_fx a M (mh_fi a v M n) := by
  induction n with
  | zero => exact mh_fx_rfl
  | succ n ih => exact mh_fx_tr ih mh_fx_si
theorem mh_fi_at {a n k : Nat} {v : Int} {M : mg_M} : gi (mh_fi a v M n) a k = if k < n then v else gi M a k := by
  induction n with
  | zero => rfl
  | succ n ih =>
    show gi (si (mh_fi a v M n) a n v) a k = _
    rw [gi_si]
    (repeat' split) <;> first | rfl | omega | (rw [ih]; split <;> first | rfl | omega)
theorem cJ7_fill {D : mg_D} {l : Launch} (hl : l.stackTraces = false) {M : mg_M} {a : Nat} {v : Int} (h : kd M a = 8) (hn : ln M a < 1000) : mg_Mt D l 70 [.inr (.inl a), .inl v] M (fun w M' => w = none ∧ M' = mh_fi a v M (ln M a)) mg_no := by
  refine mg_of2 hl ok_J7_fill_53178 al_J7_fill_53178 rfl (fun K hK => ?_)
  refine hK _ _ _ _ _ ?_
  (repeat' (first | rfl | ((conv => whnf); first | exact And.intro rfl rfl | refine And.intro (by first | assumption | omega | (simp only [Int.toNat_natCast, true_and]; first | done | assumption | omega)) ?_ | (refine And.intro (fun _ => ?_) (fun _ => ?_) <;> first | (exfalso; omega) | skip) | exact rfl | intro _ | fail)))
  (conv => whnf)
  have L : ∀ n i : Nat, ∀ j : Int, ∀ N : mg_M, ln M a = i + n → j = i → N = mh_fi a v M i → K 5 [(0, Sum.inr (Sum.inl a)), (1, Sum.inl v), (2, Sum.inl j), (3, Sum.inl (ln M a : Int))] [] N 0 := by
    intro n
    induction n with
    | zero =>
      intro i j N hm hj hN
      refine hK _ _ _ _ _ ?_
      (repeat' (((conv => whnf); first | refine And.intro (by first | assumption | omega | (simp only [Int.toNat_natCast, true_and]; first | done | assumption | omega)) ?_ | (refine And.intro (fun _ => ?_) (fun _ => ?_) <;> first | (exfalso; omega) | skip) | intro _ | fail)))
      (conv => whnf)
      rw [hm]
      first | exact hN | exact And.intro rfl hN
    | succ n ih =>
      intro i j N hm hj hN
      subst hN
      subst hj
      have f := @mh_fi_fx a i v M
      have k1 : kd (mh_fi a v M i) a = 8 := by rw [f.1]; exact h
      have k2 : ln (mh_fi a v M i) a = ln M a := f.2.1 a
      refine hK _ _ _ _ _ ?_
      (repeat' (((conv => whnf); first | refine And.intro (by first | assumption | omega | (simp only [Int.toNat_natCast, true_and]; first | done | assumption | omega)) ?_ | (refine And.intro (fun _ => ?_) (fun _ => ?_) <;> first | (exfalso; omega) | skip) | intro _ | fail)))
      (conv => whnf)
      exact ih (i + 1) _ _ (by omega) (by omega) rfl
  exact L (ln M a) 0 0 M (by omega) rfl rfl
theorem cX4_insertSize {D : mg_D} {l : Launch} (hl : l.stackTraces = false) {M : mg_M} {a i : Nat} {v x : Int} (hx : x = i) (h : kd M a = 8) (hn : ln M a < 1000) (hi : i < ln M a) : mg_Mt D l 52 [.inr (.inl a), .inl x, .inl v] M (fun w M' => w = none ∧ mh_fx a M M' ∧ ∀ k, gi M' a k = if k = i then v else if i < k ∧ k < ln M a then gi M a (k - 1) else gi M a k) mg_no := by
  subst hx
  refine mg_of2 hl ok_X4_insertSize al_X4_insertSize rfl (fun K hK => ?_)
  refine hK _ _ _ _ _ ?_
  (repeat' (first | rfl | ((conv => whnf); first | exact And.intro rfl rfl | refine And.intro (by first | assumption | omega | (simp only [Int.toNat_natCast, true_and]; first | done | assumption | omega)) ?_ | (refine And.intro (fun _ => ?_) (fun _ => ?_) <;> first | (exfalso; omega) | skip) | exact rfl | intro _ | fail)))
  (conv => whnf)
  have L : ∀ n : Nat, ∀ j : Int, ∀ N : mg_M, i + n < ln M a → j = i + n → mh_fx a M N → (∀ k, gi N a k = if i + n < k ∧ k < ln M a then gi M a (k - 1) else gi M a k) → K 5 [(0, Sum.inr (Sum.inl a)), (1, Sum.inl (i : Int)), (2, Sum.inl v), (3, Sum.inl j)] [] N 0 := by
    intro n
    induction n with
    | zero =>
      intro j N hm hj f hN
      have k1 : kd N a = 8 := by rw [f.1]; exact h
      have k2 : ln N a = ln M a := f.2.1 a
      refine hK _ _ _ _ _ ?_
      (repeat' (((conv => whnf); first | refine And.intro (by first | assumption | omega | (simp only [Int.toNat_natCast, true_and]; first | done | assumption | omega)) ?_ | (refine And.intro (fun _ => ?_) (fun _ => ?_) <;> first | (exfalso; omega) | skip) | intro _ | fail)))
      (conv => whnf)
      first | refine And.intro rfl (And.intro (mh_fx_tr f mh_fx_si) ?_) | refine And.intro (mh_fx_tr f mh_fx_si) ?_ | skip
      first | intro k | skip
      rw [gi_si, hN]
      simp only [Int.toNat_natCast, true_and]
      (repeat' split) <;> first | rfl | omega
    | succ n ih =>
      intro j N hm hj f hN
      have k1 : kd N a = 8 := by rw [f.1]; exact h
      have k2 : ln N a = ln M a := f.2.1 a
      refine hK _ _ _ _ _ ?_
      (repeat' (((conv => whnf); first | refine And.intro (by first | assumption | omega | (simp only [Int.toNat_natCast, true_and]; first | done | assumption | omega)) ?_ | (refine And.intro (fun _ => ?_) (fun _ => ?_) <;> first | (exfalso; omega) | skip) | intro _ | fail)))
      (conv => whnf)
      refine ih _ _ (by omega) ?_ (mh_fx_tr f mh_fx_si) ?_
      · omega
      · intro k
        have e1 : j.toNat = i + n + 1 := by omega
        have e2 : (j - 1).toNat = i + n := by omega
        have e3 : (j + -1).toNat = i + n := by omega
        rw [gi_si]
        simp only [e1, e2, e3, hN, true_and]
        (repeat' split) <;> first | rfl | omega | (congr 1; omega)
  exact L (ln M a - 1 - i) _ M (by omega) (by omega) mh_fx_rfl (fun k => by rw [if_neg (by omega)])
theorem cX4_removeSize {D : mg_D} {l : Launch} (hl : l.stackTraces = false) {M : mg_M} {a i : Nat} {x : Int} (hx : x = i) (h : kd M a = 8) (hn : ln M a < 1000) (hi : i < ln M a) : mg_Mt D l 53 [.inr (.inl a), .inl x] M (fun w M' => w = none ∧ mh_fx a M M' ∧ ∀ k, gi M' a k = if i ≤ k ∧ k + 1 < ln M a then gi M a (k + 1) else gi M a k) mg_no := by
  subst hx
  refine mg_of2 hl ok_X4_removeSize al_X4_removeSize rfl (fun K hK => ?_)
  refine hK _ _ _ _ _ ?_
  (repeat' (first | rfl | ((conv => whnf); first | exact And.intro rfl rfl | refine And.intro (by first | assumption | omega | (simp only [Int.toNat_natCast, true_and]; first | done | assumption | omega)) ?_ | (refine And.intro (fun _ => ?_) (fun _ => ?_) <;> first | (exfalso; omega) | skip) | exact rfl | intro _ | fail)))
  (conv => whnf)
  have L : ∀ n p : Nat, ∀ j : Int, ∀ N : mg_M, i ≤ p → p + n + 1 = ln M a → j = p → mh_fx a M N → (∀ k, gi N a k = if i ≤ k ∧ k < p then gi M a (k + 1) else gi M a k) → K 6 [(0, Sum.inr (Sum.inl a)), (2, Sum.inl j)] [] N 0 := by
    intro n
    induction n with
    | zero =>
      intro p j N hp hm hj f hN
      have k1 : kd N a = 8 := by rw [f.1]; exact h
      have k2 : ln N a = ln M a := f.2.1 a
      refine hK _ _ _ _ _ ?_
      (repeat' (((conv => whnf); first | refine And.intro (by first | assumption | omega | (simp only [Int.toNat_natCast, true_and]; first | done | assumption | omega)) ?_ | (refine And.intro (fun _ => ?_) (fun _ => ?_) <;> first | (exfalso; omega) | skip) | intro _ | fail)))
      (conv => whnf)
      first | refine And.intro rfl (And.intro f ?_) | refine And.intro f ?_ | skip
      first | intro k | skip
      rw [hN]
      (repeat' split) <;> first | rfl | omega
    | succ n ih =>
      intro p j N hp hm hj f hN
      have k1 : kd N a = 8 := by rw [f.1]; exact h
      have k2 : ln N a = ln M a := f.2.1 a
      refine hK _ _ _ _ _ ?_
      (repeat' (((conv => whnf); first | refine And.intro (by first | assumption | omega | (simp only [Int.toNat_natCast, true_and]; first | done | assumption | omega)) ?_ | (refine And.intro (fun _ => ?_) (fun _ => ?_) <;> first | (exfalso; omega) | skip) | intro _ | fail)))
      (conv => whnf)
      refine ih (p + 1) _ _ (by omega) (by omega) (by omega) (mh_fx_tr f mh_fx_si) ?_
      intro k
      have e1 : j.toNat = p := by omega
      have e2 : (j + 1).toNat = p + 1 := by omega
      rw [gi_si]
      simp only [e1, e2, hN, true_and]
      (repeat' split) <;> first | rfl | omega | (congr 1; omega)
  exact L (ln M a - 1 - i) i _ M (by omega) (by omega) (by omega) mh_fx_rfl (fun k => by rw [if_neg (by omega)])
