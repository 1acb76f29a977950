theorem cX4_movedRows {D : mg_D} {l : Launch} (hl : l.stackTraces = false) {M : mg_M} {t : Nat} (ht : mg_tb M t) : mg_Mt D l 58 [.inr (.inl t)] M (fun v N => v = some (.inl (mh_sum (fun i => if mh_pl M t i = i then (0 : Int) else 1) (gi M t 0).toNat)) ∧ N = M) mg_no := by
  refine mg_of2 hl ok_X4_movedRows al_X4_movedRows rfl (fun K hK => ?_)
  have g1 := ht.1.1
  have bb := ht.2.2
  refine hK _ _ _ _ _ ?_
  (repeat' (((conv => whnf); first | refine And.intro (by first | omega | (simp only [Int.toNat_natCast, true_and]; first | done | omega)) ?_ | (refine And.intro (fun _ => ?_) (fun _ => ?_) <;> first | (exfalso; omega) | skip) | intro _ | fail)))
  (conv => whnf)
  have L : ∀ n i : Nat, ∀ k j : Int, gi M t 0 = i + n → j = i → k = mh_sum (fun i => if mh_pl M t i = i then (0 : Int) else 1) i → K 4 [(0, Sum.inr (Sum.inl t)), (1, Sum.inl k), (2, Sum.inl j)] [] M 0 := by
    intro n
    induction n with
    | zero =>
      intro i k j hm hj hk
      refine hK _ _ _ _ _ ?_
      (repeat' (((conv => whnf); first | refine And.intro (by first | assumption | omega | (simp only [Int.toNat_natCast, true_and]; first | done | assumption | omega)) ?_ | (refine And.intro (fun _ => ?_) (fun _ => ?_) <;> first | (exfalso; omega) | skip) | intro _ | fail)))
      (conv => whnf)
      refine And.intro ?_ rfl
      rw [hk, show (gi M t 0).toNat = i from by omega]
    | succ n ih =>
      intro i k j hm hj hk
      have hc := mh_sum_le (f := fun i => if mh_pl M t i = i then (0 : Int) else 1) (b := 1) i (fun j _ => by show 0 ≤ (if mh_pl M t j = j then (0 : Int) else 1) ∧ (if mh_pl M t j = j then (0 : Int) else 1) ≤ 1; split <;> omega)
      have e : mh_sum (fun i => if mh_pl M t i = i then (0 : Int) else 1) (i + 1) = mh_sum (fun i => if mh_pl M t i = i then (0 : Int) else 1) i + if mh_pl M t i = i then (0 : Int) else 1 := rfl
      subst hj
      refine hK _ _ _ _ _ ?_
      (repeat' (((conv => whnf); first | refine And.intro (by first | omega | (simp only [Int.toNat_natCast, true_and]; first | done | omega)) ?_ | (refine And.intro (fun _ => ?_) (fun _ => ?_) <;> first | (exfalso; omega) | skip) | intro _ | fail)))
      all_goals (try ((conv => whnf); (refine Exists.intro _ (Exists.intro _ (And.intro (cX4_placeOf hl ht) (And.intro ?_ (fun _ _ h => h.elim)))); rintro _ _ ⟨rfl, e⟩; have e2 := e.symm; clear e; subst e2); (repeat' (((conv => whnf); first | refine And.intro (by first | omega | (simp only [Int.toNat_natCast, true_and]; first | done | omega)) ?_ | (refine And.intro (fun _ => ?_) (fun _ => ?_) <;> first | (exfalso; omega) | skip) | intro _ | fail)))))
      all_goals ((conv => whnf); refine ih (i + 1) _ _ (by omega) (by omega) ?_; rw [e]; (repeat' split) <;> omega)
  exact L (gi M t 0).toNat 0 0 0 (by omega) rfl rfl
def mh_co (M : mg_M) (t : Nat) (r c : Int) : Nat := gr M (t + 3 + 1) (mh_ow M t r c).toNat
theorem mh_tl_ow {M : mg_M} {t : Nat} {r c : Int} (h : mh_tl M t) (hr : 0 ≤ r ∧ r < gi M t 0) (hc : 0 ≤ c ∧ c < gi M t 1) (hb : mh_at M t r c ≠ -1) : ∃ i : Nat, (i : Int) < gi M (t + 3) 0 ∧ mh_cv M t i r c ∧ mh_ow M t r c = i := by
  cases h.2.2.2.2 r c (by omega) (by omega) (by omega) (by omega) with
  | inl w => exact (hb w).elim
  | inr w =>
    obtain ⟨i, hi, hv⟩ := w
    refine ⟨i, hi, hv, ?_⟩
    unfold mh_ow
    rw [if_pos (by omega)]
    exact h.2.2.2.1 i hi r c hv
theorem cX4_cellAt {D : mg_D} {l : Launch} (hl : l.stackTraces = false) {M : mg_M} {t : Nat} {r c : Int} (h : mh_tl M t) (hr : 0 ≤ r ∧ r < gi M t 0) (hc : 0 ≤ c ∧ c < gi M t 1) (hb : mh_at M t r c ≠ -1) : mg_Mt D l 45 [.inr (.inl t), .inl r, .inl c] M (fun v M' => v = some (.inr (.inl (mh_co M t r c))) ∧ M' = M) mg_no := by
  obtain ⟨i, hi, _, e⟩ := mh_tl_ow h hr hc hb
  exact cX4_cellOn hl h.1 h.2.1 (by omega)
