def mh_pm (r o : Int) (i : Nat) : Int := if (i : Int) = r then o else if r < i ∧ (i : Int) ≤ o then (i : Int) - 1 else if (i : Int) < r ∧ o ≤ i then (i : Int) + 1 else i
set_option maxRecDepth 100000 in
theorem cX4_planMove {D : mg_D} {l : Launch} (hl : l.stackTraces = false) {M : mg_M} {t : Nat} {r o : Int} (ht : mg_tb M t) : mg_Mt D l 54 [.inr (.inl t), .inl r, .inl o] M (fun v N => v = none ∧ mh_fx (t + 127) M N ∧ ∀ i, i < 12 → gi N (t + 127) i = mh_pm r o i) mg_no := by
  refine mg_of2 hl ok_X4_planMove al_X4_planMove rfl (fun K hK => ?_)
  have g1 := ht.1.1
  have g6 := ht.1.2.2.2.2.2.1
  have b7 := ht.2.1.2.2.2.1
  refine hK _ _ _ _ _ ?_
  (repeat' (((conv => whnf); first | refine And.intro (by first | omega | (simp only [Int.toNat_natCast, true_and]; first | done | omega)) ?_ | (refine And.intro (fun _ => ?_) (fun _ => ?_) <;> first | (exfalso; omega) | skip) | intro _ | fail)))
  (conv => whnf)
  have L : ∀ n i : Nat, ∀ j : Int, ∀ N : mg_M, i + n = 12 → j = i → mh_fx (t + 127) M N → (∀ k, k < i → gi N (t + 127) k = mh_pm r o k) → K 2 [(0, Sum.inr (Sum.inl t)), (1, Sum.inl r), (2, Sum.inl o), (3, Sum.inl j)] [] N 0 := by
    intro n
    induction n with
    | zero =>
      intro i j N hm hj f hv
      refine hK _ _ _ _ _ ?_
      (repeat' (((conv => whnf); first | refine And.intro (by first | assumption | omega | (simp only [Int.toNat_natCast, true_and]; first | done | assumption | omega)) ?_ | (refine And.intro (fun _ => ?_) (fun _ => ?_) <;> first | (exfalso; omega) | skip) | intro _ | fail)))
      all_goals ((conv => whnf); skip)
      first | exact hv _ (by omega) | skip
    | succ n ih =>
      intro i j N hm hj f hv
      have k1 : kd N t = 5 := by rw [f.1]; exact g1
      have k2 : gr N t 7 = t + 127 := by rw [f.2.2.1]; exact g6
      have k3 : gr N t 7 ≠ 0 := by omega
      have k4 : kd N (gr N t 7) = 8 := by rw [k2, f.1]; exact b7.1
      have k5 : ln N (gr N t 7) = 12 := by rw [k2, f.2.1]; exact b7.2
      subst hj
      refine hK _ _ _ _ _ ?_
      (repeat' (((conv => whnf); first | refine And.intro (by first | omega | (simp only [Int.toNat_natCast, true_and]; first | done | omega)) ?_ | (refine And.intro (fun _ => ?_) (fun _ => ?_) <;> first | (exfalso; omega) | skip) | intro _ | fail)))
      all_goals ((conv => whnf); rw [k2]; refine ih (i + 1) _ _ (by omega) (by omega) (mh_fx_tr f mh_fx_si) ?_; intro k hk; rw [gi_si]; simp only [Int.toNat_natCast, true_and]; by_cases e : k = i)
      all_goals (first | (rw [if_neg e]; exact hv k (by omega)) | (rw [if_pos e, e]; unfold mh_pm; (repeat' split) <;> omega))
  exact L 12 0 0 M (by omega) rfl mh_fx_rfl (fun k hk => by omega)
