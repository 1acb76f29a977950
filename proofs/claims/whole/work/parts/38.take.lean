def mh_tk (N : mg_M) (b a : Nat) : mg_M := mg_put4 N b (min (gi N b 0) (gi N a 0)) (min (gi N b 1) (gi N a 1)) (max (gi N b 2) (gi N a 0 + gi N a 2 - 1)) (max (gi N b 3) (gi N a 1 + gi N a 3 - 1))
theorem mh_fx_p4 {N : mg_M} {b : Nat} {x y z w : Int} : mh_fx b N (mg_put4 N b x y z w) := mh_fx_tr (mh_fx_tr (mh_fx_tr mh_fx_si mh_fx_si) mh_fx_si) mh_fx_si
def mh_tc (t b : Nat) (M : mg_M) : Nat → mg_M
  | 0 => M
  | n + 1 => bif mh_me (mh_tc t b M n) (gr M (t + 3 + 1) n) b then mh_tk (mh_tc t b M n) b (gr M (t + 3 + 1) n) else mh_tc t b M n
theorem mh_tc_fx {t b n : Nat} {M : mg_M} : mh_fx b M (mh_tc t b M n) := by
  induction n with
  | zero => exact mh_fx_rfl
  | succ n ih =>
    show mh_fx b M (bif mh_me (mh_tc t b M n) (gr M (t + 3 + 1) n) b then mh_tk (mh_tc t b M n) b (gr M (t + 3 + 1) n) else mh_tc t b M n)
    cases mh_me (mh_tc t b M n) (gr M (t + 3 + 1) n) b with
    | false => exact ih
    | true => exact mh_fx_tr ih mh_fx_p4
set_option maxRecDepth 100000 in
theorem cX4_takeInCells {D : mg_D} {l : Launch} (hl : l.stackTraces = false) {M : mg_M} {t b : Nat} (ht : mg_tb M t) (hc : mg_cL M (t + 3)) (hs : mg_cS M (t + 3)) (hb : kd M b = 1) : mg_Mt D l 61 [.inr (.inl t), .inr (.inl b)] M (fun v N => v = none ∧ N = mh_tc t b M (gi M (t + 3) 0).toNat) mg_no := by
  refine mg_of2 hl ok_X4_takeInCells al_X4_takeInCells rfl (fun K hK => ?_)
  have g1 := ht.1.1
  have g4 := ht.1.2.2.2.1
  have c4 := hc.1
  have z := hc.2.2.2.2.2.2.1
  have nt : t ≠ b := fun e => by rw [e] at g1; omega
  have nc : t + 3 ≠ b := fun e => by rw [e] at c4; omega
  refine hK _ _ _ _ _ ?_
  (repeat' (((conv => whnf); first | refine And.intro (by first | omega | (simp only [Int.toNat_natCast, true_and]; first | done | omega)) ?_ | (refine And.intro (fun _ => ?_) (fun _ => ?_) <;> first | (exfalso; omega) | skip) | intro _ | fail)))
  (conv => whnf)
  have L : ∀ n i : Nat, ∀ j : Int, ∀ N : mg_M, gi M (t + 3) 0 = i + n → j = i → N = mh_tc t b M i → K 2 [(0, Sum.inr (Sum.inl t)), (1, Sum.inr (Sum.inl b)), (2, Sum.inl j)] [] N 0 := by
    intro n
    induction n with
    | zero =>
      intro i j N hm hj hN
      have f := @mh_tc_fx t b i M
      rw [← hN] at f
      have k1 : kd N t = 5 := by rw [f.1]; exact g1
      have k2 : gr N t 5 = t + 3 := by rw [f.2.2.1]; exact g4
      have k3 : gr N t 5 ≠ 0 := by omega
      have k4 : kd N (gr N t 5) = 4 := by rw [k2, f.1]; exact c4
      have k5 : gi N (gr N t 5) 0 = gi M (t + 3) 0 := by rw [k2]; exact f.2.2.2.2.2.2 (t + 3) 0 nc
      refine hK _ _ _ _ _ ?_
      (repeat' (((conv => whnf); first | refine And.intro (by first | omega | (simp only [Int.toNat_natCast, true_and]; first | done | omega)) ?_ | (refine And.intro (fun _ => ?_) (fun _ => ?_) <;> first | (exfalso; omega) | skip) | intro _ | fail)))
      (conv => whnf)
      first | refine And.intro rfl ?_ | skip
      rw [hN, show (gi M (t + 3) 0).toNat = i from by omega]
    | succ n ih =>
      intro i j N hm hj hN
      have f := @mh_tc_fx t b i M
      have e : mh_tc t b M (i + 1) = bif mh_me (mh_tc t b M i) (gr M (t + 3 + 1) i) b then mh_tk (mh_tc t b M i) b (gr M (t + 3 + 1) i) else mh_tc t b M i := rfl
      rw [← hN] at f e
      have k1 : kd N t = 5 := by rw [f.1]; exact g1
      have k2 : gr N t 5 = t + 3 := by rw [f.2.2.1]; exact g4
      have k3 : gr N t 5 ≠ 0 := by omega
      have k4 : kd N (gr N t 5) = 4 := by rw [k2, f.1]; exact c4
      have k5 : gi N (gr N t 5) 0 = gi M (t + 3) 0 := by rw [k2]; exact f.2.2.2.2.2.2 (t + 3) 0 nc
      have k6 : gi N (t + 3) 0 = gi M (t + 3) 0 := f.2.2.2.2.2.2 (t + 3) 0 nc
      have kb : kd N b = 1 := by rw [f.1]; exact hb
      have kc := mh_fx_cL f nc hc
      have s0 := hs i (by omega)
      have e0 : gr N (t + 3 + 1) i = gr M (t + 3 + 1) i := f.2.2.1 _ _
      have na : gr M (t + 3 + 1) i ≠ b := fun q => by have := s0.1; rw [q] at this; omega
      have s1 : mg_sm N (gr N (t + 3 + 1) i) := by rw [e0]; exact mh_fx_sm f na s0
      have s2 := s1.1
      subst hj
      refine hK _ _ _ _ _ ?_
      (repeat' (((conv => whnf); first | refine And.intro (by first | omega | (simp only [Int.toNat_natCast, true_and]; first | done | omega)) ?_ | (refine And.intro (fun _ => ?_) (fun _ => ?_) <;> first | (exfalso; omega) | skip) | intro _ | fail)))
      all_goals ((conv => whnf); skip)
      rw [k2]
      (refine Exists.intro _ (Exists.intro _ (And.intro (cX3_get hl kc (by omega)) (And.intro ?_ (fun _ _ h => h.elim)))); rintro _ _ ⟨rfl, e⟩; have e2 := e.symm; clear e; subst e2)
      (repeat' (((conv => whnf); first | refine And.intro (by first | omega | (simp only [Int.toNat_natCast, true_and]; first | done | omega)) ?_ | (refine And.intro (fun _ => ?_) (fun _ => ?_) <;> first | (exfalso; omega) | skip) | intro _ | fail)))
      all_goals (try ((conv => whnf); (refine Exists.intro _ (Exists.intro _ (And.intro (cX2_meet hl s1 kb) (And.intro ?_ (fun _ _ h => h.elim)))); rintro _ _ ⟨rfl, e⟩; have e2 := e.symm; clear e; subst e2); (repeat' (((conv => whnf); first | refine And.intro (by first | omega | (simp only [Int.toNat_natCast, true_and]; first | done | omega)) ?_ | (refine And.intro (fun _ => ?_) (fun _ => ?_) <;> first | (exfalso; omega) | skip) | intro _ | fail)))))
      · (conv => whnf)
        rename_i hp
        simp only [Int.toNat_natCast, e0] at hp
        refine ih (i + 1) _ _ (by omega) (by omega) ?_
        rw [e, mh_bi0 hp]
        rfl
      · rename_i hp
        simp only [Int.toNat_natCast, e0] at hp
        (conv => whnf)
        rw [k2]
        (refine Exists.intro _ (Exists.intro _ (And.intro (cX3_get hl kc (by omega)) (And.intro ?_ (fun _ _ h => h.elim)))); rintro _ _ ⟨rfl, e⟩; have e2 := e.symm; clear e; subst e2)
        (repeat' (((conv => whnf); first | refine And.intro (by first | omega | (simp only [Int.toNat_natCast, true_and]; first | done | omega)) ?_ | (refine And.intro (fun _ => ?_) (fun _ => ?_) <;> first | (exfalso; omega) | skip) | intro _ | fail)))
        (conv => whnf)
        (refine Exists.intro _ (Exists.intro _ (And.intro (cX0_takeIn hl kb s1) (And.intro ?_ (fun _ _ h => h.elim)))); rintro _ _ ⟨rfl, e⟩; have e2 := e.symm; clear e; subst e2)
        (repeat' (((conv => whnf); first | refine And.intro (by first | omega | (simp only [Int.toNat_natCast, true_and]; first | done | omega)) ?_ | (refine And.intro (fun _ => ?_) (fun _ => ?_) <;> first | (exfalso; omega) | skip) | intro _ | fail)))
        (conv => whnf)
        refine ih (i + 1) _ _ (by omega) (by omega) ?_
        rw [e, mh_bi1 hp]
        simp only [Int.toNat_natCast, e0, cond_true]
        rfl
  exact L (gi M (t + 3) 0).toNat 0 0 M (by omega) rfl rfl
