def mh_rm (M : mg_M) (c i : Nat) : mg_M := sr (sr (si M c 0 (gi M c 0 - 1)) (c + 1) i (gr M (c + 1) (gi M c 0 - 1).toNat)) (c + 1) (gi M c 0 - 1).toNat (gr M (c + 1) i)
theorem mh_rm_gr {M : mg_M} {c i a k : Nat} : gr (mh_rm M c i) a k = if a = c + 1 ∧ k = (gi M c 0 - 1).toNat then gr M (c + 1) i else if a = c + 1 ∧ k = i then gr M (c + 1) (gi M c 0 - 1).toNat else gr M a k := rfl
theorem mh_rm_gi {M : mg_M} {c i a k : Nat} : gi (mh_rm M c i) a k = if a = c ∧ k = 0 then gi M c 0 - 1 else gi M a k := rfl
theorem mh_rm_kd {M : mg_M} {c i a : Nat} : kd (mh_rm M c i) a = kd M a := rfl
theorem mh_rm_ln {M : mg_M} {c i a : Nat} : ln (mh_rm M c i) a = ln M a := rfl
theorem mh_rm_nx {M : mg_M} {c i : Nat} : nx (mh_rm M c i) = nx M := rfl
theorem mh_rm_sw {M : mg_M} {c i k : Nat} (hi : (i : Int) < gi M c 0) (hm : gi M c 0 ≤ 120) (hk : k < 120) : ∃ j, j < 120 ∧ gr (mh_rm M c i) (c + 1) k = gr M (c + 1) j ∧ (j = if k = (gi M c 0 - 1).toNat then i else if k = i then (gi M c 0 - 1).toNat else k) := by
  refine ⟨_, ?_, ?_, rfl⟩
  · split
    · omega
    · split <;> omega
  · rw [mh_rm_gr]
    simp only [true_and]
    split
    · rfl
    · split <;> rfl
theorem mh_rm_cL {M : mg_M} {c i : Nat} (h : mg_cL M c) (hi : (i : Int) < gi M c 0) : mg_cL (mh_rm M c i) c := by
  obtain ⟨g1, g2, g3, g4, g5, g6, g7, g8, g9⟩ := h
  have n1 : ¬ (c = c + 1) := by omega
  refine ⟨g1, ?_, ?_, g4, g5, g6, ?_, ?_, ?_⟩
  · rw [mh_rm_gr, if_neg (fun q => n1 q.1), if_neg (fun q => n1 q.1)]; exact g2
  · rw [mh_rm_gr, if_neg (fun q => n1 q.1), if_neg (fun q => n1 q.1)]; exact g3
  · rw [mh_rm_gi, if_pos ⟨rfl, rfl⟩]; omega
  · intro k hk
    obtain ⟨j, hj, e, _⟩ := mh_rm_sw hi g7.2 hk
    rw [e]
    exact g8 j hj
  · intro k m hk hm e
    obtain ⟨j, hj, e1, q1⟩ := mh_rm_sw hi g7.2 hk
    obtain ⟨j2, hj2, e2, q2⟩ := mh_rm_sw hi g7.2 hm
    rw [e1, e2] at e
    have := g9 _ _ hj hj2 e
    subst this
    rw [q1] at q2
    (repeat' split at q2) <;> omega
theorem mh_rm_cS {M : mg_M} {c i : Nat} (h : mg_cL M c) (hs : mg_cS M c) (hi : (i : Int) < gi M c 0) : mg_cS (mh_rm M c i) c := by
  intro k hk
  have g7 := h.2.2.2.2.2.2.1
  have g8 := h.2.2.2.2.2.2.2.1
  rw [mh_rm_gi, if_pos ⟨rfl, rfl⟩] at hk
  obtain ⟨j, hj, e, q⟩ := mh_rm_sw hi g7.2 (show k < 120 by omega)
  rw [e]
  have hj2 : (j : Int) < gi M c 0 := by
    rw [q]
    split
    · omega
    · split <;> omega
  have hm := hs j hj2
  have ne : gr M (c + 1) j ≠ c := by have := g8 j hj; omega
  unfold mg_sm at *
  simpa only [mh_rm_kd, mh_rm_gi, ne, false_and, if_false] using hm
theorem cX3_rm {D : mg_D} {l : Launch} (hl : l.stackTraces = false) {M : mg_M} {c : Nat} {i : Nat} {j : Int} (hj : j = i) (h : mg_cL M c) (hi : (i : Int) < gi M c 0) : mg_Mt D l 21 [.inr (.inl c), .inl j] M (fun v M' => v = none ∧ M' = mh_rm M c i) mg_no := by
  subst hj
  exact cX3_remove hl h ⟨by omega, hi⟩
def mh_ri (c b : Nat) : Nat → mg_M → mg_M
  | 0, M => M
  | n + 1, M => mh_ri c b n (bif mh_in M (gr M (c + 1) n) b then mh_rm M c n else M)
theorem cX3_removeIn {D : mg_D} {l : Launch} (hl : l.stackTraces = false) {M : mg_M} {c b : Nat} (h : mg_cL M c) (hs : mg_cS M c) (hb : kd M b = 1) : mg_Mt D l 22 [.inr (.inl c), .inr (.inl b)] M (fun v M' => v = none ∧ M' = mh_ri c b (gi M c 0).toNat M) mg_no := by
  refine mg_of2 hl ok_X3_removeIn al_X3_removeIn rfl (fun K hK => ?_)
  have g1 := h.1
  have g2 := h.2.2.2.2.2.2.1
  refine hK _ _ _ _ _ ?_
  (repeat' (first | rfl | ((conv => whnf); first | exact And.intro rfl rfl | refine And.intro (by first | assumption | omega | (simp only [Int.toNat_natCast]; first | done | assumption | omega)) ?_ | (refine And.intro (fun _ => ?_) (fun _ => ?_) <;> first | (exfalso; omega) | skip) | exact rfl | intro _ | fail)))
  (conv => whnf)
  have L : ∀ n : Nat, ∀ j : Int, ∀ N : mg_M, mg_cL N c → mg_cS N c → kd N b = 1 → (n : Int) ≤ gi N c 0 → j = n - 1 → mh_ri c b n N = mh_ri c b (gi M c 0).toNat M → K 7 [(0, Sum.inr (Sum.inl c)), (1, Sum.inr (Sum.inl b)), (2, Sum.inl j)] [] N 0 := by
    intro n
    induction n with
    | zero =>
      intro j N k1 k2 k3 k4 k5 k6
      refine hK _ _ _ _ _ ?_
      (repeat' (first | rfl | ((conv => whnf); first | exact And.intro rfl rfl | refine And.intro (by first | assumption | omega | (simp only [Int.toNat_natCast]; first | done | assumption | omega)) ?_ | (refine And.intro (fun _ => ?_) (fun _ => ?_) <;> first | (exfalso; omega) | skip) | exact rfl | intro _ | fail)))
      first | refine And.intro rfl ?_ | skip
      exact k6
    | succ n ih =>
      intro j N k1 k2 k3 k4 k5 k6
      have hj : j = n := by omega
      clear k5
      subst hj
      have hm := k2 n (by omega)
      have hk3 := hm.1
      have g3 := k1.2.2.2.2.2.2.1
      have k0 := k1.1
      refine hK _ _ _ _ _ ?_
      (repeat' (first | rfl | ((conv => whnf); first | exact And.intro rfl rfl | refine And.intro (by first | assumption | omega | (simp only [Int.toNat_natCast]; first | done | assumption | omega)) ?_ | (refine And.intro (fun _ => ?_) (fun _ => ?_) <;> first | (exfalso; omega) | skip) | exact rfl | intro _ | fail)))
      all_goals (try ((conv => whnf); (refine Exists.intro _ (Exists.intro _ (And.intro (cX3_get hl k1 (by omega)) (And.intro ?_ (fun _ _ h => h.elim)))); rintro _ _ ⟨rfl, e⟩; have e2 := e.symm; clear e; subst e2); (repeat' (first | rfl | ((conv => whnf); first | exact And.intro rfl rfl | refine And.intro (by first | assumption | omega | (simp only [Int.toNat_natCast]; first | done | assumption | omega)) ?_ | (refine And.intro (fun _ => ?_) (fun _ => ?_) <;> first | (exfalso; omega) | skip) | exact rfl | intro _ | fail)))))
      all_goals (try ((conv => whnf); (refine Exists.intro _ (Exists.intro _ (And.intro (cX2_within hl hm k3) (And.intro ?_ (fun _ _ h => h.elim)))); rintro _ _ ⟨rfl, e⟩; have e2 := e.symm; clear e; subst e2); (repeat' (first | rfl | ((conv => whnf); first | exact And.intro rfl rfl | refine And.intro (by first | assumption | omega | (simp only [Int.toNat_natCast]; first | done | assumption | omega)) ?_ | (refine And.intro (fun _ => ?_) (fun _ => ?_) <;> first | (exfalso; omega) | skip) | exact rfl | intro _ | fail)))))
      all_goals (try ((conv => whnf); (refine Exists.intro _ (Exists.intro _ (And.intro (cX3_rm hl rfl k1 (by omega)) (And.intro ?_ (fun _ _ h => h.elim)))); rintro _ _ ⟨rfl, e⟩; have e2 := e.symm; clear e; subst e2); (repeat' (first | rfl | ((conv => whnf); first | exact And.intro rfl rfl | refine And.intro (by first | assumption | omega | (simp only [Int.toNat_natCast]; first | done | assumption | omega)) ?_ | (refine And.intro (fun _ => ?_) (fun _ => ?_) <;> first | (exfalso; omega) | skip) | exact rfl | intro _ | fail)))))
      all_goals ((conv => whnf); rename_i hp; simp only [Int.toNat_natCast] at hp)
      · refine ih _ _ k1 k2 k3 (by omega) (by omega) ?_
        rw [← k6]
        show mh_ri c b n N = mh_ri c b n (bif mh_in N (gr N (c + 1) n) b then mh_rm N c n else N)
        rw [mh_bi0 hp]; rfl
      · refine ih _ _ (mh_rm_cL k1 (by omega)) (mh_rm_cS k1 k2 (by omega)) k3 ?_ (by omega) ?_
        · rw [mh_rm_gi, if_pos ⟨rfl, rfl⟩]; omega
        · rw [← k6]
          show _ = mh_ri c b n (bif mh_in N (gr N (c + 1) n) b then mh_rm N c n else N)
          rw [mh_bi1 hp]; rfl
  exact L (gi M c 0).toNat _ M h hs hb (by omega) (by omega) rfl
