theorem mh_em_fr {M : mg_M} {c b n : Nat} : (∀ a, kd (mh_em c b M n) a = kd M a) ∧ (∀ a, ln (mh_em c b M n) a = ln M a) ∧ (∀ a k, gr (mh_em c b M n) a k = gr M a k) ∧ (∀ a k, k ≠ 4 → gi (mh_em c b M n) a k = gi M a k) ∧ nx (mh_em c b M n) = nx M ∧ (∀ a k, gl (mh_em c b M n) a k = gl M a k) ∧ (∀ a k, gd (mh_em c b M n) a k = gd M a k) := by
  induction n with
  | zero => exact ⟨fun _ => rfl, fun _ => rfl, fun _ _ => rfl, fun _ _ _ => rfl, rfl, fun _ _ => rfl, fun _ _ => rfl⟩
  | succ n ih =>
    obtain ⟨h1, h2, h3, h4, h5, h6, h7⟩ := ih
    have e : mh_em c b M (n + 1) = bif mh_in M (gr M (c + 1) n) b then si (mh_em c b M n) (gr M (c + 1) n) 4 0 else mh_em c b M n := rfl
    rw [e]
    cases mh_in M (gr M (c + 1) n) b with
    | false => exact ⟨h1, h2, h3, h4, h5, h6, h7⟩
    | true => exact ⟨h1, h2, h3, fun a k g => by rw [cond_true, gi_si, if_neg (fun q => g q.2)]; exact h4 a k g, h5, h6, h7⟩
theorem mh_fr_cL {M N : mg_M} {c : Nat} (h : mg_cL M c) (h1 : ∀ a, kd N a = kd M a) (h2 : ∀ a, ln N a = ln M a) (h3 : ∀ a k, gr N a k = gr M a k) (h4 : gi N c 0 = gi M c 0) : mg_cL N c := by
  unfold mg_cL at *
  simp only [h1, h2, h3, h4]
  exact h
theorem mh_fr_sm {M N : mg_M} {a : Nat} (h : mg_sm M a) (h1 : ∀ a, kd N a = kd M a) (h4 : ∀ a k, k ≠ 4 → gi N a k = gi M a k) : mg_sm N a := by
  unfold mg_sm at *
  rw [h1, h4 a 0 (by omega), h4 a 1 (by omega), h4 a 2 (by omega), h4 a 3 (by omega)]
  exact h
theorem mh_fr_in {M N : mg_M} {a b : Nat} (h4 : ∀ a k, k ≠ 4 → gi N a k = gi M a k) : mh_in N a b = mh_in M a b := by
  unfold mh_in
  rw [h4 a 0 (by omega), h4 a 1 (by omega), h4 a 2 (by omega), h4 a 3 (by omega), h4 b 0 (by omega), h4 b 1 (by omega), h4 b 2 (by omega), h4 b 3 (by omega)]
theorem cX3_emptyIn {D : mg_D} {l : Launch} (hl : l.stackTraces = false) {M : mg_M} {c b : Nat} (h : mg_cL M c) (hs : mg_cS M c) (hb : kd M b = 1) : mg_Mt D l 28 [.inr (.inl c), .inr (.inl b)] M (fun v M' => v = none ∧ M' = mh_em c b M (gi M c 0).toNat) mg_no := by
  refine mg_of2 hl ok_X3_emptyIn al_X3_emptyIn rfl (fun K hK => ?_)
  have g1 := h.1
  have g2 := h.2.2.2.2.2.2.1
  refine hK _ _ _ _ _ ?_
  (repeat' (first | rfl | ((conv => whnf); first | exact And.intro rfl rfl | refine And.intro (by first | assumption | omega | (simp only [kd_si, ln_si, gr_si, Int.toNat_natCast]; first | done | assumption | omega)) ?_ | (refine And.intro (fun _ => ?_) (fun _ => ?_) <;> first | (exfalso; omega) | skip) | exact rfl | intro _ | fail)))
  (conv => whnf)
  have L : ∀ n i : Nat, ∀ j : Int, ∀ N : mg_M, gi M c 0 = i + n → j = i → N = mh_em c b M i → K 2 [(0, Sum.inr (Sum.inl c)), (1, Sum.inr (Sum.inl b)), (2, Sum.inl j)] [] N 0 := by
    intro n
    induction n with
    | zero =>
      intro i j N hn hj hN
      subst hN
      obtain ⟨h1, h2, h3, h4, h5, h6, h7⟩ := @mh_em_fr M c b i
      have hkc : kd (mh_em c b M i) c = 4 := by rw [h1]; exact g1
      have hcs : gi (mh_em c b M i) c 0 = gi M c 0 := h4 c 0 (by omega)
      refine hK _ _ _ _ _ ?_
      (repeat' (first | rfl | ((conv => whnf); first | exact And.intro rfl rfl | refine And.intro (by first | assumption | omega | (simp only [kd_si, ln_si, gr_si, Int.toNat_natCast]; first | done | assumption | omega)) ?_ | (refine And.intro (fun _ => ?_) (fun _ => ?_) <;> first | (exfalso; omega) | skip) | exact rfl | intro _ | fail)))
      first | refine And.intro rfl ?_ | skip
      rw [show (gi M c 0).toNat = i from by omega]
    | succ n ih =>
      intro i j N hn hj hN
      subst hN
      obtain ⟨h1, h2, h3, h4, h5, h6, h7⟩ := @mh_em_fr M c b i
      have hc := mh_fr_cL h h1 h2 h3 (h4 c 0 (by omega))
      have hkc := hc.1
      have hcs : gi (mh_em c b M i) c 0 = gi M c 0 := h4 c 0 (by omega)
      have hm := hs i (by omega)
      have hm2 := mh_fr_sm hm h1 h4
      have e0 : gr (mh_em c b M i) (c + 1) i = gr M (c + 1) i := h3 _ _
      have hk3 : kd (mh_em c b M i) (gr M (c + 1) i) = 3 := hm2.1
      have e : mh_em c b M (i + 1) = bif mh_in M (gr M (c + 1) i) b then si (mh_em c b M i) (gr M (c + 1) i) 4 0 else mh_em c b M i := rfl
      have hin : mh_in (mh_em c b M i) (gr M (c + 1) i) b = mh_in M (gr M (c + 1) i) b := mh_fr_in h4
      subst hj
      rw [← e0] at hm2 hk3
      refine hK _ _ _ _ _ ?_
      (repeat' (first | rfl | ((conv => whnf); first | exact And.intro rfl rfl | refine And.intro (by first | assumption | omega | (simp only [kd_si, ln_si, gr_si, Int.toNat_natCast]; first | done | assumption | omega)) ?_ | (refine And.intro (fun _ => ?_) (fun _ => ?_) <;> first | (exfalso; omega) | skip) | exact rfl | intro _ | fail)))
      all_goals (try ((conv => whnf); (refine Exists.intro _ (Exists.intro _ (And.intro (cX3_get hl hc (by omega)) (And.intro ?_ (fun _ _ h => h.elim)))); rintro _ _ ⟨rfl, e⟩; have e2 := e.symm; clear e; subst e2); (repeat' (first | rfl | ((conv => whnf); first | exact And.intro rfl rfl | refine And.intro (by first | assumption | omega | (simp only [kd_si, ln_si, gr_si, Int.toNat_natCast]; first | done | assumption | omega)) ?_ | (refine And.intro (fun _ => ?_) (fun _ => ?_) <;> first | (exfalso; omega) | skip) | exact rfl | intro _ | fail)))))
      all_goals (try ((conv => whnf); (refine Exists.intro _ (Exists.intro _ (And.intro (cX2_within hl hm2 (by rw [h1]; exact hb)) (And.intro ?_ (fun _ _ h => h.elim)))); rintro _ _ ⟨rfl, e⟩; have e2 := e.symm; clear e; subst e2); (repeat' (first | rfl | ((conv => whnf); first | exact And.intro rfl rfl | refine And.intro (by first | assumption | omega | (simp only [kd_si, ln_si, gr_si, Int.toNat_natCast]; first | done | assumption | omega)) ?_ | (refine And.intro (fun _ => ?_) (fun _ => ?_) <;> first | (exfalso; omega) | skip) | exact rfl | intro _ | fail)))))
      all_goals (try ((conv => whnf); (refine Exists.intro _ (Exists.intro _ (And.intro (cX3_get hl hc (by omega)) (And.intro ?_ (fun _ _ h => h.elim)))); rintro _ _ ⟨rfl, e⟩; have e2 := e.symm; clear e; subst e2); (repeat' (first | rfl | ((conv => whnf); first | exact And.intro rfl rfl | refine And.intro (by first | assumption | omega | (simp only [kd_si, ln_si, gr_si, Int.toNat_natCast]; first | done | assumption | omega)) ?_ | (refine And.intro (fun _ => ?_) (fun _ => ?_) <;> first | (exfalso; omega) | skip) | exact rfl | intro _ | fail)))))
      all_goals ((conv => whnf); rename_i hp; simp only [Int.toNat_natCast, e0, hin] at hp; refine ih (i + 1) _ _ (by omega) (by omega) ?_; rw [e])
      · rw [mh_bi0 hp]; rfl
      · rw [mh_bi1 hp]; simp only [Int.toNat_natCast, e0, cond_true]
  exact L (gi M c 0).toNat 0 0 _ (by omega) rfl rfl
