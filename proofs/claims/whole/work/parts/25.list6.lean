theorem mh_p6_ne {M : mg_M} {a b k : Nat} {t c h w x y : Int} (n : b ≠ a) : gi (mg_put6 M a t c h w x y) b k = gi M b k := by
  unfold mg_put6
  simp only [gi_si, n, false_and, if_false]
def mh_bc (c d : Nat) (M : mg_M) : Nat → mg_M
  | 0 => si M c 0 (gi M d 0)
  | n + 1 => mg_put6 (mh_bc c d M n) (gr M (c + 1) n) (gi M (gr M (d + 1) n) 0) (gi M (gr M (d + 1) n) 1) (gi M (gr M (d + 1) n) 2) (gi M (gr M (d + 1) n) 3) (gi M (gr M (d + 1) n) 4) (gi M (gr M (d + 1) n) 5)
theorem mh_bc_fr {M : mg_M} {c d n : Nat} (h : mg_cL M c) (hn : n ≤ 120) : (∀ a, kd (mh_bc c d M n) a = kd M a) ∧ (∀ a, ln (mh_bc c d M n) a = ln M a) ∧ (∀ a k, gr (mh_bc c d M n) a k = gr M a k) ∧ (∀ a k, a ≠ c → (a < c + 3 ∨ c + 123 ≤ a) → gi (mh_bc c d M n) a k = gi M a k) ∧ nx (mh_bc c d M n) = nx M ∧ (∀ a k, gl (mh_bc c d M n) a k = gl M a k) ∧ (∀ a k, gd (mh_bc c d M n) a k = gd M a k) ∧ (∀ k, gi (mh_bc c d M n) c k = if k = 0 then gi M d 0 else gi M c k) := by
  have g8 := h.2.2.2.2.2.2.2.1
  induction n with
  | zero =>
    refine ⟨fun _ => rfl, fun _ => rfl, fun _ _ => rfl, fun a k q _ => ?_, rfl, fun _ _ => rfl, fun _ _ => rfl, fun k => ?_⟩
    · show gi (si M c 0 (gi M d 0)) a k = _
      rw [gi_si, if_neg (fun e => q e.1)]
    · show gi (si M c 0 (gi M d 0)) c k = _
      rw [gi_si]
      simp only [true_and]
  | succ n ih =>
    obtain ⟨h1, h2, h3, h4, h5, h6, h7, h9⟩ := ih (by omega)
    have g := g8 n (by omega)
    refine ⟨h1, h2, h3, fun a k q q2 => ?_, h5, h6, h7, fun k => ?_⟩
    · show gi (mg_put6 (mh_bc c d M n) _ _ _ _ _ _ _) a k = _
      rw [mh_p6_ne (by omega)]
      exact h4 a k q q2
    · show gi (mg_put6 (mh_bc c d M n) _ _ _ _ _ _ _) c k = _
      rw [mh_p6_ne (by omega)]
      exact h9 k
theorem cX3_become {D : mg_D} {l : Launch} (hl : l.stackTraces = false) {M : mg_M} {c d : Nat} (h : mg_cL M c) (h' : mg_cL M d) (hd : c + 123 ≤ d ∨ d + 123 ≤ c) : mg_Mt D l 24 [.inr (.inl c), .inr (.inl d)] M (fun v M' => v = none ∧ M' = mh_bc c d M (gi M d 0).toNat) mg_no := by
  refine mg_of2 hl ok_X3_become al_X3_become rfl (fun K hK => ?_)
  have g1 := h.1
  have g1' := h'.1
  have g2 := h.2.2.2.2.2.2.1
  have g2' := h'.2.2.2.2.2.2.1
  have g8 := h.2.2.2.2.2.2.2.1
  have g8' := h'.2.2.2.2.2.2.2.1
  refine hK _ _ _ _ _ ?_
  (repeat' (first | rfl | ((conv => whnf); first | exact And.intro rfl rfl | refine And.intro (by first | assumption | omega | (simp only [Int.toNat_natCast]; first | done | assumption | omega)) ?_ | (refine And.intro (fun _ => ?_) (fun _ => ?_) <;> first | (exfalso; omega) | skip) | exact rfl | intro _ | fail)))
  (conv => whnf)
  have L : ∀ n i : Nat, ∀ j : Int, ∀ N : mg_M, gi M d 0 = i + n → j = i → N = mh_bc c d M i → K 10 [(0, Sum.inr (Sum.inl c)), (1, Sum.inr (Sum.inl d)), (2, Sum.inl j)] [] N 0 := by
    intro n
    induction n with
    | zero =>
      intro i j N hn hj hN
      subst hN
      obtain ⟨h1, h2, h3, h4, h5, h6, h7, h9⟩ := @mh_bc_fr M c d i h (by omega)
      have hkc : kd (mh_bc c d M i) c = 4 := by rw [h1]; exact g1
      have hcs : gi (mh_bc c d M i) c 0 = gi M d 0 := h9 0
      refine hK _ _ _ _ _ ?_
      (repeat' (first | rfl | ((conv => whnf); first | exact And.intro rfl rfl | refine And.intro (by first | assumption | omega | (simp only [Int.toNat_natCast]; first | done | assumption | omega)) ?_ | (refine And.intro (fun _ => ?_) (fun _ => ?_) <;> first | (exfalso; omega) | skip) | exact rfl | intro _ | fail)))
      first | refine And.intro rfl ?_ | skip
      rw [show (gi M d 0).toNat = i from by omega]
    | succ n ih =>
      intro i j N hn hj hN
      subst hN
      obtain ⟨h1, h2, h3, h4, h5, h6, h7, h9⟩ := @mh_bc_fr M c d i h (by omega)
      have hcs : gi (mh_bc c d M i) c 0 = gi M d 0 := h9 0
      have hds : gi (mh_bc c d M i) d 0 = gi M d 0 := h4 d 0 (by omega) (by omega)
      have hc : mg_cL (mh_bc c d M i) c := by
        have := mh_bc_fr h (d := d) (show i ≤ 120 by omega)
        obtain ⟨w1, w2, w3, w4, w5, w6, w7, w8, w9⟩ := h
        unfold mg_cL
        simp only [h1, h2, h3, hcs]
        exact ⟨w1, w2, w3, w4, w5, w6, g2', w8, w9⟩
      have hdl : mg_cL (mh_bc c d M i) d := mh_fr_cL h' h1 h2 h3 hds
      have hkc : kd (mh_bc c d M i) c = 4 := by rw [h1]; exact g1
      have hkd : kd (mh_bc c d M i) d = 4 := by rw [h1]; exact g1'
      have ec : gr (mh_bc c d M i) (c + 1) i = gr M (c + 1) i := h3 _ _
      have ed : gr (mh_bc c d M i) (d + 1) i = gr M (d + 1) i := h3 _ _
      have q1 := g8 i (by omega)
      have q2 := g8' i (by omega)
      have k1 : kd (mh_bc c d M i) (gr (mh_bc c d M i) (c + 1) i) = 3 := by rw [h1, ec]; exact q1.1
      have k2 : kd (mh_bc c d M i) (gr (mh_bc c d M i) (d + 1) i) = 3 := by rw [h1, ed]; exact q2.1
      have hne : gr (mh_bc c d M i) (c + 1) i ≠ gr (mh_bc c d M i) (d + 1) i := by omega
      have er : ∀ k, gi (mh_bc c d M i) (gr M (d + 1) i) k = gi M (gr M (d + 1) i) k := fun k => h4 _ k (by omega) (by omega)
      have e : mh_bc c d M (i + 1) = mg_put6 (mh_bc c d M i) (gr M (c + 1) i) (gi M (gr M (d + 1) i) 0) (gi M (gr M (d + 1) i) 1) (gi M (gr M (d + 1) i) 2) (gi M (gr M (d + 1) i) 3) (gi M (gr M (d + 1) i) 4) (gi M (gr M (d + 1) i) 5) := rfl
      subst hj
      refine hK _ _ _ _ _ ?_
      (repeat' (first | rfl | ((conv => whnf); first | exact And.intro rfl rfl | refine And.intro (by first | assumption | omega | (simp only [Int.toNat_natCast]; first | done | assumption | omega)) ?_ | (refine And.intro (fun _ => ?_) (fun _ => ?_) <;> first | (exfalso; omega) | skip) | exact rfl | intro _ | fail)))
      all_goals (try ((conv => whnf); (refine Exists.intro _ (Exists.intro _ (And.intro (cX3_get hl hc (by omega)) (And.intro ?_ (fun _ _ h => h.elim)))); rintro _ _ ⟨rfl, e⟩; have e2 := e.symm; clear e; subst e2); (repeat' (first | rfl | ((conv => whnf); first | exact And.intro rfl rfl | refine And.intro (by first | assumption | omega | (simp only [Int.toNat_natCast]; first | done | assumption | omega)) ?_ | (refine And.intro (fun _ => ?_) (fun _ => ?_) <;> first | (exfalso; omega) | skip) | exact rfl | intro _ | fail)))))
      all_goals (try ((conv => whnf); (refine Exists.intro _ (Exists.intro _ (And.intro (cX3_get hl hdl (by omega)) (And.intro ?_ (fun _ _ h => h.elim)))); rintro _ _ ⟨rfl, e⟩; have e2 := e.symm; clear e; subst e2); (repeat' (first | rfl | ((conv => whnf); first | exact And.intro rfl rfl | refine And.intro (by first | assumption | omega | (simp only [Int.toNat_natCast]; first | done | assumption | omega)) ?_ | (refine And.intro (fun _ => ?_) (fun _ => ?_) <;> first | (exfalso; omega) | skip) | exact rfl | intro _ | fail)))))
      all_goals (try ((conv => whnf); (refine Exists.intro _ (Exists.intro _ (And.intro (cX2_become hl k1 k2 hne) (And.intro ?_ (fun _ _ h => h.elim)))); rintro _ _ ⟨rfl, e⟩; have e2 := e.symm; clear e; subst e2); (repeat' (first | rfl | ((conv => whnf); first | exact And.intro rfl rfl | refine And.intro (by first | assumption | omega | (simp only [Int.toNat_natCast]; first | done | assumption | omega)) ?_ | (refine And.intro (fun _ => ?_) (fun _ => ?_) <;> first | (exfalso; omega) | skip) | exact rfl | intro _ | fail)))))
      (conv => whnf)
      refine ih (i + 1) _ _ (by omega) (by omega) ?_
      rw [e]
      simp only [Int.toNat_natCast, ec, ed, er]
  exact L (gi M d 0).toNat 0 0 _ (by omega) rfl rfl
