def mh_pa (c b : Nat) (s : Int) (M : mg_M) : Nat → mg_M
  | 0 => M
  | n + 1 => if mh_bi (mh_in M (gr M (c + 1) n) b) = 0 then mh_pa c b s M n else if gi (mh_pa c b s M n) (gr M (c + 1) n) 5 = s then mh_pa c b s M n else si (mh_pa c b s M n) (gr M (c + 1) n) 5 s
def mh_pc (c b : Nat) (s : Int) (M : mg_M) : Nat → Int
  | 0 => 0
  | n + 1 => if mh_bi (mh_in M (gr M (c + 1) n) b) = 0 then mh_pc c b s M n else if gi (mh_pa c b s M n) (gr M (c + 1) n) 5 = s then mh_pc c b s M n else mh_pc c b s M n + 1
theorem mh_pc_le {c b : Nat} {s : Int} {M : mg_M} (n : Nat) : 0 ≤ mh_pc c b s M n ∧ mh_pc c b s M n ≤ n := by
  induction n with
  | zero => exact ⟨Int.le_refl 0, Int.le_refl 0⟩
  | succ n ih =>
    unfold mh_pc
    (repeat' split) <;> omega
theorem mh_pa_fr {M : mg_M} {c b n : Nat} {s : Int} : (∀ a, kd (mh_pa c b s M n) a = kd M a) ∧ (∀ a, ln (mh_pa c b s M n) a = ln M a) ∧ (∀ a k, gr (mh_pa c b s M n) a k = gr M a k) ∧ (∀ a k, k ≠ 5 → gi (mh_pa c b s M n) a k = gi M a k) ∧ nx (mh_pa c b s M n) = nx M ∧ (∀ a k, gl (mh_pa c b s M n) a k = gl M a k) ∧ (∀ a k, gd (mh_pa c b s M n) a k = gd M a k) := by
  induction n with
  | zero => exact ⟨fun _ => rfl, fun _ => rfl, fun _ _ => rfl, fun _ _ _ => rfl, rfl, fun _ _ => rfl, fun _ _ => rfl⟩
  | succ n ih =>
    obtain ⟨h1, h2, h3, h4, h5, h6, h7⟩ := ih
    unfold mh_pa
    (repeat' split)
    · exact ⟨h1, h2, h3, h4, h5, h6, h7⟩
    · exact ⟨h1, h2, h3, h4, h5, h6, h7⟩
    · exact ⟨h1, h2, h3, fun a k g => by rw [gi_si, if_neg (fun q => g q.2)]; exact h4 a k g, h5, h6, h7⟩
theorem mh_fr5_sm {M N : mg_M} {a : Nat} (h : mg_sm M a) (h1 : ∀ a, kd N a = kd M a) (h4 : ∀ a k, k ≠ 5 → gi N a k = gi M a k) : mg_sm N a := by
  unfold mg_sm at *
  rw [h1, h4 a 0 (by omega), h4 a 1 (by omega), h4 a 2 (by omega), h4 a 3 (by omega)]
  exact h
theorem mh_fr5_in {M N : mg_M} {a b : Nat} (h4 : ∀ a k, k ≠ 5 → gi N a k = gi M a k) : mh_in N a b = mh_in M a b := by
  unfold mh_in
  rw [h4 a 0 (by omega), h4 a 1 (by omega), h4 a 2 (by omega), h4 a 3 (by omega), h4 b 0 (by omega), h4 b 1 (by omega), h4 b 2 (by omega), h4 b 3 (by omega)]
theorem cX3_paint {D : mg_D} {l : Launch} (hl : l.stackTraces = false) {M : mg_M} {c b : Nat} {s : Int} (h : mg_cL M c) (hs : mg_cS M c) (hb : kd M b = 1) : mg_Mt D l 29 [.inr (.inl c), .inr (.inl b), .inl s] M (fun v M' => v = some (.inl (mh_pc c b s M (gi M c 0).toNat)) ∧ M' = mh_pa c b s M (gi M c 0).toNat) mg_no := by
  refine mg_of2 hl ok_X3_paint al_X3_paint rfl (fun K hK => ?_)
  have g1 := h.1
  have g2 := h.2.2.2.2.2.2.1
  refine hK _ _ _ _ _ ?_
  (repeat' (first | rfl | ((conv => whnf); first | exact And.intro rfl rfl | refine And.intro (by first | assumption | omega | (simp only [kd_si, ln_si, gr_si, Int.toNat_natCast]; first | done | assumption | omega)) ?_ | (refine And.intro (fun _ => ?_) (fun _ => ?_) <;> first | (exfalso; omega) | skip) | exact rfl | intro _ | fail)))
  (conv => whnf)
  have L : ∀ n i : Nat, ∀ k j : Int, ∀ N : mg_M, gi M c 0 = i + n → j = i → N = mh_pa c b s M i → k = mh_pc c b s M i → K 5 [(0, Sum.inr (Sum.inl c)), (1, Sum.inr (Sum.inl b)), (2, Sum.inl s), (3, Sum.inl k), (4, Sum.inl j)] [] N 0 := by
    intro n
    induction n with
    | zero =>
      intro i k j N hn hj hN hk
      subst hN
      obtain ⟨h1, h2, h3, h4, h5, h6, h7⟩ := @mh_pa_fr M c b i s
      have hkc : kd (mh_pa c b s M i) c = 4 := by rw [h1]; exact g1
      have hcs : gi (mh_pa c b s M i) c 0 = gi M c 0 := h4 c 0 (by omega)
      refine hK _ _ _ _ _ ?_
      (repeat' (first | rfl | ((conv => whnf); first | exact And.intro rfl rfl | refine And.intro (by first | assumption | omega | (simp only [kd_si, ln_si, gr_si, Int.toNat_natCast]; first | done | assumption | omega)) ?_ | (refine And.intro (fun _ => ?_) (fun _ => ?_) <;> first | (exfalso; omega) | skip) | exact rfl | intro _ | fail)))
      rw [show (gi M c 0).toNat = i from by omega, hk]
      exact And.intro rfl rfl
    | succ n ih =>
      intro i k j N hn hj hN hk
      subst hN
      obtain ⟨h1, h2, h3, h4, h5, h6, h7⟩ := @mh_pa_fr M c b i s
      have hle := @mh_pc_le c b s M i
      have hcs : gi (mh_pa c b s M i) c 0 = gi M c 0 := h4 c 0 (by omega)
      have hc := mh_fr_cL h h1 h2 h3 hcs
      have hkc := hc.1
      have hm := hs i (by omega)
      have hm2 := mh_fr5_sm hm h1 h4
      have e0 : gr (mh_pa c b s M i) (c + 1) i = gr M (c + 1) i := h3 _ _
      have hk3 : kd (mh_pa c b s M i) (gr M (c + 1) i) = 3 := hm2.1
      have e : mh_pa c b s M (i + 1) = if mh_bi (mh_in M (gr M (c + 1) i) b) = 0 then mh_pa c b s M i else if gi (mh_pa c b s M i) (gr M (c + 1) i) 5 = s then mh_pa c b s M i else si (mh_pa c b s M i) (gr M (c + 1) i) 5 s := rfl
      have ek : mh_pc c b s M (i + 1) = if mh_bi (mh_in M (gr M (c + 1) i) b) = 0 then mh_pc c b s M i else if gi (mh_pa c b s M i) (gr M (c + 1) i) 5 = s then mh_pc c b s M i else mh_pc c b s M i + 1 := rfl
      have hin : mh_in (mh_pa c b s M i) (gr M (c + 1) i) b = mh_in M (gr M (c + 1) i) b := mh_fr5_in h4
      subst hj
      rw [← e0] at hm2 hk3
      refine hK _ _ _ _ _ ?_
      (repeat' (first | rfl | ((conv => whnf); first | exact And.intro rfl rfl | refine And.intro (by first | assumption | omega | (simp only [kd_si, ln_si, gr_si, Int.toNat_natCast]; first | done | assumption | omega)) ?_ | (refine And.intro (fun _ => ?_) (fun _ => ?_) <;> first | (exfalso; omega) | skip) | exact rfl | intro _ | fail)))
      all_goals (try ((conv => whnf); (refine Exists.intro _ (Exists.intro _ (And.intro (cX3_get hl hc (by omega)) (And.intro ?_ (fun _ _ h => h.elim)))); rintro _ _ ⟨rfl, e⟩; have e2 := e.symm; clear e; subst e2); (repeat' (first | rfl | ((conv => whnf); first | exact And.intro rfl rfl | refine And.intro (by first | assumption | omega | (simp only [kd_si, ln_si, gr_si, Int.toNat_natCast]; first | done | assumption | omega)) ?_ | (refine And.intro (fun _ => ?_) (fun _ => ?_) <;> first | (exfalso; omega) | skip) | exact rfl | intro _ | fail)))))
      all_goals (try ((conv => whnf); (refine Exists.intro _ (Exists.intro _ (And.intro (cX2_within hl hm2 (by rw [h1]; exact hb)) (And.intro ?_ (fun _ _ h => h.elim)))); rintro _ _ ⟨rfl, e⟩; have e2 := e.symm; clear e; subst e2); (repeat' (first | rfl | ((conv => whnf); first | exact And.intro rfl rfl | refine And.intro (by first | assumption | omega | (simp only [kd_si, ln_si, gr_si, Int.toNat_natCast]; first | done | assumption | omega)) ?_ | (refine And.intro (fun _ => ?_) (fun _ => ?_) <;> first | (exfalso; omega) | skip) | exact rfl | intro _ | fail)))))
      all_goals ((conv => whnf); simp only [Int.toNat_natCast, e0, hin] at *; refine ih (i + 1) _ _ _ (by omega) (by omega) ?_ ?_)
      all_goals (first | rw [e] | rw [ek])
      all_goals ((repeat' split) <;> first | rfl | omega)
  exact L (gi M c 0).toNat 0 0 0 _ (by omega) rfl rfl rfl
