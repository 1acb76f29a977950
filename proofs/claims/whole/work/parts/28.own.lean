def mh_fx (x : Nat) (M N : mg_M) : Prop := (∀ a, kd N a = kd M a) ∧ (∀ a, ln N a = ln M a) ∧ (∀ a k, gr N a k = gr M a k) ∧ nx N = nx M ∧ (∀ a k, gl N a k = gl M a k) ∧ (∀ a k, gd N a k = gd M a k) ∧ (∀ a k, a ≠ x → gi N a k = gi M a k)
theorem mh_fx_rfl {x : Nat} {M : mg_M} : mh_fx x M M := ⟨fun _ => rfl, fun _ => rfl, fun _ _ => rfl, rfl, fun _ _ => rfl, fun _ _ => rfl, fun _ _ _ => rfl⟩
theorem mh_fx_tr {x : Nat} {M N P : mg_M} (h : mh_fx x M N) (g : mh_fx x N P) : mh_fx x M P := by
  obtain ⟨h1, h2, h3, h4, h5, h6, h7⟩ := h
  obtain ⟨g1, g2, g3, g4, g5, g6, g7⟩ := g
  exact ⟨fun a => (g1 a).trans (h1 a), fun a => (g2 a).trans (h2 a), fun a k => (g3 a k).trans (h3 a k), g4.trans h4, fun a k => (g5 a k).trans (h5 a k), fun a k => (g6 a k).trans (h6 a k), fun a k q => (g7 a k q).trans (h7 a k q)⟩
theorem mh_fx_si {x k : Nat} {v : Int} {M : mg_M} : mh_fx x M (si M x k v) := ⟨fun _ => rfl, fun _ => rfl, fun _ _ => rfl, rfl, fun _ _ => rfl, fun _ _ => rfl, fun a j q => by rw [gi_si, if_neg (fun e => q e.1)]⟩
theorem mh_fx_so {t : Nat} {r c v : Int} {M : mg_M} : mh_fx (t + 126) M (mh_so M t r c v) := by
  unfold mh_so
  split
  · exact mh_fx_si
  · exact mh_fx_rfl
theorem mh_fx_tb {x t : Nat} {M N : mg_M} (h : mh_fx x M N) (n : t ≠ x) (g : mg_tb M t) : mg_tb N t := by
  obtain ⟨h1, h2, h3, h4, h5, h6, h7⟩ := h
  unfold mg_tb at *
  rw [h7 t 0 n, h7 t 1 n, h7 t 2 n]
  simp only [h1, h2, h3]
  exact g
theorem mh_fx_cL {x c : Nat} {M N : mg_M} (h : mh_fx x M N) (n : c ≠ x) (g : mg_cL M c) : mg_cL N c := mh_fr_cL g h.1 h.2.1 h.2.2.1 (h.2.2.2.2.2.2 c 0 n)
theorem mh_fx_sm {x a : Nat} {M N : mg_M} (h : mh_fx x M N) (n : a ≠ x) (g : mg_sm M a) : mg_sm N a := by
  obtain ⟨h1, h2, h3, h4, h5, h6, h7⟩ := h
  unfold mg_sm at *
  rw [h1, h7 a 0 n, h7 a 1 n, h7 a 2 n, h7 a 3 n]
  exact g
def mh_oC (t : Nat) (r x : Int) : Nat → Int → mg_M → mg_M
  | 0, _, M => M
  | n + 1, c, M => mh_oC t r x n (c + 1) (mh_so M t r c x)
def mh_oR (t : Nat) (x c : Int) (w : Nat) : Nat → Int → mg_M → mg_M
  | 0, _, M => M
  | n + 1, r, M => mh_oR t x c w n (r + 1) (mh_oC t r x w c M)
theorem cX4_own {D : mg_D} {l : Launch} (hl : l.stackTraces = false) {M : mg_M} {t i : Nat} {x : Int} (hx : x = i) (h : mg_tb M t) (hc : mg_cL M (t + 3)) (hi : (i : Int) < gi M (t + 3) 0) (hm : mg_sm M (gr M (t + 3 + 1) i)) (h0 : 0 ≤ gi M (gr M (t + 3 + 1) i) 2 ∧ 0 ≤ gi M (gr M (t + 3 + 1) i) 3) : mg_Mt D l 47 [.inr (.inl t), .inl x] M (fun v M' => v = none ∧ M' = mh_oR t i (gi M (gr M (t + 3 + 1) i) 1) (gi M (gr M (t + 3 + 1) i) 3).toNat (gi M (gr M (t + 3 + 1) i) 2).toNat (gi M (gr M (t + 3 + 1) i) 0) M) mg_no := by
  subst hx
  refine mg_of2 hl ok_X4_own al_X4_own rfl (fun K hK => ?_)
  have h' := h
  obtain ⟨⟨g1, g2, g3, g4, g5, g6, g7⟩, _, d1⟩ := h
  have k0 := hc.1
  have k1 := hc.2.2.2.2.2.2.1
  have k2 := hc.2.2.2.2.2.2.2.1 i (by omega)
  refine hK _ _ _ _ _ ?_
  (repeat' (((conv => whnf); first | refine And.intro (by first | assumption | omega | (simp only [g4, true_and, Int.toNat_natCast]; first | done | assumption | omega)) ?_ | (refine And.intro (fun _ => ?_) (fun _ => ?_) <;> first | (exfalso; omega) | skip) | intro _ | fail)))
  (conv => whnf)
  rw [g4]
  (refine Exists.intro _ (Exists.intro _ (And.intro (cX3_get hl hc (by omega)) (And.intro ?_ (fun _ _ h => h.elim)))); rintro _ _ ⟨rfl, e⟩; have e2 := e.symm; clear e; subst e2)
  (repeat' (((conv => whnf); first | refine And.intro (by first | assumption | omega | (simp only [g4, true_and, Int.toNat_natCast]; first | done | assumption | omega)) ?_ | (refine And.intro (fun _ => ?_) (fun _ => ?_) <;> first | (exfalso; omega) | skip) | intro _ | fail)))
  (conv => whnf)
  simp only [Int.toNat_natCast]
  generalize ha : gr M (t + 3 + 1) i = a at *
  have hm' := hm
  obtain ⟨m1, m2, m3⟩ := hm'
  have na : a ≠ t + 126 := by omega
  have LR : ∀ n : Nat, ∀ r : Int, ∀ N : mg_M, mh_fx (t + 126) M N → gi M a 0 ≤ r ∧ gi M a 0 + gi M a 2 - r = n → mh_oR t i (gi M a 1) (gi M a 3).toNat n r N = mh_oR t i (gi M a 1) (gi M a 3).toNat (gi M a 2).toNat (gi M a 0) M → K 14 [(0, Sum.inr (Sum.inl t)), (1, Sum.inl (i : Int)), (2, Sum.inr (Sum.inl a)), (3, Sum.inl r)] [] N 0 := by
    intro n
    induction n with
    | zero =>
      intro r N f hn hp
      have sN := mh_fx_sm f na hm
      have kN := sN.1
      have e0 := f.2.2.2.2.2.2 a 0 na
      have e2 := f.2.2.2.2.2.2 a 2 na
      refine hK _ _ _ _ _ ?_
      (repeat' (((conv => whnf); first | refine And.intro (by first | assumption | omega | (simp only [g4, true_and, Int.toNat_natCast]; first | done | assumption | omega)) ?_ | (refine And.intro (fun _ => ?_) (fun _ => ?_) <;> first | (exfalso; omega) | skip) | intro _ | fail)))
      all_goals (try ((conv => whnf); (refine Exists.intro _ (Exists.intro _ (And.intro (cX2_bottom hl sN) (And.intro ?_ (fun _ _ h => h.elim)))); rintro _ _ ⟨rfl, e⟩; have e2 := e.symm; clear e; subst e2); (repeat' (((conv => whnf); first | refine And.intro (by first | assumption | omega | (simp only [g4, true_and, Int.toNat_natCast]; first | done | assumption | omega)) ?_ | (refine And.intro (fun _ => ?_) (fun _ => ?_) <;> first | (exfalso; omega) | skip) | intro _ | fail)))))
      (conv => whnf)
      first | exact hp | exact And.intro rfl hp
    | succ n ih =>
      intro r N f hn hp
      have sN := mh_fx_sm f na hm
      have kN := sN.1
      have e0 := f.2.2.2.2.2.2 a 0 na
      have e1 := f.2.2.2.2.2.2 a 1 na
      have e2 := f.2.2.2.2.2.2 a 2 na
      have LC : ∀ p : Nat, ∀ c : Int, ∀ P : mg_M, mh_fx (t + 126) M P → gi M a 1 ≤ c ∧ gi M a 1 + gi M a 3 - c = p → mh_oC t r i p c P = mh_oC t r i (gi M a 3).toNat (gi M a 1) N → K 28 [(0, Sum.inr (Sum.inl t)), (1, Sum.inl (i : Int)), (2, Sum.inr (Sum.inl a)), (3, Sum.inl r), (4, Sum.inl c)] [] P 0 := by
        intro p
        induction p with
        | zero =>
          intro c P q hq hr
          have sP := mh_fx_sm q na hm
          have kP := sP.1
          have u1 := q.2.2.2.2.2.2 a 1 na
          have u3 := q.2.2.2.2.2.2 a 3 na
          refine hK _ _ _ _ _ ?_
          (repeat' (((conv => whnf); first | refine And.intro (by first | assumption | omega | (simp only [g4, true_and, Int.toNat_natCast]; first | done | assumption | omega)) ?_ | (refine And.intro (fun _ => ?_) (fun _ => ?_) <;> first | (exfalso; omega) | skip) | intro _ | fail)))
          all_goals (try ((conv => whnf); (refine Exists.intro _ (Exists.intro _ (And.intro (cX2_right hl sP) (And.intro ?_ (fun _ _ h => h.elim)))); rintro _ _ ⟨rfl, e⟩; have e2 := e.symm; clear e; subst e2); (repeat' (((conv => whnf); first | refine And.intro (by first | assumption | omega | (simp only [g4, true_and, Int.toNat_natCast]; first | done | assumption | omega)) ?_ | (refine And.intro (fun _ => ?_) (fun _ => ?_) <;> first | (exfalso; omega) | skip) | intro _ | fail)))))
          (conv => whnf)
          refine ih _ _ q (by omega) ?_
          rw [← hp]
          show _ = mh_oR t i (gi M a 1) (gi M a 3).toNat n (r + 1) (mh_oC t r i (gi M a 3).toNat (gi M a 1) N)
          rw [← hr]; rfl
        | succ p ihp =>
          intro c P q hq hr
          have sP := mh_fx_sm q na hm
          have kP := sP.1
          have u1 := q.2.2.2.2.2.2 a 1 na
          have u3 := q.2.2.2.2.2.2 a 3 na
          have tP := mh_fx_tb q (by omega) h'
          have k5 := tP.1.1
          refine hK _ _ _ _ _ ?_
          (repeat' (((conv => whnf); first | refine And.intro (by first | assumption | omega | (simp only [g4, true_and, Int.toNat_natCast]; first | done | assumption | omega)) ?_ | (refine And.intro (fun _ => ?_) (fun _ => ?_) <;> first | (exfalso; omega) | skip) | intro _ | fail)))
          all_goals (try ((conv => whnf); (refine Exists.intro _ (Exists.intro _ (And.intro (cX2_right hl sP) (And.intro ?_ (fun _ _ h => h.elim)))); rintro _ _ ⟨rfl, e⟩; have e2 := e.symm; clear e; subst e2); (repeat' (((conv => whnf); first | refine And.intro (by first | assumption | omega | (simp only [g4, true_and, Int.toNat_natCast]; first | done | assumption | omega)) ?_ | (refine And.intro (fun _ => ?_) (fun _ => ?_) <;> first | (exfalso; omega) | skip) | intro _ | fail)))))
          all_goals (try ((conv => whnf); (refine Exists.intro _ (Exists.intro _ (And.intro (cX4_setOwner hl tP) (And.intro ?_ (fun _ _ h => h.elim)))); rintro _ _ ⟨rfl, e⟩; have e2 := e.symm; clear e; subst e2); (repeat' (((conv => whnf); first | refine And.intro (by first | assumption | omega | (simp only [g4, true_and, Int.toNat_natCast]; first | done | assumption | omega)) ?_ | (refine And.intro (fun _ => ?_) (fun _ => ?_) <;> first | (exfalso; omega) | skip) | intro _ | fail)))))
          (conv => whnf)
          refine ihp _ _ (mh_fx_tr q mh_fx_so) (by omega) ?_
          rw [← hr]; rfl
      refine hK _ _ _ _ _ ?_
      (repeat' (((conv => whnf); first | refine And.intro (by first | assumption | omega | (simp only [g4, true_and, Int.toNat_natCast]; first | done | assumption | omega)) ?_ | (refine And.intro (fun _ => ?_) (fun _ => ?_) <;> first | (exfalso; omega) | skip) | intro _ | fail)))
      all_goals (try ((conv => whnf); (refine Exists.intro _ (Exists.intro _ (And.intro (cX2_bottom hl sN) (And.intro ?_ (fun _ _ h => h.elim)))); rintro _ _ ⟨rfl, e⟩; have e2 := e.symm; clear e; subst e2); (repeat' (((conv => whnf); first | refine And.intro (by first | assumption | omega | (simp only [g4, true_and, Int.toNat_natCast]; first | done | assumption | omega)) ?_ | (refine And.intro (fun _ => ?_) (fun _ => ?_) <;> first | (exfalso; omega) | skip) | intro _ | fail)))))
      (conv => whnf)
      exact LC (gi M a 3).toNat _ N f (by omega) (by rw [e1])
  exact LR (gi M a 2).toNat _ M mh_fx_rfl (by omega) rfl
