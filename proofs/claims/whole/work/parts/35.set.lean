def mh_sx (M N : mg_M) (t n0 : Nat) : Prop := ((∀ a, kd N a = kd M a) ∧ (∀ a, ln N a = ln M a) ∧ (∀ a k, gr N a k = gr M a k) ∧ nx N = nx M ∧ (∀ a k, gl N a k = gl M a k) ∧ (∀ a k, gd N a k = gd M a k)) ∧ (∀ a k, a ≠ t + 126 → ¬ (a = t + 3 ∧ k = 0) → (∀ i : Nat, n0 ≤ i → i < 120 → a ≠ gr M (t + 3 + 1) i) → gi N a k = gi M a k) ∧ (n0 : Int) ≤ gi N (t + 3) 0 ∧ (∀ i : Nat, n0 ≤ i → (i : Int) < gi N (t + 3) 0 → gi N (gr M (t + 3 + 1) i) 2 = 1 ∧ gi N (gr M (t + 3 + 1) i) 3 = 1 ∧ gi N (gr M (t + 3 + 1) i) 4 = 0 ∧ gi N (gr M (t + 3 + 1) i) 5 = 0)
theorem mh_sx_fx {M N : mg_M} {t n0 : Nat} (h : mh_fx (t + 126) M N) (hn : gi M (t + 3) 0 = n0) : mh_sx M N t n0 := by
  obtain ⟨h1, h2, h3, h4, h5, h6, h7⟩ := h
  have s0 := h7 (t + 3) 0 (by omega)
  exact ⟨⟨h1, h2, h3, h4, h5, h6⟩, fun a k q _ _ => h7 a k q, by omega, fun i hi hi2 => by omega⟩
theorem mh_sx_gp {M N : mg_M} {t n0 : Nat} {r c : Int} (h : mh_sx M N t n0) (ht : mh_tl N t) (hr : 0 ≤ r ∧ r < gi N t 0) (hc : 0 ≤ c ∧ c < gi N t 1) (hb : mh_at N t r c = -1) : mh_sx M (mh_gp N t r c) t n0 := by
  have room := mh_room ht hr hc hb
  obtain ⟨f1, f2, f3, f4, f5, f6, f7, f8, f9, a0, a1, a2, a3, a4, a5⟩ := mh_gp_rd ht hr hc hb
  obtain ⟨⟨h1, h2, h3, h4, h5, h6⟩, h7, h8, h9⟩ := h
  have hl := ht.2.1
  have z := hl.2.2.2.2.2.2.1
  have g8 := hl.2.2.2.2.2.2.2.1
  have g9 := hl.2.2.2.2.2.2.2.2
  generalize mh_gp N t r c = P at *
  obtain ⟨s, hs0⟩ : ∃ s : Nat, gi N (t + 3) 0 = s := ⟨(gi N (t + 3) 0).toNat, by omega⟩
  have hss : (gi N (t + 3) 0).toNat = s := by omega
  rw [hss, h3] at a2 a3 a4 a5
  rw [hss] at f7
  refine ⟨⟨fun a => (f1 a).trans (h1 a), fun a => (f2 a).trans (h2 a), fun a k => (f3 a k).trans (h3 a k), f4.trans h4, fun a k => (f5 a k).trans (h5 a k), fun a k => (f6 a k).trans (h6 a k)⟩, ?_, by omega, ?_⟩
  · intro a k q1 q2 q3
    rw [f7 a k q1 q2 (by rw [h3]; exact q3 s (by omega) (by omega))]
    exact h7 a k q1 q2 q3
  · intro i hi hi2
    by_cases e : i = s
    · rw [e]
      exact ⟨a2, a3, a4, a5⟩
    · have ci : ∀ k, gi P (gr M (t + 3 + 1) i) k = gi N (gr M (t + 3 + 1) i) k := by
        intro k
        have w := g8 i (by omega)
        rw [h3] at w
        refine f7 _ k (by omega) (by omega) ?_
        rw [← h3]
        intro y
        exact e (g9 i s (by omega) (by omega) y)
      rw [ci, ci, ci, ci]
      exact h9 i hi (by omega)
set_option maxRecDepth 100000 in
theorem mh_set_st {D : mg_D} {l : Launch} (hl : l.stackTraces = false) {No : mg_O} {K : mg_K} (hK : ∀ (pc : Nat) (ls : mg_L) (st : List mg_V) (M : mg_M) (B : Nat), mg_ev mc_X4_settle (mg_Mt D l) No mg_no K 1000 false pc ls st M B → K pc ls st M B) {P : mg_M} {t : Nat} {r c : Int} (tl : mh_tl P t) (hr : 0 ≤ r ∧ r < gi P t 0) (hc : 0 ≤ c ∧ c < gi P t 1) (h1 : mh_at P t r c = -1 → K 44 [(0, Sum.inr (Sum.inl t)), (1, Sum.inl r), (2, Sum.inl (c + 1))] [] (mh_gp P t r c) 0) (h2 : 0 ≤ mh_at P t r c → K 44 [(0, Sum.inr (Sum.inl t)), (1, Sum.inl r), (2, Sum.inl (c + 1))] [] P 0) : K 44 [(0, Sum.inr (Sum.inl t)), (1, Sum.inl r), (2, Sum.inl c)] [] P 0 := by
  have ht := tl.1
  have k1 := ht.1.1
  have k2 := ht.1.2.2.2.1
  have k3 : kd P (gr P t 5) = 4 := by rw [k2]; exact tl.2.1.1
  have k5 : gr P t 5 ≠ 0 := by omega
  have bb := ht.2.2
  have eo : mh_ow P t r c = mh_at P t r c := by unfold mh_ow; rw [if_pos (by omega)]; rfl
  have i4 := tl.2.2.2.2 r c (by omega) (by omega) (by omega) (by omega)
  have fq := @mh_fx_so t r c (gi P (t + 3) 0) P
  have q1 : kd (mh_so P t r c (gi P (t + 3) 0)) t = 5 := by rw [fq.1]; exact k1
  have q2 : gr (mh_so P t r c (gi P (t + 3) 0)) t 5 = t + 3 := by rw [fq.2.2.1]; exact k2
  have q3 : gr (mh_so P t r c (gi P (t + 3) 0)) t 5 ≠ 0 := by omega
  have q4 := mh_fx_cL fq (show t + 3 ≠ t + 126 by omega) tl.2.1
  have q5 : gi (mh_so P t r c (gi P (t + 3) 0)) (t + 3) 0 = gi P (t + 3) 0 := fq.2.2.2.2.2.2 (t + 3) 0 (by omega)
  refine hK _ _ _ _ _ ?_
  (repeat' (((conv => whnf); first | refine And.intro (by first | omega | (simp only [true_and]; first | done | omega)) ?_ | (refine And.intro (fun _ => ?_) (fun _ => ?_) <;> first | (exfalso; omega) | skip) | intro _ | fail)))
  (conv => whnf)
  (refine Exists.intro _ (Exists.intro _ (And.intro (cX4_ownerOf hl tl.1) (And.intro ?_ (fun _ _ h => h.elim)))); rintro _ _ ⟨rfl, e⟩; have e2 := e.symm; clear e; subst e2)
  (conv => whnf)
  refine And.intro (fun hb => ?_) (fun hb => ?_)
  rotate_left 1
  have hb2 : mh_at P t r c = -1 := by
    cases i4 with
    | inl w => exact w
    | inr w =>
      obtain ⟨i, hi, hv⟩ := w
      have := tl.2.2.2.1 i hi r c hv
      omega
  have room := mh_room tl (by omega) (by omega) hb2
  (conv => whnf)
  refine And.intro k1 ?_
  (conv => whnf)
  refine And.intro k5 ?_
  (conv => whnf)
  refine And.intro k3 ?_
  (conv => whnf)
  rw [k2]
  refine And.intro k1 ?_
  (conv => whnf)
  (refine Exists.intro _ (Exists.intro _ (And.intro (cX4_setOwner hl tl.1) (And.intro ?_ (fun _ _ h => h.elim)))); rintro _ _ ⟨rfl, e⟩; have e2 := e.symm; clear e; subst e2)
  have h1' := h1 hb2
  unfold mh_gp at h1'
  generalize hQ : mh_so P t r c (gi P (t + 3) 0) = Q at *
  (conv => whnf)
  refine And.intro q1 ?_
  (conv => whnf)
  refine And.intro q3 ?_
  clear h1 h2 i4 fq hb hQ
  (conv => whnf)
  rw [q2]
  refine And.intro q4.1 ?_
  (conv => whnf)
  (refine Exists.intro _ (Exists.intro _ (And.intro (cX3_add hl q4 (by omega)) (And.intro ?_ (fun _ _ h => h.elim)))); rintro _ _ ⟨rfl, e⟩; have e2 := e.symm; clear e; subst e2)
  (conv => whnf)
  refine And.intro (by omega) ?_
  (conv => whnf)
  exact h1'
  (conv => whnf)
  refine And.intro (by omega) ?_
  (conv => whnf)
  exact h2 (by omega)
theorem cX4_settle {D : mg_D} {l : Launch} (hl : l.stackTraces = false) {M : mg_M} {t n0 : Nat} (ht : mg_tb M t) (hc : mg_cL M (t + 3)) (hn : gi M (t + 3) 0 = n0) (hk : ∀ i : Nat, (i : Int) < gi M (t + 3) 0 → mh_ok M t i) (hd : mh_dj M t) : mg_Mt D l 46 [.inr (.inl t)] M (fun v N => v = none ∧ mh_sx M N t n0 ∧ mh_tl N t ∧ ∀ p q, 0 ≤ p → p < gi M t 0 → 0 ≤ q → q < gi M t 1 → mh_at N t p q ≠ -1) mg_no := by
  refine mg_of2 hl ok_X4_settle al_X4_settle rfl (fun K hK => ?_)
  have ht' := ht
  have bb := ht.2.2
  obtain ⟨⟨g1, g2, g3, g4, g5, g6, g7⟩, ⟨_, _, ⟨b5, b6⟩, _⟩, d1⟩ := ht'
  have z := hc.2.2.2.2.2.2.1
  have g8 := hc.2.2.2.2.2.2.2.1
  have GR : ∀ n : Nat, ∀ r : Int, ∀ N : mg_M, 0 ≤ r ∧ gi M t 0 - r = n → mh_sx M N t n0 → mh_tl N t → (∀ p q, 0 ≤ p → p < r → 0 ≤ q → q < gi M t 1 → mh_at N t p q ≠ -1) → K 34 [(0, Sum.inr (Sum.inl t)), (1, Sum.inl r)] [] N 0 := by
    have tr : ∀ N, mh_sx M N t n0 → gi N t 0 = gi M t 0 ∧ gi N t 1 = gi M t 1 := by
      intro N x
      have q : ∀ i : Nat, n0 ≤ i → i < 120 → t ≠ gr M (t + 3 + 1) i := fun i _ hi => by have := g8 i hi; omega
      exact ⟨x.2.1 t 0 (by omega) (by omega) q, x.2.1 t 1 (by omega) (by omega) q⟩
    intro n
    induction n with
    | zero =>
      intro r N hr x tl cov
      have k1 : kd N t = 5 := by rw [x.1.1]; exact g1
      have tt := tr N x
      refine hK _ _ _ _ _ ?_
      (repeat' (((conv => whnf); first | refine And.intro (by first | assumption | omega | (simp only [g4, g5, true_and, Int.toNat_natCast]; first | done | assumption | omega)) ?_ | (refine And.intro (fun _ => ?_) (fun _ => ?_) <;> first | (exfalso; omega) | skip) | intro _ | fail)))
      (conv => whnf)
      rename_i p q h1 h2 h3 h4 h5
      exact cov p q h1 (by omega) h3 h4 h5
    | succ n ih =>
      intro r N hr x tl cov
      have k1 : kd N t = 5 := by rw [x.1.1]; exact g1
      have tt := tr N x
      have GC : ∀ m : Nat, ∀ c : Int, ∀ P : mg_M, 0 ≤ c ∧ gi M t 1 - c = m → mh_sx M P t n0 → mh_tl P t → (∀ p q, 0 ≤ p → (p < r ∨ (p = r ∧ q < c)) → 0 ≤ q → q < gi M t 1 → mh_at P t p q ≠ -1) → K 44 [(0, Sum.inr (Sum.inl t)), (1, Sum.inl r), (2, Sum.inl c)] [] P 0 := by
        intro m
        induction m with
        | zero =>
          intro c P hc' y tl cv
          have k1 : kd P t = 5 := by rw [y.1.1]; exact g1
          have tt := tr P y
          refine hK _ _ _ _ _ ?_
          (repeat' (((conv => whnf); first | refine And.intro (by first | assumption | omega | (simp only [g4, g5, true_and, Int.toNat_natCast]; first | done | assumption | omega)) ?_ | (refine And.intro (fun _ => ?_) (fun _ => ?_) <;> first | (exfalso; omega) | skip) | intro _ | fail)))
          (conv => whnf)
          exact ih _ _ (by omega) y tl (fun p q h1 h2 h3 h4 => cv p q h1 (by omega) h3 h4)
        | succ m ihm =>
          intro c P hc' y tl cv
          have tt := tr P y
          refine mh_set_st hl hK tl (by omega) (by omega) (fun hb2 => ?_) (fun hb2 => ?_)
          · refine ihm (c + 1) (mh_gp P t r c) (by omega) (mh_sx_gp y tl (by omega) (by omega) hb2) (mh_gp_tl tl (by omega) (by omega) hb2) ?_
            intro p q h1 h2 h3 h4
            rw [(mh_gp_rd tl (by omega) (by omega) hb2).2.2.2.2.2.2.2.2.1 p q h1 h3 (by omega)]
            have z2 := tl.2.1.2.2.2.2.2.2.1
            split
            · omega
            · exact cv p q h1 (by omega) h3 h4
          · refine ihm (c + 1) P (by omega) y tl ?_
            intro p q h1 h2 h3 h4
            by_cases w : p = r ∧ q = c
            · rw [w.1, w.2]
              omega
            · exact cv p q h1 (by omega) h3 h4
      refine hK _ _ _ _ _ ?_
      (repeat' (((conv => whnf); first | refine And.intro (by first | assumption | omega | (simp only [g4, g5, true_and, Int.toNat_natCast]; first | done | assumption | omega)) ?_ | (refine And.intro (fun _ => ?_) (fun _ => ?_) <;> first | (exfalso; omega) | skip) | intro _ | fail)))
      (conv => whnf)
      exact GC (gi M t 1).toNat 0 N (by omega) x tl (fun p q h1 h2 h3 h4 => cov p q h1 (by omega) h3 h4)
  have L : ∀ n i : Nat, ∀ j : Int, ∀ N : mg_M, gi M (t + 3) 0 = i + n → j = i → mh_iv M N t i → K 10 [(0, Sum.inr (Sum.inl t)), (1, Sum.inl j)] [] N 0 := by
    intro n
    induction n with
    | zero =>
      intro i j N hm hj v
      have f := v.1
      have k1 : kd N t = 5 := by rw [f.1]; exact g1
      have k2 : gr N t 5 = t + 3 := by rw [f.2.2.1]; exact g4
      have k3 : gi N (gr N t 5) 0 = gi M (t + 3) 0 := by rw [k2]; exact f.2.2.2.2.2.2 (t + 3) 0 (by omega)
      have k4 : kd N (gr N t 5) = 4 := by rw [k2, f.1]; exact hc.1
      have k5 : gr N t 5 ≠ 0 := by omega
      refine hK _ _ _ _ _ ?_
      (repeat' (((conv => whnf); first | refine And.intro (by first | assumption | omega | (simp only [g4, g5, true_and, Int.toNat_natCast]; first | done | assumption | omega)) ?_ | (refine And.intro (fun _ => ?_) (fun _ => ?_) <;> first | (exfalso; omega) | skip) | intro _ | fail)))
      (conv => whnf)
      exact GR (gi M t 0).toNat 0 N (by omega) (mh_sx_fx f hn) (mh_iv_tl ht hc hk (by omega) v) (fun p q h1 h2 => by omega)
    | succ n ih =>
      intro i j N hm hj v
      have f := v.1
      have k1 : kd N t = 5 := by rw [f.1]; exact g1
      have k2 : gr N t 5 = t + 3 := by rw [f.2.2.1]; exact g4
      have k3 : gi N (gr N t 5) 0 = gi M (t + 3) 0 := by rw [k2]; exact f.2.2.2.2.2.2 (t + 3) 0 (by omega)
      have k4 : kd N (gr N t 5) = 4 := by rw [k2, f.1]; exact hc.1
      have k5 : gr N t 5 ≠ 0 := by omega
      have o := hk i (by omega)
      have wi := g8 i (by omega)
      have e := f.2.2.1 (t + 3 + 1) i
      have sm : mg_sm N (gr N (t + 3 + 1) i) := by rw [e]; exact mh_fx_sm f (by omega) (mh_ok_sm ht o wi.1)
      have cc : ∀ k, gi N (gr N (t + 3 + 1) i) k = gi M (gr M (t + 3 + 1) i) k := fun k => by rw [e]; exact f.2.2.2.2.2.2 _ k (by omega)
      have s0 : gi N (t + 3) 0 = gi M (t + 3) 0 := f.2.2.2.2.2.2 (t + 3) 0 (by omega)
      unfold mh_ok at o
      refine hK _ _ _ _ _ ?_
      (repeat' (((conv => whnf); first | refine And.intro (by first | assumption | omega | (simp only [g4, g5, true_and, Int.toNat_natCast]; first | done | assumption | omega)) ?_ | (refine And.intro (fun _ => ?_) (fun _ => ?_) <;> first | (exfalso; omega) | skip) | intro _ | fail)))
      all_goals (try ((conv => whnf); (refine Exists.intro _ (Exists.intro _ (And.intro (cX4_own hl hj (mh_fx_tb f (by omega) ht) (mh_fx_cL f (by omega) hc) (by omega) sm (by rw [cc 2, cc 3]; omega)) (And.intro ?_ (fun _ _ h => h.elim)))); rintro _ _ ⟨rfl, e⟩; have e2 := e.symm; clear e; subst e2); (repeat' (((conv => whnf); first | refine And.intro (by first | assumption | omega | (simp only [g4, g5, true_and, Int.toNat_natCast]; first | done | assumption | omega)) ?_ | (refine And.intro (fun _ => ?_) (fun _ => ?_) <;> first | (exfalso; omega) | skip) | intro _ | fail)))))
      (conv => whnf)
      exact ih (i + 1) _ _ (by omega) (by omega) (mh_iv1 ht hc hk hd (by omega) v)
  have k5 : gr M t 6 ≠ 0 := by omega
  have k6 : kd M (gr M t 6) = 8 := by rw [g5]; exact b5
  refine hK _ _ _ _ _ ?_
  (repeat' (((conv => whnf); first | refine And.intro (by first | assumption | omega | (simp only [g4, g5, true_and, Int.toNat_natCast]; first | done | assumption | omega)) ?_ | (refine And.intro (fun _ => ?_) (fun _ => ?_) <;> first | (exfalso; omega) | skip) | intro _ | fail)))
  (conv => whnf)
  rw [g5]
  (refine Exists.intro _ (Exists.intro _ (And.intro (cJ7_fill hl b5 (by omega)) (And.intro ?_ (fun _ _ h => h.elim)))); rintro _ _ ⟨rfl, e⟩; have e2 := e.symm; clear e; subst e2)
  rw [b6]
  (repeat' (((conv => whnf); first | refine And.intro (by first | assumption | omega | (simp only [g4, g5, true_and, Int.toNat_natCast]; first | done | assumption | omega)) ?_ | (refine And.intro (fun _ => ?_) (fun _ => ?_) <;> first | (exfalso; omega) | skip) | intro _ | fail)))
  (conv => whnf)
  exact L n0 0 0 _ (by omega) rfl (mh_iv0 ht)
