theorem cX0_tk {D : mg_D} {l : Launch} (hl : l.stackTraces = false) {M : mg_M} {a b : Nat} (ha : kd M a = 1) (h : mg_sm M b) : mg_Mt D l 17 [.inr (.inl a), .inr (.inl b)] M (fun v M' => v = none ∧ M' = mh_tk M a b) mg_no := cX0_takeIn hl ha h
set_option maxRecDepth 100000 in
theorem cX4_takeInBorders {D : mg_D} {l : Launch} (hl : l.stackTraces = false) {M : mg_M} {t b : Nat} (tl : mh_tl M t) (nb : mh_nb M t) (hb : kd M b = 1) (har : mh_ar M t b) : mg_Mt D l 63 [.inr (.inl t), .inr (.inl b)] M (fun v N => v = none ∧ N = mh_bh t b M (gi M b 0) (gi M b 2) (gi M b 3 - gi M b 1 + 1).toNat (gi M b 1) (mh_bw t b M (gi M b 1) (gi M b 3) (gi M b 2 - gi M b 0 + 1).toNat (gi M b 0) M)) mg_no := by
  refine mg_of2 hl ok_X4_takeInBorders al_X4_takeInBorders rfl (fun K hK => ?_)
  have g1 := tl.1.1.1
  have bb := tl.1.2.2
  have har' := har
  unfold mh_ar at har'
  have st : ∀ N r c, mh_fx b M N → 0 ≤ r ∧ r < gi M t 0 → 0 ≤ c ∧ c < gi M t 1 → kd N t = 5 ∧ kd N b = 1 ∧ mg_sm N (mh_co M t r c) ∧ mg_Mt D l 45 [.inr (.inl t), .inl r, .inl c] N (fun v M' => v = some (.inr (.inl (mh_co M t r c))) ∧ M' = N) mg_no := by
    intro N r c f hr hc
    obtain ⟨tlN, a1, a2, a3, a4, a5⟩ := mh_fx_tl f hb tl
    have q := cX4_cellAt (D := D) hl tlN (by rw [a3]; exact hr) (by rw [a4]; exact hc) (by rw [a1]; exact nb r c hr.1 hr.2 hc.1 hc.2)
    rw [a2] at q
    have s := mh_co_sm tl nb hr hc
    have ne : mh_co M t r c ≠ b := fun e => by have := s.1; rw [e] at this; omega
    exact ⟨by rw [f.1]; exact g1, by rw [f.1]; exact hb, mh_fx_sm f ne s, q⟩
  have fk : ∀ N a, mh_fx b M N → mh_fx b M (mh_tk N b a) := fun N a f => mh_fx_tr f mh_fx_p4
  refine hK _ _ _ _ _ ?_
  (repeat' (((conv => whnf); first | refine And.intro (by first | omega | (simp only [true_and]; first | done | omega)) ?_ | (refine And.intro (fun _ => ?_) (fun _ => ?_) <;> first | (exfalso; omega) | skip) | intro _ | fail)))
  (conv => whnf)
  have L2 : ∀ n : Nat, ∀ c : Int, ∀ N : mg_M, gi M b 1 ≤ c ∧ gi M b 3 + 1 - c = n → mh_fx b M N → mh_bh t b M (gi M b 0) (gi M b 2) n c N = mh_bh t b M (gi M b 0) (gi M b 2) (gi M b 3 - gi M b 1 + 1).toNat (gi M b 1) (mh_bw t b M (gi M b 1) (gi M b 3) (gi M b 2 - gi M b 0 + 1).toNat (gi M b 0) M) → K 64 [(0, Sum.inr (Sum.inl t)), (1, Sum.inr (Sum.inl b)), (2, Sum.inl (gi M b 0)), (4, Sum.inl (gi M b 2)), (5, Sum.inl (gi M b 3)), (6, Sum.inl c)] [] N 0 := by
    intro n
    induction n with
    | zero =>
      intro c N hn f hp
      refine hK _ _ _ _ _ ?_
      (repeat' (((conv => whnf); first | refine And.intro (by first | omega | (simp only [true_and]; first | done | omega)) ?_ | (refine And.intro (fun _ => ?_) (fun _ => ?_) <;> first | (exfalso; omega) | skip) | intro _ | fail)))
      (conv => whnf)
      first | exact hp | exact And.intro rfl hp
    | succ n ih =>
      intro c N hn f hp
      obtain ⟨k1, k2, k3, k4⟩ := st N (gi M b 0) c f (by omega) (by omega)
      refine hK _ _ _ _ _ ?_
      (repeat' (((conv => whnf); first | refine And.intro (by first | omega | (simp only [true_and]; first | done | omega)) ?_ | (refine And.intro (fun _ => ?_) (fun _ => ?_) <;> first | (exfalso; omega) | skip) | intro _ | fail)))
      (conv => whnf)
      (refine Exists.intro _ (Exists.intro _ (And.intro (k4) (And.intro ?_ (fun _ _ h => h.elim)))); rintro _ _ ⟨rfl, e⟩; have e2 := e.symm; clear e; subst e2)
      (repeat' (((conv => whnf); first | refine And.intro (by first | omega | (simp only [true_and]; first | done | omega)) ?_ | (refine And.intro (fun _ => ?_) (fun _ => ?_) <;> first | (exfalso; omega) | skip) | intro _ | fail)))
      (conv => whnf)
      (refine Exists.intro _ (Exists.intro _ (And.intro (cX0_tk hl k2 k3) (And.intro ?_ (fun _ _ h => h.elim)))); rintro _ _ ⟨rfl, e⟩; have e2 := e.symm; clear e; subst e2)
      obtain ⟨k5, k6, k7, k8⟩ := st (mh_tk N b (mh_co M t (gi M b 0) c)) (gi M b 2) c (fk _ _ f) (by omega) (by omega)
      have fP := fk _ (mh_co M t (gi M b 0) c) f
      generalize hP : mh_tk N b (mh_co M t (gi M b 0) c) = P at *
      (repeat' (((conv => whnf); first | refine And.intro (by first | omega | (simp only [true_and]; first | done | omega)) ?_ | (refine And.intro (fun _ => ?_) (fun _ => ?_) <;> first | (exfalso; omega) | skip) | intro _ | fail)))
      (conv => whnf)
      (refine Exists.intro _ (Exists.intro _ (And.intro (k8) (And.intro ?_ (fun _ _ h => h.elim)))); rintro _ _ ⟨rfl, e⟩; have e2 := e.symm; clear e; subst e2)
      (repeat' (((conv => whnf); first | refine And.intro (by first | omega | (simp only [true_and]; first | done | omega)) ?_ | (refine And.intro (fun _ => ?_) (fun _ => ?_) <;> first | (exfalso; omega) | skip) | intro _ | fail)))
      (conv => whnf)
      (refine Exists.intro _ (Exists.intro _ (And.intro (cX0_tk hl k6 k7) (And.intro ?_ (fun _ _ h => h.elim)))); rintro _ _ ⟨rfl, e⟩; have e2 := e.symm; clear e; subst e2)
      (repeat' (((conv => whnf); first | refine And.intro (by first | omega | (simp only [true_and]; first | done | omega)) ?_ | (refine And.intro (fun _ => ?_) (fun _ => ?_) <;> first | (exfalso; omega) | skip) | intro _ | fail)))
      (conv => whnf)
      exact ih _ _ (by omega) (fk _ _ fP) (by rw [← hp, ← hP]; rfl)
  have L1 : ∀ n : Nat, ∀ r : Int, ∀ N : mg_M, gi M b 0 ≤ r ∧ gi M b 2 + 1 - r = n → mh_fx b M N → mh_bw t b M (gi M b 1) (gi M b 3) n r N = mh_bw t b M (gi M b 1) (gi M b 3) (gi M b 2 - gi M b 0 + 1).toNat (gi M b 0) M → K 25 [(0, Sum.inr (Sum.inl t)), (1, Sum.inr (Sum.inl b)), (2, Sum.inl (gi M b 0)), (3, Sum.inl (gi M b 1)), (4, Sum.inl (gi M b 2)), (5, Sum.inl (gi M b 3)), (6, Sum.inl r)] [] N 0 := by
    intro n
    induction n with
    | zero =>
      intro r N hn f hp
      refine hK _ _ _ _ _ ?_
      (repeat' (((conv => whnf); first | refine And.intro (by first | omega | (simp only [true_and]; first | done | omega)) ?_ | (refine And.intro (fun _ => ?_) (fun _ => ?_) <;> first | (exfalso; omega) | skip) | intro _ | fail)))
      (conv => whnf)
      exact L2 (gi M b 3 - gi M b 1 + 1).toNat _ N (by omega) f (by rw [← hp]; rfl)
    | succ n ih =>
      intro r N hn f hp
      obtain ⟨k1, k2, k3, k4⟩ := st N r (gi M b 1) f (by omega) (by omega)
      refine hK _ _ _ _ _ ?_
      (repeat' (((conv => whnf); first | refine And.intro (by first | omega | (simp only [true_and]; first | done | omega)) ?_ | (refine And.intro (fun _ => ?_) (fun _ => ?_) <;> first | (exfalso; omega) | skip) | intro _ | fail)))
      (conv => whnf)
      (refine Exists.intro _ (Exists.intro _ (And.intro (k4) (And.intro ?_ (fun _ _ h => h.elim)))); rintro _ _ ⟨rfl, e⟩; have e2 := e.symm; clear e; subst e2)
      (repeat' (((conv => whnf); first | refine And.intro (by first | omega | (simp only [true_and]; first | done | omega)) ?_ | (refine And.intro (fun _ => ?_) (fun _ => ?_) <;> first | (exfalso; omega) | skip) | intro _ | fail)))
      (conv => whnf)
      (refine Exists.intro _ (Exists.intro _ (And.intro (cX0_tk hl k2 k3) (And.intro ?_ (fun _ _ h => h.elim)))); rintro _ _ ⟨rfl, e⟩; have e2 := e.symm; clear e; subst e2)
      obtain ⟨k5, k6, k7, k8⟩ := st (mh_tk N b (mh_co M t r (gi M b 1))) r (gi M b 3) (fk _ _ f) (by omega) (by omega)
      have fP := fk _ (mh_co M t r (gi M b 1)) f
      generalize hP : mh_tk N b (mh_co M t r (gi M b 1)) = P at *
      (repeat' (((conv => whnf); first | refine And.intro (by first | omega | (simp only [true_and]; first | done | omega)) ?_ | (refine And.intro (fun _ => ?_) (fun _ => ?_) <;> first | (exfalso; omega) | skip) | intro _ | fail)))
      (conv => whnf)
      (refine Exists.intro _ (Exists.intro _ (And.intro (k8) (And.intro ?_ (fun _ _ h => h.elim)))); rintro _ _ ⟨rfl, e⟩; have e2 := e.symm; clear e; subst e2)
      (repeat' (((conv => whnf); first | refine And.intro (by first | omega | (simp only [true_and]; first | done | omega)) ?_ | (refine And.intro (fun _ => ?_) (fun _ => ?_) <;> first | (exfalso; omega) | skip) | intro _ | fail)))
      (conv => whnf)
      (refine Exists.intro _ (Exists.intro _ (And.intro (cX0_tk hl k6 k7) (And.intro ?_ (fun _ _ h => h.elim)))); rintro _ _ ⟨rfl, e⟩; have e2 := e.symm; clear e; subst e2)
      (repeat' (((conv => whnf); first | refine And.intro (by first | omega | (simp only [true_and]; first | done | omega)) ?_ | (refine And.intro (fun _ => ?_) (fun _ => ?_) <;> first | (exfalso; omega) | skip) | intro _ | fail)))
      (conv => whnf)
      exact ih _ _ (by omega) (fk _ _ fP) (by rw [← hp, ← hP]; rfl)
  clear hK
  exact L1 (gi M b 2 - gi M b 0 + 1).toNat _ M (by omega) mh_fx_rfl rfl
