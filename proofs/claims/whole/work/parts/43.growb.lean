theorem mh_tk_co {M N : mg_M} {t b : Nat} {r c : Int} (tl : mh_tl M t) (nb : mh_nb M t) (hb : kd M b = 1) (f : mh_fx b M N) (ar : mh_ar N t b) (hr : 0 ≤ r ∧ r < gi M t 0) (hc : 0 ≤ c ∧ c < gi M t 1) : mh_fx b M (mh_tk N b (mh_co M t r c)) ∧ mh_ar (mh_tk N b (mh_co M t r c)) t b := by
  have g1 := tl.1.1.1
  have nt : t ≠ b := fun e => by rw [e] at g1; omega
  obtain ⟨i, hi, _, e⟩ := mh_tl_ow tl hr hc (nb r c hr.1 hr.2 hc.1 hc.2)
  obtain ⟨tlN, _, _, _, _, s0⟩ := mh_fx_tl f hb tl
  refine ⟨mh_fx_tr f mh_fx_p4, mh_tk_ar (i := i) nt ar ?_ (tlN.2.2.1 i (by omega))⟩
  unfold mh_co
  rw [e, f.2.2.1]
  rfl
theorem mh_bw_ok {M N : mg_M} {t b n : Nat} {r x y : Int} (tl : mh_tl M t) (nb : mh_nb M t) (hb : kd M b = 1) (f : mh_fx b M N) (ar : mh_ar N t b) (hr : 0 ≤ r ∧ r + n ≤ gi M t 0) (hx : 0 ≤ x ∧ x < gi M t 1) (hy : 0 ≤ y ∧ y < gi M t 1) : mh_fx b M (mh_bw t b M x y n r N) ∧ mh_ar (mh_bw t b M x y n r N) t b := by
  induction n generalizing r N with
  | zero => exact ⟨f, ar⟩
  | succ n ih =>
    have a := mh_tk_co (r := r) (c := x) tl nb hb f ar (by omega) hx
    have c := mh_tk_co (r := r) (c := y) tl nb hb a.1 a.2 (by omega) hy
    exact ih c.1 c.2 (by omega)
theorem mh_bh_ok {M N : mg_M} {t b n : Nat} {r x y : Int} (tl : mh_tl M t) (nb : mh_nb M t) (hb : kd M b = 1) (f : mh_fx b M N) (ar : mh_ar N t b) (hr : 0 ≤ r ∧ r + n ≤ gi M t 1) (hx : 0 ≤ x ∧ x < gi M t 0) (hy : 0 ≤ y ∧ y < gi M t 0) : mh_fx b M (mh_bh t b M x y n r N) ∧ mh_ar (mh_bh t b M x y n r N) t b := by
  induction n generalizing r N with
  | zero => exact ⟨f, ar⟩
  | succ n ih =>
    have a := mh_tk_co (r := x) (c := r) tl nb hb f ar hx (by omega)
    have c := mh_tk_co (r := y) (c := r) tl nb hb a.1 a.2 hy (by omega)
    exact ih c.1 c.2 (by omega)
def mh_bo (t b : Nat) (M : mg_M) : mg_M := mh_bh t b M (gi M b 0) (gi M b 2) (gi M b 3 - gi M b 1 + 1).toNat (gi M b 1) (mh_bw t b M (gi M b 1) (gi M b 3) (gi M b 2 - gi M b 0 + 1).toNat (gi M b 0) M)
theorem mh_bo_ok {M : mg_M} {t b : Nat} (tl : mh_tl M t) (nb : mh_nb M t) (hb : kd M b = 1) (ar : mh_ar M t b) : mh_fx b M (mh_bo t b M) ∧ mh_ar (mh_bo t b M) t b := by
  have a := ar
  unfold mh_ar at a
  have w := mh_bw_ok (n := (gi M b 2 - gi M b 0 + 1).toNat) (r := gi M b 0) (x := gi M b 1) (y := gi M b 3) tl nb hb mh_fx_rfl ar (by omega) (by omega) (by omega)
  exact mh_bh_ok tl nb hb w.1 w.2 (by omega) (by omega) (by omega)
def mh_gb (t b : Nat) : Nat → Int → mg_M → mg_M
  | 0, _, M => M
  | p + 1, o, M => if o < mh_sq M b then mh_gb t b p (mh_sq M b) (mh_bo t b M) else M
set_option maxRecDepth 100000 in
theorem cX4_growByBorders {D : mg_D} {l : Launch} (hl : l.stackTraces = false) {M : mg_M} {t b : Nat} (tl : mh_tl M t) (nb : mh_nb M t) (hb : kd M b = 1) (har : mh_ar M t b) : mg_Mt D l 62 [.inr (.inl t), .inr (.inl b)] M (fun v N => v = none ∧ N = mh_gb t b 22 0 M) mg_no := by
  refine mg_of2 hl ok_X4_growByBorders al_X4_growByBorders rfl (fun K hK => ?_)
  have g1 := tl.1.1.1
  refine hK _ _ _ _ _ ?_
  (repeat' (((conv => whnf); first | refine And.intro (by first | omega | (simp only [true_and]; first | done | omega)) ?_ | (refine And.intro (fun _ => ?_) (fun _ => ?_) <;> first | (exfalso; omega) | skip) | intro _ | fail)))
  (conv => whnf)
  have L : ∀ p : Nat, ∀ o j : Int, ∀ N : mg_M, 0 ≤ j ∧ j + p = 22 → mh_fx b M N → mh_ar N t b → mh_gb t b p o N = mh_gb t b 22 0 M → K 4 [(0, Sum.inr (Sum.inl t)), (1, Sum.inr (Sum.inl b)), (2, Sum.inl o), (3, Sum.inl j)] [] N 0 := by
    intro p
    induction p with
    | zero =>
      intro o j N hj f ar hp
      obtain ⟨tlN, a1, a2, a3, a4, a5⟩ := mh_fx_tl f hb tl
      have kb : kd N b = 1 := by rw [f.1]; exact hb
      refine hK _ _ _ _ _ ?_
      (repeat' (((conv => whnf); first | refine And.intro (by first | omega | (simp only [true_and]; first | done | omega)) ?_ | (refine And.intro (fun _ => ?_) (fun _ => ?_) <;> first | (exfalso; omega) | skip) | intro _ | fail)))
      all_goals (try ((conv => whnf); (refine Exists.intro _ (Exists.intro _ (And.intro (cX0_squares2 hl kb tlN.1 ar) (And.intro ?_ (fun _ _ h => h.elim)))); rintro _ _ ⟨rfl, e⟩; have e2 := e.symm; clear e; subst e2); (repeat' (((conv => whnf); first | refine And.intro (by first | omega | (simp only [true_and]; first | done | omega)) ?_ | (refine And.intro (fun _ => ?_) (fun _ => ?_) <;> first | (exfalso; omega) | skip) | intro _ | fail)))))
      all_goals ((conv => whnf); first | exact hp | exact And.intro rfl hp)
    | succ p ih =>
      intro o j N hj f ar hp
      obtain ⟨tlN, a1, a2, a3, a4, a5⟩ := mh_fx_tl f hb tl
      have kb : kd N b = 1 := by rw [f.1]; exact hb
      have kt : kd N t = 5 := by rw [f.1]; exact g1
      have nbN : mh_nb N t := by
        intro p q h1 h2 h3 h4
        rw [a1]
        exact nb p q h1 (by omega) h3 (by omega)
      have e : mh_gb t b (p + 1) o N = if o < mh_sq N b then mh_gb t b p (mh_sq N b) (mh_bo t b N) else N := rfl
      rw [e] at hp
      have q := mh_bo_ok tlN nbN kb ar
      refine hK _ _ _ _ _ ?_
      (repeat' (((conv => whnf); first | refine And.intro (by first | omega | (simp only [true_and]; first | done | omega)) ?_ | (refine And.intro (fun _ => ?_) (fun _ => ?_) <;> first | (exfalso; omega) | skip) | intro _ | fail)))
      all_goals (try ((conv => whnf); (refine Exists.intro _ (Exists.intro _ (And.intro (cX0_squares2 hl kb tlN.1 ar) (And.intro ?_ (fun _ _ h => h.elim)))); rintro _ _ ⟨rfl, e⟩; have e2 := e.symm; clear e; subst e2); (repeat' (((conv => whnf); first | refine And.intro (by first | omega | (simp only [true_and]; first | done | omega)) ?_ | (refine And.intro (fun _ => ?_) (fun _ => ?_) <;> first | (exfalso; omega) | skip) | intro _ | fail)))))
      all_goals (try ((conv => whnf); (refine Exists.intro _ (Exists.intro _ (And.intro (cX0_squares2 hl kb tlN.1 ar) (And.intro ?_ (fun _ _ h => h.elim)))); rintro _ _ ⟨rfl, e⟩; have e2 := e.symm; clear e; subst e2); (repeat' (((conv => whnf); first | refine And.intro (by first | omega | (simp only [true_and]; first | done | omega)) ?_ | (refine And.intro (fun _ => ?_) (fun _ => ?_) <;> first | (exfalso; omega) | skip) | intro _ | fail)))))
      all_goals (try ((conv => whnf); (refine Exists.intro _ (Exists.intro _ (And.intro (cX4_takeInBorders hl tlN nbN kb ar) (And.intro ?_ (fun _ _ h => h.elim)))); rintro _ _ ⟨rfl, e⟩; have e2 := e.symm; clear e; subst e2); (repeat' (((conv => whnf); first | refine And.intro (by first | omega | (simp only [true_and]; first | done | omega)) ?_ | (refine And.intro (fun _ => ?_) (fun _ => ?_) <;> first | (exfalso; omega) | skip) | intro _ | fail)))))
      · rw [if_neg (by omega)] at hp
        first | exact hp | ((conv => whnf); exact And.intro rfl hp) | ((conv => whnf); exact hp)
      · rw [if_pos (by omega)] at hp
        (conv => whnf)
        exact ih _ _ _ (by omega) (mh_fx_tr f q.1) q.2 hp
  exact L 22 0 0 M (by omega) mh_fx_rfl har rfl
