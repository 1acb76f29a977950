def mh_ar (M : mg_M) (t b : Nat) : Prop := (0 ≤ gi M b 0 ∧ gi M b 0 ≤ gi M b 2 ∧ gi M b 2 < gi M t 0) ∧ (0 ≤ gi M b 1 ∧ gi M b 1 ≤ gi M b 3 ∧ gi M b 3 < gi M t 1)
def mh_sq (M : mg_M) (b : Nat) : Int := (gi M b 2 - gi M b 0 + 1) * (gi M b 3 - gi M b 1 + 1)
theorem mh_p4_at {M : mg_M} {a : Nat} {x y z w : Int} : gi (mg_put4 M a x y z w) a 0 = x ∧ gi (mg_put4 M a x y z w) a 1 = y ∧ gi (mg_put4 M a x y z w) a 2 = z ∧ gi (mg_put4 M a x y z w) a 3 = w := by
  unfold mg_put4
  simp [gi_si]
theorem mh_mulb {x y : Int} (hx : 0 ≤ x ∧ x ≤ 20) (hy : 0 ≤ y ∧ y ≤ 20) : 0 ≤ x * y ∧ x * y ≤ 400 := by
  refine ⟨Int.mul_nonneg hx.1 hy.1, ?_⟩
  have := Int.mul_le_mul hx.2 hy.2 hy.1 (by omega : (0 : Int) ≤ 20)
  omega
theorem mh_sq_le {M : mg_M} {t b : Nat} (ht : mg_tb M t) (h : mh_ar M t b) : 0 ≤ mh_sq M b ∧ mh_sq M b ≤ 400 := by
  have bb := ht.2.2
  unfold mh_ar at h
  exact mh_mulb (by omega) (by omega)
theorem mh_tk_ar {N : mg_M} {t b a i : Nat} (nt : t ≠ b) (h : mh_ar N t b) (ha : a = gr N (t + 3 + 1) i) (o : mh_ok N t i) : mh_ar (mh_tk N b a) t b := by
  subst ha
  obtain ⟨e0, e1, e2, e3⟩ := @mh_p4_at N b (min (gi N b 0) (gi N (gr N (t + 3 + 1) i) 0)) (min (gi N b 1) (gi N (gr N (t + 3 + 1) i) 1)) (max (gi N b 2) (gi N (gr N (t + 3 + 1) i) 0 + gi N (gr N (t + 3 + 1) i) 2 - 1)) (max (gi N b 3) (gi N (gr N (t + 3 + 1) i) 1 + gi N (gr N (t + 3 + 1) i) 3 - 1))
  have f := @mh_fx_p4 N b (min (gi N b 0) (gi N (gr N (t + 3 + 1) i) 0)) (min (gi N b 1) (gi N (gr N (t + 3 + 1) i) 1)) (max (gi N b 2) (gi N (gr N (t + 3 + 1) i) 0 + gi N (gr N (t + 3 + 1) i) 2 - 1)) (max (gi N b 3) (gi N (gr N (t + 3 + 1) i) 1 + gi N (gr N (t + 3 + 1) i) 3 - 1))
  have t0 := f.2.2.2.2.2.2 t 0 nt
  have t1 := f.2.2.2.2.2.2 t 1 nt
  unfold mh_tk mh_ar
  rw [e0, e1, e2, e3, t0, t1]
  unfold mh_ar at h
  unfold mh_ok at o
  omega
theorem mh_tc_ar {M : mg_M} {t b n : Nat} (nt : t ≠ b) (nb : ∀ i : Nat, i < n → gr M (t + 3 + 1) i ≠ b) (h : mh_ar M t b) (ho : ∀ i : Nat, i < n → mh_ok M t i) : mh_ar (mh_tc t b M n) t b := by
  induction n with
  | zero => exact h
  | succ n ih =>
    have g := ih (fun i hi => nb i (by omega)) (fun i hi => ho i (by omega))
    have f := @mh_tc_fx t b n M
    have e := f.2.2.1 (t + 3 + 1) n
    have o := ho n (by omega)
    have q := nb n (by omega)
    have o2 : mh_ok (mh_tc t b M n) t n := by
      unfold mh_ok at *
      rw [e, f.2.2.2.2.2.2 _ 0 q, f.2.2.2.2.2.2 _ 1 q, f.2.2.2.2.2.2 _ 2 q, f.2.2.2.2.2.2 _ 3 q, f.2.2.2.2.2.2 t 0 nt, f.2.2.2.2.2.2 t 1 nt]
      exact o
    show mh_ar (bif mh_me (mh_tc t b M n) (gr M (t + 3 + 1) n) b then mh_tk (mh_tc t b M n) b (gr M (t + 3 + 1) n) else mh_tc t b M n) t b
    cases mh_me (mh_tc t b M n) (gr M (t + 3 + 1) n) b with
    | false => exact g
    | true => exact mh_tk_ar nt g e.symm o2
theorem cX0_squares2 {D : mg_D} {l : Launch} (hl : l.stackTraces = false) {M : mg_M} {t a : Nat} (ha : kd M a = 1) (ht : mg_tb M t) (h : mh_ar M t a) : mg_Mt D l 16 [.inr (.inl a)] M (fun v M' => v = some (.inl (mh_sq M a)) ∧ M' = M) mg_no := by
  have s := mh_sq_le ht h
  have bb := ht.2.2
  unfold mh_sq at s
  unfold mh_ar at h
  exact cX0_squares hl ha (by omega) (by omega) (by omega)
