def mh_at (M : mg_M) (t : Nat) (r c : Int) : Int := gi M (t + 126) (r * 10 + c).toNat
theorem mh_oC_fx {t n : Nat} {r x c : Int} {M : mg_M} : mh_fx (t + 126) M (mh_oC t r x n c M) := by
  induction n generalizing c M with
  | zero => exact mh_fx_rfl
  | succ n ih => exact mh_fx_tr mh_fx_so ih
theorem mh_oR_fx {t n w : Nat} {x c r : Int} {M : mg_M} : mh_fx (t + 126) M (mh_oR t x c w n r M) := by
  induction n generalizing r M with
  | zero => exact mh_fx_rfl
  | succ n ih => exact mh_fx_tr mh_oC_fx ih
theorem mh_so_at {M : mg_M} {t : Nat} {r c x p q : Int} (hC : gi M t 1 ≤ 10) (hp : 0 ≤ p) (hq : 0 ≤ q ∧ q < 10) : mh_at (mh_so M t r c x) t p q = if (0 ≤ r ∧ r < gi M t 0 ∧ 0 ≤ c ∧ c < gi M t 1) ∧ p = r ∧ q = c then x else mh_at M t p q := by
  unfold mh_so mh_at
  by_cases h : 0 ≤ r ∧ r < gi M t 0 ∧ 0 ≤ c ∧ c < gi M t 1
  · rw [if_pos h, gi_si]
    simp only [h, true_and, and_self]
    by_cases e : (p * 10 + q).toNat = (r * 10 + c).toNat
    · rw [if_pos e, if_pos (by omega)]
    · rw [if_neg e, if_neg (by intro z; apply e; rw [z.1, z.2])]
  · rw [if_neg h, if_neg (fun z => h z.1)]
theorem mh_oC_at {t n : Nat} {r x c p q : Int} {M : mg_M} (hC : gi M t 1 ≤ 10) (hr : 0 ≤ r ∧ r < gi M t 0) (hc : 0 ≤ c ∧ c + n ≤ gi M t 1) (hp : 0 ≤ p) (hq : 0 ≤ q ∧ q < 10) : mh_at (mh_oC t r x n c M) t p q = if p = r ∧ c ≤ q ∧ q < c + n then x else mh_at M t p q := by
  induction n generalizing c M with
  | zero =>
    rw [if_neg (by omega)]
    rfl
  | succ n ih =>
    have f := @mh_fx_so t r c x M
    have f0 := f.2.2.2.2.2.2 t 0 (by omega)
    have f1 := f.2.2.2.2.2.2 t 1 (by omega)
    show mh_at (mh_oC t r x n (c + 1) (mh_so M t r c x)) t p q = _
    rw [ih (by omega) (by omega) (by omega), mh_so_at hC hp hq]
    (repeat' split) <;> first | rfl | omega
theorem mh_oR_at {t n w : Nat} {r x c p q : Int} {M : mg_M} (hC : gi M t 1 ≤ 10) (hr : 0 ≤ r ∧ r + n ≤ gi M t 0) (hc : 0 ≤ c ∧ c + w ≤ gi M t 1) (hp : 0 ≤ p) (hq : 0 ≤ q ∧ q < 10) : mh_at (mh_oR t x c w n r M) t p q = if (r ≤ p ∧ p < r + n) ∧ c ≤ q ∧ q < c + w then x else mh_at M t p q := by
  induction n generalizing r M with
  | zero =>
    rw [if_neg (by omega)]
    rfl
  | succ n ih =>
    have f := @mh_oC_fx t w r x c M
    have f0 := f.2.2.2.2.2.2 t 0 (by omega)
    have f1 := f.2.2.2.2.2.2 t 1 (by omega)
    show mh_at (mh_oR t x c w n (r + 1) (mh_oC t r x w c M)) t p q = _
    rw [ih (by omega) (by omega) (by omega), mh_oC_at hC (by omega) (by omega) hp hq]
    (repeat' split) <;> first | rfl | omega
/-! no more live cells than squares that are owned -/
theorem mh_pig (m : Nat) : ∀ (n : Nat) (f : Nat → Nat), (∀ i, i < n → f i < m) → (∀ i j, i < n → j < n → f i = f j → i = j) → n ≤ m := by
  induction m with
  | zero =>
    intro n f h _
    by_cases q : n = 0
    · omega
    · have := h 0 (by omega)
      omega
  | succ m ih =>
    intro n f h g
    by_cases q : n = 0
    · omega
    · have key : n - 1 ≤ m := by
        refine ih (n - 1) (fun i => if f i = m then f (n - 1) else f i) ?_ ?_
        · intro i hi
          have h1 := h i (by omega)
          have h2 := h (n - 1) (by omega)
          show (if f i = m then f (n - 1) else f i) < m
          split
          · by_cases z : f (n - 1) = m
            · have := g i (n - 1) (by omega) (by omega) (by omega)
              omega
            · omega
          · omega
        · intro i j hi hj e
          have e' : (if f i = m then f (n - 1) else f i) = (if f j = m then f (n - 1) else f j) := e
          split at e' <;> split at e'
          · exact g i j (by omega) (by omega) (by omega)
          · have := g (n - 1) j (by omega) (by omega) e'
            omega
          · have := g i (n - 1) (by omega) (by omega) e'
            omega
          · exact g i j (by omega) (by omega) e'
      omega
