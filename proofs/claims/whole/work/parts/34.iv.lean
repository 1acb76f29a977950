def mh_dj (M : mg_M) (t : Nat) : Prop := ∀ i j : Nat, (i : Int) < gi M (t + 3) 0 → (j : Int) < gi M (t + 3) 0 → ∀ r c, mh_cv M t i r c → mh_cv M t j r c → i = j
def mh_iv (M N : mg_M) (t i : Nat) : Prop := mh_fx (t + 126) M N ∧ (∀ j : Nat, j < i → ∀ r c, mh_cv M t j r c → mh_at N t r c = j) ∧ (∀ p q, 0 ≤ p → p < gi M t 0 → 0 ≤ q → q < gi M t 1 → mh_at N t p q = -1 ∨ ∃ j : Nat, j < i ∧ mh_cv M t j p q)
theorem mh_iv0 {M : mg_M} {t : Nat} (ht : mg_tb M t) : mh_iv M (mh_fi (t + 126) (-1) M 120) t 0 := by
  refine ⟨mh_fi_fx, fun j hj => by omega, fun p q hp hp2 hq hq2 => Or.inl ?_⟩
  have b := ht.2.2
  unfold mh_at
  rw [mh_fi_at, if_pos (by omega)]
theorem mh_iv1 {M N : mg_M} {t i : Nat} (ht : mg_tb M t) (hl : mg_cL M (t + 3)) (hk : ∀ i : Nat, (i : Int) < gi M (t + 3) 0 → mh_ok M t i) (hd : mh_dj M t) (hi : (i : Int) < gi M (t + 3) 0) (v : mh_iv M N t i) : mh_iv M (mh_oR t i (gi N (gr N (t + 3 + 1) i) 1) (gi N (gr N (t + 3 + 1) i) 3).toNat (gi N (gr N (t + 3 + 1) i) 2).toNat (gi N (gr N (t + 3 + 1) i) 0) N) t (i + 1) := by
  obtain ⟨f, v1, v2⟩ := v
  have b := ht.2.2
  have z := hl.2.2.2.2.2.2.1
  have g8 := hl.2.2.2.2.2.2.2.1 i (by omega)
  have o := hk i hi
  have e := f.2.2.1 (t + 3 + 1) i
  have c0 := f.2.2.2.2.2.2 (gr M (t + 3 + 1) i) 0 (by omega)
  have c1 := f.2.2.2.2.2.2 (gr M (t + 3 + 1) i) 1 (by omega)
  have c2 := f.2.2.2.2.2.2 (gr M (t + 3 + 1) i) 2 (by omega)
  have c3 := f.2.2.2.2.2.2 (gr M (t + 3 + 1) i) 3 (by omega)
  have t0 := f.2.2.2.2.2.2 t 0 (by omega)
  have t1 := f.2.2.2.2.2.2 t 1 (by omega)
  rw [e, c0, c1, c2, c3]
  unfold mh_ok at o
  have A : ∀ p q, 0 ≤ p → 0 ≤ q → q < 10 → mh_at (mh_oR t i (gi M (gr M (t + 3 + 1) i) 1) (gi M (gr M (t + 3 + 1) i) 3).toNat (gi M (gr M (t + 3 + 1) i) 2).toNat (gi M (gr M (t + 3 + 1) i) 0) N) t p q = if (gi M (gr M (t + 3 + 1) i) 0 ≤ p ∧ p < gi M (gr M (t + 3 + 1) i) 0 + (gi M (gr M (t + 3 + 1) i) 2).toNat) ∧ gi M (gr M (t + 3 + 1) i) 1 ≤ q ∧ q < gi M (gr M (t + 3 + 1) i) 1 + (gi M (gr M (t + 3 + 1) i) 3).toNat then (i : Int) else mh_at N t p q :=
    fun p q hp hq hq2 => mh_oR_at (by omega) (by omega) (by omega) hp ⟨hq, hq2⟩
  refine ⟨mh_fx_tr f mh_oR_fx, ?_, ?_⟩
  · intro j hj p q hv
    have oj := hk j (by omega)
    have hv' := hv
    unfold mh_cv at hv'
    unfold mh_ok at oj
    rw [A p q (by omega) (by omega) (by omega)]
    by_cases w : j = i
    · subst w
      rw [if_pos (by omega)]
    · rw [if_neg ?_]
      · exact v1 j (by omega) p q hv
      · intro y
        exact w (hd j i (by omega) hi p q hv (by unfold mh_cv; omega))
  · intro p q hp hp2 hq hq2
    rw [A p q hp hq (by omega)]
    by_cases w : mh_cv M t i p q
    · exact Or.inr ⟨i, by omega, w⟩
    · rw [if_neg (by unfold mh_cv at w; omega)]
      cases v2 p q hp hp2 hq hq2 with
      | inl y => exact Or.inl y
      | inr y =>
        obtain ⟨j, hj, hv⟩ := y
        exact Or.inr ⟨j, by omega, hv⟩
theorem mh_iv_tl {M N : mg_M} {t i : Nat} (ht : mg_tb M t) (hl : mg_cL M (t + 3)) (hk : ∀ i : Nat, (i : Int) < gi M (t + 3) 0 → mh_ok M t i) (hi : (i : Int) = gi M (t + 3) 0) (v : mh_iv M N t i) : mh_tl N t := by
  obtain ⟨f, v1, v2⟩ := v
  have z := hl.2.2.2.2.2.2.1
  have g8 := hl.2.2.2.2.2.2.2.1
  have t0 := f.2.2.2.2.2.2 t 0 (by omega)
  have t1 := f.2.2.2.2.2.2 t 1 (by omega)
  have s0 := f.2.2.2.2.2.2 (t + 3) 0 (by omega)
  have e := f.2.2.1
  have ce : ∀ j : Nat, (j : Int) < gi M (t + 3) 0 → ∀ k, gi N (gr M (t + 3 + 1) j) k = gi M (gr M (t + 3 + 1) j) k := fun j hj k => f.2.2.2.2.2.2 _ k (by have := g8 j (by omega); omega)
  have cv : ∀ j : Nat, (j : Int) < gi M (t + 3) 0 → ∀ p q, mh_cv N t j p q ↔ mh_cv M t j p q := by
    intro j hj p q
    unfold mh_cv
    rw [e, ce j hj 0, ce j hj 1, ce j hj 2, ce j hj 3]
  refine ⟨mh_fx_tb f (by omega) ht, mh_fx_cL f (by omega) hl, ?_, ?_, ?_⟩
  · intro j hj
    rw [s0] at hj
    have o := hk j hj
    unfold mh_ok at *
    rw [e, ce j hj 0, ce j hj 1, ce j hj 2, ce j hj 3, t0, t1]
    exact o
  · intro j hj p q hv
    rw [s0] at hj
    exact v1 j (by omega) p q ((cv j hj p q).1 hv)
  · intro p q hp hp2 hq hq2
    rw [t0] at hp2
    rw [t1] at hq2
    cases v2 p q hp hp2 hq hq2 with
    | inl y => exact Or.inl y
    | inr y =>
      obtain ⟨j, hj, hv⟩ := y
      exact Or.inr ⟨j, by rw [s0]; omega, (cv j (by omega) p q).2 hv⟩
