theorem mh_fx_tl {M N : mg_M} {t b : Nat} (f : mh_fx b M N) (hb : kd M b = 1) (tl : mh_tl M t) : mh_tl N t ∧ (∀ r c, mh_at N t r c = mh_at M t r c) ∧ (∀ r c, mh_co N t r c = mh_co M t r c) ∧ gi N t 0 = gi M t 0 ∧ gi N t 1 = gi M t 1 ∧ gi N (t + 3) 0 = gi M (t + 3) 0 := by
  obtain ⟨ht, hc, hk, ha, hs⟩ := tl
  have g1 := ht.1.1
  have c4 := hc.1
  have b5 := ht.2.1.2.2.1.1
  have z := hc.2.2.2.2.2.2.1
  have g8 := hc.2.2.2.2.2.2.2.1
  have nt : t ≠ b := fun e => by rw [e] at g1; omega
  have nc : t + 3 ≠ b := fun e => by rw [e] at c4; omega
  have no : t + 126 ≠ b := fun e => by rw [e] at b5; omega
  have na : ∀ i : Nat, i < 120 → gr M (t + 3 + 1) i ≠ b := fun i hi q => by have := (g8 i hi).1; rw [q] at this; omega
  have t0 := f.2.2.2.2.2.2 t 0 nt
  have t1 := f.2.2.2.2.2.2 t 1 nt
  have s0 := f.2.2.2.2.2.2 (t + 3) 0 nc
  have e := f.2.2.1
  have at' : ∀ r c, mh_at N t r c = mh_at M t r c := fun r c => f.2.2.2.2.2.2 (t + 126) _ no
  have ow : ∀ r c, mh_ow N t r c = mh_ow M t r c := by
    intro r c
    unfold mh_ow
    rw [t0, t1, f.2.2.2.2.2.2 (t + 126) _ no]
  have ce : ∀ i : Nat, (i : Int) < gi M (t + 3) 0 → ∀ k, gi N (gr M (t + 3 + 1) i) k = gi M (gr M (t + 3 + 1) i) k := fun i hi k => f.2.2.2.2.2.2 _ k (na i (by omega))
  have cv : ∀ i : Nat, (i : Int) < gi M (t + 3) 0 → ∀ p q, mh_cv N t i p q ↔ mh_cv M t i p q := by
    intro i hi p q
    unfold mh_cv
    rw [e, ce i hi 0, ce i hi 1, ce i hi 2, ce i hi 3]
  refine ⟨⟨mh_fx_tb f nt ht, mh_fx_cL f nc hc, ?_, ?_, ?_⟩, at', ?_, t0, t1, s0⟩
  · intro i hi
    rw [s0] at hi
    have o := hk i hi
    unfold mh_ok at *
    rw [e, ce i hi 0, ce i hi 1, ce i hi 2, ce i hi 3, t0, t1]
    exact o
  · intro i hi p q hv
    rw [s0] at hi
    rw [at']
    exact ha i hi p q ((cv i hi p q).1 hv)
  · intro p q hp hp2 hq hq2
    rw [t0] at hp2
    rw [t1] at hq2
    rw [at', s0]
    cases hs p q hp hp2 hq hq2 with
    | inl y => exact Or.inl y
    | inr y =>
      obtain ⟨i, hi, hv⟩ := y
      exact Or.inr ⟨i, hi, (cv i hi p q).2 hv⟩
  · intro r c
    unfold mh_co
    rw [e, ow]
def mh_bw (t b : Nat) (M : mg_M) (x y : Int) : Nat → Int → mg_M → mg_M
  | 0, _, N => N
  | n + 1, r, N => mh_bw t b M x y n (r + 1) (mh_tk (mh_tk N b (mh_co M t r x)) b (mh_co M t r y))
def mh_bh (t b : Nat) (M : mg_M) (x y : Int) : Nat → Int → mg_M → mg_M
  | 0, _, N => N
  | n + 1, c, N => mh_bh t b M x y n (c + 1) (mh_tk (mh_tk N b (mh_co M t x c)) b (mh_co M t y c))
def mh_nb (M : mg_M) (t : Nat) : Prop := ∀ p q, 0 ≤ p → p < gi M t 0 → 0 ≤ q → q < gi M t 1 → mh_at M t p q ≠ -1
theorem mh_co_sm {M : mg_M} {t : Nat} {r c : Int} (tl : mh_tl M t) (nb : mh_nb M t) (hr : 0 ≤ r ∧ r < gi M t 0) (hc : 0 ≤ c ∧ c < gi M t 1) : mg_sm M (mh_co M t r c) := by
  obtain ⟨i, hi, _, e⟩ := mh_tl_ow tl hr hc (nb r c hr.1 hr.2 hc.1 hc.2)
  have := mh_tl_sm tl i hi
  unfold mh_co
  rw [e]
  exact this
