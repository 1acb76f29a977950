def mh_cv (M : mg_M) (t i : Nat) (r c : Int) : Prop := gi M (gr M (t + 3 + 1) i) 0 ≤ r ∧ r < gi M (gr M (t + 3 + 1) i) 0 + gi M (gr M (t + 3 + 1) i) 2 ∧ gi M (gr M (t + 3 + 1) i) 1 ≤ c ∧ c < gi M (gr M (t + 3 + 1) i) 1 + gi M (gr M (t + 3 + 1) i) 3
def mh_ok (M : mg_M) (t i : Nat) : Prop := (0 ≤ gi M (gr M (t + 3 + 1) i) 0 ∧ 1 ≤ gi M (gr M (t + 3 + 1) i) 2 ∧ gi M (gr M (t + 3 + 1) i) 0 + gi M (gr M (t + 3 + 1) i) 2 ≤ gi M t 0) ∧ (0 ≤ gi M (gr M (t + 3 + 1) i) 1 ∧ 1 ≤ gi M (gr M (t + 3 + 1) i) 3 ∧ gi M (gr M (t + 3 + 1) i) 1 + gi M (gr M (t + 3 + 1) i) 3 ≤ gi M t 1)
def mh_tl (M : mg_M) (t : Nat) : Prop := mg_tb M t ∧ mg_cL M (t + 3) ∧ (∀ i : Nat, (i : Int) < gi M (t + 3) 0 → mh_ok M t i) ∧ (∀ i : Nat, (i : Int) < gi M (t + 3) 0 → ∀ r c, mh_cv M t i r c → mh_at M t r c = i) ∧ (∀ r c, 0 ≤ r → r < gi M t 0 → 0 ≤ c → c < gi M t 1 → mh_at M t r c = -1 ∨ ∃ i : Nat, (i : Int) < gi M (t + 3) 0 ∧ mh_cv M t i r c)
theorem mh_ok_sm {M : mg_M} {t i : Nat} (ht : mg_tb M t) (h : mh_ok M t i) (k : kd M (gr M (t + 3 + 1) i) = 3) : mg_sm M (gr M (t + 3 + 1) i) := by
  obtain ⟨h1, h2⟩ := h
  have := ht.2.2
  exact ⟨k, by omega, by omega⟩
theorem mh_tl_sm {M : mg_M} {t : Nat} (h : mh_tl M t) : mg_cS M (t + 3) := by
  intro i hi
  have g7 := h.2.1.2.2.2.2.2.2.1
  have g8 := h.2.1.2.2.2.2.2.2.2.1 i (by omega)
  exact mh_ok_sm h.1 (h.2.2.1 i hi) g8.1
theorem mh_ok_cv {M : mg_M} {t i : Nat} (h : mh_ok M t i) : mh_cv M t i (gi M (gr M (t + 3 + 1) i) 0) (gi M (gr M (t + 3 + 1) i) 1) := by
  obtain ⟨h1, h2⟩ := h
  unfold mh_cv
  omega
theorem mh_room {M : mg_M} {t : Nat} {r c : Int} (h : mh_tl M t) (hr : 0 ≤ r ∧ r < gi M t 0) (hc : 0 ≤ c ∧ c < gi M t 1) (hb : mh_at M t r c = -1) : gi M (t + 3) 0 < 120 := by
  obtain ⟨ht, hl, hk, ha, _⟩ := h
  have b := ht.2.2
  have z := hl.2.2.2.2.2.2.1
  generalize hs : (gi M (t + 3) 0).toNat = s at *
  have key : s + 1 ≤ 120 := by
    refine mh_pig 120 (s + 1) (fun i => if i = s then (r * 10 + c).toNat else (gi M (gr M (t + 3 + 1) i) 0 * 10 + gi M (gr M (t + 3 + 1) i) 1).toNat) ?_ ?_
    · intro i hi
      show (if i = s then _ else _) < 120
      split
      · omega
      · have := hk i (by omega)
        unfold mh_ok at this
        omega
    · intro i j hi hj e
      have e' : (if i = s then (r * 10 + c).toNat else (gi M (gr M (t + 3 + 1) i) 0 * 10 + gi M (gr M (t + 3 + 1) i) 1).toNat) = (if j = s then (r * 10 + c).toNat else (gi M (gr M (t + 3 + 1) j) 0 * 10 + gi M (gr M (t + 3 + 1) j) 1).toNat) := e
      split at e' <;> split at e'
      · omega
      · have q := hk j (by omega)
        have w := ha j (by omega) _ _ (mh_ok_cv q)
        unfold mh_at at w hb
        rw [← e', hb] at w
        omega
      · have q := hk i (by omega)
        have w := ha i (by omega) _ _ (mh_ok_cv q)
        unfold mh_at at w hb
        rw [e', hb] at w
        omega
      · have q := hk i (by omega)
        have w := ha i (by omega) _ _ (mh_ok_cv q)
        have q2 := hk j (by omega)
        have w2 := ha j (by omega) _ _ (mh_ok_cv q2)
        unfold mh_at at w w2
        rw [e', w2] at w
        omega
  omega
