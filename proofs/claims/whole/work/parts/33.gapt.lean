theorem mh_gp_tl {M : mg_M} {t : Nat} {r c : Int} (h : mh_tl M t) (hr : 0 ≤ r ∧ r < gi M t 0) (hc : 0 ≤ c ∧ c < gi M t 1) (hb : mh_at M t r c = -1) : mh_tl (mh_gp M t r c) t := by
  have room := mh_room h hr hc hb
  obtain ⟨f1, f2, f3, f4, f5, f6, f7, f8, f9, a0, a1, a2, a3, a4, a5⟩ := mh_gp_rd h hr hc hb
  obtain ⟨ht, hl, hk, ha, hs⟩ := h
  have b := ht.2.2
  have z := hl.2.2.2.2.2.2.1
  have g8 := hl.2.2.2.2.2.2.2.1
  have g9 := hl.2.2.2.2.2.2.2.2
  generalize hN : mh_gp M t r c = N at *
  obtain ⟨s, hs0⟩ : ∃ s : Nat, gi M (t + 3) 0 = s := ⟨(gi M (t + 3) 0).toNat, by omega⟩
  have hss : (gi M (t + 3) 0).toNat = s := by omega
  rw [hss] at a0 a1 a2 a3 a4 a5 f7
  have ga := g8 s (by omega)
  have t0 := f7 t 0 (by omega) (by omega) (by omega)
  have t1 := f7 t 1 (by omega) (by omega) (by omega)
  have t2 := f7 t 2 (by omega) (by omega) (by omega)
  have ce : ∀ i : Nat, (i : Int) < gi M (t + 3) 0 → ∀ k, gi N (gr M (t + 3 + 1) i) k = gi M (gr M (t + 3 + 1) i) k := by
    intro i hi k
    have gi' := g8 i (by omega)
    refine f7 _ k (by omega) (by omega) ?_
    intro e
    have := g9 i s (by omega) (by omega) e
    omega
  have cvo : ∀ i : Nat, (i : Int) < gi M (t + 3) 0 → ∀ p q, mh_cv N t i p q ↔ mh_cv M t i p q := by
    intro i hi p q
    unfold mh_cv
    rw [f3, ce i hi 0, ce i hi 1, ce i hi 2, ce i hi 3]
  have cvs : ∀ p q, mh_cv N t s p q ↔ (p = r ∧ q = c) := by
    intro p q
    unfold mh_cv
    rw [f3, a0, a1, a2, a3]
    omega
  refine ⟨?_, ?_, ?_, ?_, ?_⟩
  · unfold mg_tb at *
    rw [t0, t1, t2]
    simp only [f1, f2, f3]
    exact ht
  · have hl' := hl
    obtain ⟨g1, g2, g3, g4, g5, g6, g7, _, _⟩ := hl'
    unfold mg_cL
    rw [f8]
    simp only [f1, f2, f3]
    exact ⟨g1, g2, g3, g4, g5, g6, by omega, g8, g9⟩
  · intro i hi
    unfold mh_ok
    rw [f3, t0, t1]
    by_cases e : i = s
    · rw [e, a0, a1, a2, a3]
      omega
    · have hi2 : (i : Int) < gi M (t + 3) 0 := by omega
      rw [ce i hi2 0, ce i hi2 1, ce i hi2 2, ce i hi2 3]
      exact hk i hi2
  · intro i hi p q hv
    by_cases e : i = s
    · rw [e] at hv
      have := (cvs p q).1 hv
      rw [f9 p q (by omega) (by omega) (by omega), if_pos this]
      omega
    · have hi2 : (i : Int) < gi M (t + 3) 0 := by omega
      have hv2 := (cvo i hi2 p q).1 hv
      have w := ha i hi2 p q hv2
      have o := hk i hi2
      unfold mh_ok at o
      unfold mh_cv at hv2
      rw [f9 p q (by omega) (by omega) (by omega), if_neg ?_]
      · exact w
      · intro y
        rw [y.1, y.2, hb] at w
        omega
  · intro p q hp hp2 hq hq2
    rw [t0] at hp2
    rw [t1] at hq2
    rw [f9 p q hp hq (by omega), f8]
    by_cases y : p = r ∧ q = c
    · exact Or.inr ⟨s, by omega, (cvs p q).2 y⟩
    · rw [if_neg y]
      cases hs p q hp hp2 hq hq2 with
      | inl w => exact Or.inl w
      | inr w =>
        obtain ⟨i, hi, hv⟩ := w
        exact Or.inr ⟨i, by omega, (cvo i hi p q).2 hv⟩
