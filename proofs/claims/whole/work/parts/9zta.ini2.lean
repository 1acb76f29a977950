/-! the invariant at the start₀ -/
theorem mh_K_eq {M N : mg_M} {g₀ t₀ u₀ : Nat} (h₀ : ∀ a₀, g₀ ≤ a₀ → a₀ < g₀ + 385 → kd N a₀ = kd M a₀ ∧ ln N a₀ = ln M a₀ ∧ (∀ k₀, gr N a₀ k₀ = gr M a₀ k₀) ∧ ∀ k₀, gi N a₀ k₀ = gi M a₀ k₀) (K9 : mh_K M g₀ t₀ u₀) : mh_K N g₀ t₀ u₀ := by
  obtain ⟨⟨G, g1, g3₀, g4, g5₀⟩, ⟨ka, kb, kk, kg, ck⟩, pl, ⟨tl, nb⟩, ⟨tbu, clu⟩, rb⟩ := K9
  have e₀ : mh_eq M N t₀ := fun a₀ h1 h2 => h₀ a₀ (by omega) (by omega)
  have eu : mh_eq M N u₀ := fun a₀ h1 h2 => h₀ a₀ (by omega) (by omega)
  have v0₀ := (e₀ t₀ (by omega) (by omega)).2.2.2
  have v9 := (h₀ (g₀ + 259) (by omega) (by omega)).2.2.2
  have hg := h₀ g₀ (by omega) (by omega)
  have hk := h₀ (g₀ + 261) (by omega) (by omega)
  refine ⟨⟨⟨hg.1.trans G.1, (hg.2.2.1 0).trans G.2.1, ((e₀ t₀ (by omega) (by omega)).1).trans G.2.2.1, G.2.2.2⟩, (hg.2.2.1 1).trans g1, (hg.2.2.1 3).trans g3₀, (hg.2.2.1 4).trans g4, (hg.2.2.1 5).trans g5₀⟩, ⟨((h₀ (g₀ + 259) (by omega) (by omega)).1).trans ka, ((h₀ (g₀ + 260) (by omega) (by omega)).1).trans kb, hk.1.trans kk, (hk.2.2.1 2).trans kg, mh_cL_lo ck (fun a₀ h1 h2 => h₀ a₀ (by omega) (by omega))⟩, pl, mh_eq_tl e₀ tl nb, ⟨mh_eq_tb eu tbu, mh_eq_cL eu clu⟩, by rw [v0₀, v0₀]; exact rb.1, by rw [v0₀, v0₀]; exact rb.2.1, ?_⟩
  have := rb.2.2
  unfold mh_ar at *
  rw [v0₀, v0₀, v9, v9, v9, v9]
  exact this
theorem mh_INV_new {M0 N P Q₀ : mg_M} {g₀ m₀ : Nat} (h₀ : mh_N0 M0 N g₀) (hm₀ : m₀ = g₀ + 385) (h7 : mm_new0 (al N 7 0) P m₀) (hQ : ∀ a₀, a₀ < m₀ + 18 → kd Q₀ a₀ = kd P a₀ ∧ ln Q₀ a₀ = ln P a₀ ∧ (∀ k₀, gr Q₀ a₀ k₀ = gr P a₀ k₀) ∧ ∀ k₀, gi Q₀ a₀ k₀ = gi P a₀ k₀) : mh_INV Q₀ g₀ m₀ (g₀ + 1) (g₀ + 130) := by
  obtain ⟨⟨nx0, -⟩, K9, g2, ⟨s0₀, s1₀, s2₀, s3₀⟩, b0, ⟨d0₀, d1₀, d2₀⟩, co, wd, ht⟩ := h₀
  obtain ⟨st₀, -, lo, ⟨m1₀, m2₀, m3₀, m10₀⟩, ⟨m21, m22, m23, m24⟩, ⟨m25, m26, m27⟩, m4₀, i1₀, i2₀, i3₀, i4₀, w5, h5⟩ := h7
  have A₀ : ∀ a₀, g₀ ≤ a₀ → a₀ < g₀ + 385 → kd Q₀ a₀ = kd N a₀ ∧ ln Q₀ a₀ = ln N a₀ ∧ (∀ k₀, gr Q₀ a₀ k₀ = gr N a₀ k₀) ∧ ∀ k₀, gi Q₀ a₀ k₀ = gi N a₀ k₀ := by
    intro a₀ h1 h2
    obtain ⟨q1₀, q2₀, q3₀, q4₀⟩ := hQ a₀ (by omega)
    obtain ⟨p1₀, p2₀, p3₀, p4₀, -, -⟩ := lo a₀ (by omega)
    refine ⟨(q1₀.trans p1₀).trans ?_, (q2₀.trans p2₀).trans ?_, fun k₀ => ((q3₀ k₀).trans (p3₀ k₀)).trans ?_, fun k₀ => ((q4₀ k₀).trans (p4₀ k₀)).trans ?_⟩
    · rw [kd_al, if_neg (by omega)]
    · rw [ln_al, if_neg (by omega)]
    · rw [gr_al, if_neg (by omega)]
    · rw [gi_al, if_neg (by omega)]
  clear lo
  have KQ := mh_K_eq A₀ K9
  obtain ⟨tl, nb⟩ := K9.2.2.2.1
  obtain ⟨tlQ, nbQ⟩ := KQ.2.2.2.1
  have e₀ : mh_eq N Q₀ (g₀ + 1) := fun a₀ h1 h2 => A₀ a₀ (by omega) (by omega)
  have v0₀ := (e₀ (g₀ + 1) (by omega) (by omega)).2.2.2
  have v1₀ := (e₀ (g₀ + 1 + 1) (by omega) (by omega)).2.2.2
  have v2 := (e₀ (g₀ + 1 + 2) (by omega) (by omega)).2.2.2
  have x0₀ := (v0₀ 0).trans d0₀
  have x1₀ := (v0₀ 1).trans d1₀
  have x2₀ := (v0₀ 2).trans d2₀
  have coQ : ∀ p₀ q₀, mh_rg 4 4 p₀ q₀ → (gi Q₀ (mh_co Q₀ (g₀ + 1) p₀ q₀) 0 = p₀ ∧ gi Q₀ (mh_co Q₀ (g₀ + 1) p₀ q₀) 1 = q₀ ∧ gi Q₀ (mh_co Q₀ (g₀ + 1) p₀ q₀) 2 = 1 ∧ gi Q₀ (mh_co Q₀ (g₀ + 1) p₀ q₀) 3 = 1) ∧ gi Q₀ (mh_co Q₀ (g₀ + 1) p₀ q₀) 4 = 0 ∧ gi Q₀ (mh_co Q₀ (g₀ + 1) p₀ q₀) 5 = 0 := by
    intro p₀ q₀ hr
    have c₀ := fun k₀ => mh_eq_ct e₀ tl nb (p₀ := p₀) (q₀ := q₀) (by rw [d0₀, d1₀]; exact hr) k₀
    simp only [c₀]
    exact co p₀ q₀ hr
  have sqc : ∀ p₀ q₀, mh_rg 4 4 p₀ q₀ → ∃ i₀ : Nat, (i₀ : Int) < gi Q₀ (g₀ + 1 + 3) 0 ∧ i₀ < 120 ∧ mh_cv Q₀ (g₀ + 1) i₀ p₀ q₀ ∧ mh_at Q₀ (g₀ + 1) p₀ q₀ = i₀ ∧ mh_co Q₀ (g₀ + 1) p₀ q₀ = gr Q₀ (g₀ + 1 + 3 + 1) i₀ := fun p₀ q₀ hr => mh_sqc tlQ nbQ (by rw [x0₀, x1₀]; exact hr)
  have cells₀ : ∀ i₀ : Nat, (i₀ : Int) < gi Q₀ (g₀ + 1 + 3) 0 → ∃ p₀ q₀, mh_rg 4 4 p₀ q₀ ∧ mh_co Q₀ (g₀ + 1) p₀ q₀ = gr Q₀ (g₀ + 1 + 3 + 1) i₀ := by
    intro i₀ hi
    have ok₀ := tlQ.2.2.1 i₀ hi
    unfold mh_ok at ok₀
    rw [x0₀, x1₀] at ok₀
    have ow := tlQ.2.2.2.1 i₀ hi (gi Q₀ (gr Q₀ (g₀ + 1 + 3 + 1) i₀) 0) (gi Q₀ (gr Q₀ (g₀ + 1 + 3 + 1) i₀) 1) (by unfold mh_cv; omega)
    have hr : mh_rg 4 4 (gi Q₀ (gr Q₀ (g₀ + 1 + 3 + 1) i₀) 0) (gi Q₀ (gr Q₀ (g₀ + 1 + 3 + 1) i₀) 1) := by omega
    obtain ⟨j₀, _, _, _, ej, ec⟩ := sqc _ _ hr
    have : j₀ = i₀ := by omega
    subst this
    exact ⟨_, _, hr, ec⟩
  have vm₀ := (hQ m₀ (by omega)).2.2.2
  have va : ∀ o, o < 18 → ∀ k₀, gi Q₀ (m₀ + o) k₀ = gi P (m₀ + o) k₀ := fun o ho k₀ => (hQ (m₀ + o) (by omega)).2.2.2 k₀
  have am : ∀ k₀ o n₀, o < 18 → mm_ar P m₀ k₀ o n₀ → mm_ar Q₀ m₀ k₀ o n₀ := fun k₀ o n₀ ho h₀ => ⟨((hQ m₀ (by omega)).2.2.1 k₀).trans h₀.1, ((hQ (m₀ + o) (by omega)).1).trans h₀.2.1, ((hQ (m₀ + o) (by omega)).2.1).trans h₀.2.2⟩
  have mi1 : mi Q₀ (m₀ + 1) = mi P (m₀ + 1) := by funext p₀ q₀; exact va 1 (by omega) _
  have g2Q := ((A₀ g₀ (by omega) (by omega)).2.2.2 2).trans g2
  have v9 := (A₀ (g₀ + 259) (by omega) (by omega)).2.2.2
  refine ⟨KQ, ⟨fun i₀ hi => ?_, fun k₀ hk => ?_, fun k₀ hk => ?_⟩, ⟨?_, by omega⟩, ⟨by rw [vm₀, m1₀, x0₀], by rw [vm₀, m2₀, x1₀], by rw [vm₀, m3₀, x2₀]⟩, ?_, ?_, ?_, ⟨⟨by rw [vm₀, m10₀, g2Q], Or.inl g2Q⟩, fun w₀ => by rw [g2Q] at w₀; omega⟩, Or.inl ⟨((A₀ (g₀ + 261) (by omega) (by omega)).2.2.2 0).trans b0, (vm₀ 25).trans m25, (vm₀ 26).trans m26, (vm₀ 27).trans m27⟩⟩
  · obtain ⟨p₀, q₀, hr, ec⟩ := cells₀ i₀ hi
    have c₀ := (coQ p₀ q₀ hr).2.1
    rw [ec] at c₀
    omega
  · rw [x1₀] at hk
    have w₀ := wd k₀ (by omega) (by omega)
    rw [Int.toNat_natCast] at w₀
    rw [v2, w₀]
    omega
  · rw [x0₀] at hk
    have w₀ := ht k₀ (by omega) (by omega)
    rw [Int.toNat_natCast] at w₀
    rw [v1₀, w₀]
    omega
  · obtain ⟨k7₀, ⟨a1₀, a2, a3, a4, a5⟩, ⟨a6, a7, a8, a9, a10⟩, a11, a12, ⟨a13, a14, a15⟩, a16, a17⟩ := st₀
    exact ⟨((hQ m₀ (by omega)).1).trans k7₀, ⟨am _ _ _ (by omega) a1₀, am _ _ _ (by omega) a2, am _ _ _ (by omega) a3, am _ _ _ (by omega) a4, am _ _ _ (by omega) a5⟩, ⟨am _ _ _ (by omega) a6, am _ _ _ (by omega) a7, am _ _ _ (by omega) a8, am _ _ _ (by omega) a9, am _ _ _ (by omega) a10⟩, am _ _ _ (by omega) a11, am _ _ _ (by omega) a12, ⟨am _ _ _ (by omega) a13, am _ _ _ (by omega) a14, am _ _ _ (by omega) a15⟩, am _ _ _ (by omega) a16, am _ _ _ (by omega) a17⟩
  · unfold mh_SQ
    rw [x0₀, x1₀, mi1]
    refine ⟨fun p₀ q₀ hr => ?_, fun p₀ q₀ p' q' hr hr' => ?_, fun p₀ q₀ hr => ?_, fun k₀ k0₀ k1₀ => ?_, fun k₀ k0₀ k1₀ => ?_⟩
    · have := i1₀ p₀ q₀ hr
      omega
    · rw [i3₀ p₀ q₀ p' q' hr hr']
      constructor
      · rintro ⟨rfl, rfl⟩
        rfl
      · intro w₀
        obtain ⟨i₀, _, _, _, ei, ec⟩ := sqc p₀ q₀ hr
        obtain ⟨j₀, _, _, _, ej, ed⟩ := sqc p' q' hr'
        have : i₀ = j₀ := by omega
        subst this
        have c₀ := (coQ p₀ q₀ hr).1
        have d₀ := (coQ p' q' hr').1
        rw [ec] at c₀
        rw [ed] at d₀
        omega
    · have c₀ := (coQ p₀ q₀ hr).2
      have d₀ := i4₀ p₀ q₀ hr
      rw [c₀.1, c₀.2]
      exact ⟨(va 2 (by omega) _).trans d₀.1, (va 3 (by omega) _).trans d₀.2⟩
    · have w₀ := w5 k₀.toNat (by omega)
      rw [v2, wd k₀ k0₀ k1₀]
      exact (va 4 (by omega) _).trans w₀
    · have w₀ := h5 k₀.toNat (by omega)
      rw [v1₀, ht k₀ k0₀ k1₀]
      exact (va 5 (by omega) _).trans w₀
  · unfold mh_mod
    rw [vm₀, vm₀, vm₀, m1₀, m2₀, mi1]
    exact ⟨m4₀, i1₀, i2₀⟩
  · unfold mh_sel
    rw [vm₀, vm₀, vm₀, vm₀, v9, v9, v9, v9, m21, m22, m23, m24, s0₀, s1₀, s2₀, s3₀]
    refine ⟨by omega, ?_⟩
    intro i₀ hi w₀
    obtain ⟨p₀, q₀, hr, ec⟩ := cells₀ i₀ hi
    have c₀ := (coQ p₀ q₀ hr).1
    rw [ec] at c₀
    omega
