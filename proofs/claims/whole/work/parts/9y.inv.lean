/-! the invariant of both₀ -/
def mh_sel (M : mg_M) (g₀ m₀ t₀ : Nat) : Prop := (gi M m₀ 21 = gi M (g₀ + 259) 0 ∧ gi M m₀ 22 = gi M (g₀ + 259) 2 ∧ gi M m₀ 23 = gi M (g₀ + 259) 1 ∧ gi M m₀ 24 = gi M (g₀ + 259) 3) ∧ mh_cc M t₀ (gi M (g₀ + 259) 0) (gi M (g₀ + 259) 2) (gi M (g₀ + 259) 1) (gi M (g₀ + 259) 3)
def mh_old (M : mg_M) (m₀ u₀ : Nat) : Prop := (mh_tl M u₀ ∧ mh_nb M u₀) ∧ (gi M m₀ 11 = gi M u₀ 0 ∧ gi M m₀ 12 = gi M u₀ 1 ∧ gi M m₀ 13 = gi M u₀ 2) ∧ ((1 ≤ gi M u₀ 0 ∧ 1 ≤ gi M u₀ 1) ∧ (0 ≤ gi M u₀ 2 ∧ gi M u₀ 2 ≤ gi M u₀ 0)) ∧ mh_SQ M u₀ (m₀ + 6) ∧ mh_V M u₀
def mh_bkt (M : mg_M) (g₀ m₀ : Nat) : Prop := (gi M (g₀ + 261) 0 = 0 ∧ gi M m₀ 25 = 0 ∧ gi M m₀ 26 = 0 ∧ gi M m₀ 27 = 0) ∨ ((gi M (g₀ + 261) 0 = gi M m₀ 25 ∧ gi M (g₀ + 261) 1 = gi M m₀ 26 ∧ gi M m₀ 27 = gi M (g₀ + 261 + 1) 0) ∧ ((1 ≤ gi M m₀ 25 ∧ gi M m₀ 25 ≤ 12) ∧ (1 ≤ gi M m₀ 26 ∧ gi M m₀ 26 ≤ 10)) ∧ mh_bl M (g₀ + 261 + 1) (gi M m₀ 25) (gi M m₀ 26) ∧ (∀ p₀ q₀, mh_rg (gi M m₀ 25) (gi M m₀ 26) p₀ q₀ → 0 ≤ mi M (m₀ + 13) p₀ q₀ ∧ mi M (m₀ + 13) p₀ q₀ < 120) ∧ (∀ p₀ q₀ p' q', mh_rg (gi M m₀ 25) (gi M m₀ 26) p₀ q₀ → mh_rg (gi M m₀ 25) (gi M m₀ 26) p' q' → (mi M (m₀ + 13) p₀ q₀ = mi M (m₀ + 13) p' q' ↔ ∃ i₀ : Nat, (i₀ : Int) < gi M (g₀ + 261 + 1) 0 ∧ mh_cb M (g₀ + 261 + 1) i₀ p₀ q₀ ∧ mh_cb M (g₀ + 261 + 1) i₀ p' q')) ∧ ∀ i₀ : Nat, (i₀ : Int) < gi M (g₀ + 261 + 1) 0 → ∀ p₀ q₀, mh_cb M (g₀ + 261 + 1) i₀ p₀ q₀ → gi M (m₀ + 14) (mi M (m₀ + 13) p₀ q₀).toNat = gi M (gr M (g₀ + 261 + 1 + 1) i₀) 4 ∧ gi M (m₀ + 15) (mi M (m₀ + 13) p₀ q₀).toNat = gi M (gr M (g₀ + 261 + 1 + 1) i₀) 5 ∧ 0 ≤ gi M (gr M (g₀ + 261 + 1 + 1) i₀) 4 ∧ gi M (gr M (g₀ + 261 + 1 + 1) i₀) 4 ≤ 999)
def mh_mod (M : mg_M) (m₀ : Nat) : Prop := (0 ≤ gi M m₀ 4 ∧ gi M m₀ 4 ≤ 120) ∧ (∀ r₀ c₀, mh_rg (gi M m₀ 1) (gi M m₀ 2) r₀ c₀ → 0 ≤ mi M (m₀ + 1) r₀ c₀ ∧ mi M (m₀ + 1) r₀ c₀ < gi M m₀ 4) ∧ ∀ k₀, 0 ≤ k₀ → k₀ < gi M m₀ 4 → ∃ r₀ c₀, mh_rg (gi M m₀ 1) (gi M m₀ 2) r₀ c₀ ∧ mi M (m₀ + 1) r₀ c₀ = k₀
def mh_INV (M : mg_M) (g₀ m₀ t₀ u₀ : Nat) : Prop := mh_K M g₀ t₀ u₀ ∧ mh_V M t₀ ∧ (mm_st M m₀ ∧ g₀ + 385 ≤ m₀) ∧ (gi M m₀ 1 = gi M t₀ 0 ∧ gi M m₀ 2 = gi M t₀ 1 ∧ gi M m₀ 3 = gi M t₀ 2) ∧ mh_SQ M t₀ (m₀ + 1) ∧ mh_mod M m₀ ∧ mh_sel M g₀ m₀ t₀ ∧ ((gi M m₀ 10 = gi M g₀ 2 ∧ (gi M g₀ 2 = 0 ∨ gi M g₀ 2 = 1)) ∧ (gi M g₀ 2 = 1 → mh_old M m₀ u₀)) ∧ mh_bkt M g₀ m₀
/-- nothing₀ that the invariant speaks of has₀ changed -/
def mh_same (M N : mg_M) (g₀ m₀ : Nat) : Prop := (∀ a₀, kd N a₀ = kd M a₀) ∧ (∀ a₀, ln N a₀ = ln M a₀) ∧ (∀ a₀ k₀, gr N a₀ k₀ = gr M a₀ k₀) ∧ ∀ a₀ k₀, ((g₀ ≤ a₀ ∧ a₀ < g₀ + 385) ∨ (m₀ ≤ a₀ ∧ a₀ < m₀ + 18)) → a₀ ≠ g₀ + 260 → ¬ (a₀ = m₀ ∧ (k₀ = 0 ∨ (32 ≤ k₀ ∧ k₀ ≤ 35))) → gi N a₀ k₀ = gi M a₀ k₀
theorem mh_same_tr {M N P : mg_M} {g₀ m₀ : Nat} (h₀ : mh_same M N g₀ m₀) (k₀ : mh_same N P g₀ m₀) : mh_same M P g₀ m₀ := ⟨fun a₀ => (k₀.1 a₀).trans (h₀.1 a₀), fun a₀ => (k₀.2.1 a₀).trans (h₀.2.1 a₀), fun a₀ j₀ => (k₀.2.2.1 a₀ j₀).trans (h₀.2.2.1 a₀ j₀), fun a₀ j₀ h1 h2 h3 => (k₀.2.2.2 a₀ j₀ h1 h2 h3).trans (h₀.2.2.2 a₀ j₀ h1 h2 h3)⟩
theorem mh_same_rfl {M : mg_M} {g₀ m₀ : Nat} : mh_same M M g₀ m₀ := ⟨fun _ => rfl, fun _ => rfl, fun _ _ => rfl, fun _ _ _ _ _ => rfl⟩
theorem mh_same_f {S : Nat → Nat → Prop} {M N : mg_M} {g₀ m₀ : Nat} (f₀ : mm_f S M N) (h₀ : ∀ a₀ k₀, S a₀ k₀ → (a₀ < g₀ ∨ g₀ + 385 ≤ a₀) ∧ (a₀ < m₀ ∨ m₀ + 18 ≤ a₀) ∨ a₀ = g₀ + 260 ∨ (a₀ = m₀ ∧ (k₀ = 0 ∨ (32 ≤ k₀ ∧ k₀ ≤ 35)))) : mh_same M N g₀ m₀ := ⟨f₀.1, f₀.2.1, f₀.2.2.1, fun a₀ k₀ h1 h2 h3 => mm_f_gi f₀ a₀ k₀ (fun s₀ => by have := h₀ a₀ k₀ s₀; omega)⟩
theorem mh_same_nx {M : mg_M} {g₀ m₀ n₀ : Nat} : mh_same M (nxt M n₀) g₀ m₀ := ⟨fun _ => rfl, fun _ => rfl, fun _ _ => rfl, fun _ _ _ _ _ => rfl⟩
theorem mh_V_eq {M N : mg_M} {t₀ : Nat} (e₀ : mh_eq M N t₀) (cl₀ : mg_cL M (t₀ + 3)) (h₀ : mh_V M t₀) : mh_V N t₀ := by
  have z₀ := cl₀.2.2.2.2.2.2.1
  have v0₀ := (e₀ t₀ (by omega) (by omega)).2.2.2
  have v1₀ := (e₀ (t₀ + 1) (by omega) (by omega)).2.2.2
  have v2 := (e₀ (t₀ + 2) (by omega) (by omega)).2.2.2
  have v3 := (e₀ (t₀ + 3) (by omega) (by omega)).2.2.2
  refine ⟨fun i₀ hi => ?_, fun k₀ hk => ?_, fun k₀ hk => ?_⟩
  · rw [v3] at hi
    obtain ⟨x1₀, x2₀⟩ := mh_eq_cells e₀ cl₀ (i₀ := i₀) (by omega)
    rw [x1₀, x2₀]
    exact h₀.1 i₀ hi
  · rw [v0₀] at hk
    rw [v2]
    exact h₀.2.1 k₀ hk
  · rw [v0₀] at hk
    rw [v1₀]
    exact h₀.2.2 k₀ hk
theorem mh_SQ_eq {M N : mg_M} {t₀ a₀ : Nat} (e₀ : mh_eq M N t₀) (tl : mh_tl M t₀) (nb : mh_nb M t₀) (ha₀ : ∀ b₀, a₀ ≤ b₀ → b₀ ≤ a₀ + 4 → ∀ k₀, gi N b₀ k₀ = gi M b₀ k₀) (h₀ : mh_SQ M t₀ a₀) : mh_SQ N t₀ a₀ := by
  have v0₀ := (e₀ t₀ (by omega) (by omega)).2.2.2
  have v1₀ := (e₀ (t₀ + 1) (by omega) (by omega)).2.2.2
  have v2 := (e₀ (t₀ + 2) (by omega) (by omega)).2.2.2
  have ei : mi N a₀ = mi M a₀ := by
    funext p₀ q₀
    exact ha₀ a₀ (by omega) (by omega) _
  have a1₀ := ha₀ (a₀ + 1) (by omega) (by omega)
  have a2 := ha₀ (a₀ + 2) (by omega) (by omega)
  have a3 := ha₀ (a₀ + 3) (by omega) (by omega)
  have a4 := ha₀ (a₀ + 4) (by omega) (by omega)
  obtain ⟨h1, h2, h3, h4, h5⟩ := h₀
  unfold mh_SQ
  rw [v0₀, v0₀, ei, mh_eq_at e₀]
  simp only [a1₀, a2, a3, a4, v1₀, v2]
  refine ⟨h1, h2, fun p₀ q₀ hr => ?_, h4, h5⟩
  rw [mh_eq_ct e₀ tl nb hr, mh_eq_ct e₀ tl nb hr]
  exact h3 p₀ q₀ hr
theorem mh_st_same {M N : mg_M} {g₀ m₀ : Nat} (s₀ : mh_same M N g₀ m₀) (h₀ : mm_st M m₀) : mm_st N m₀ := by
  have k₀ := s₀.1
  have n₀ := s₀.2.1
  have r₀ := s₀.2.2.1
  unfold mm_st mm_ar at *
  simp only [k₀, n₀, r₀]
  exact h₀
theorem mh_INV_same {M N : mg_M} {g₀ m₀ t₀ u₀ : Nat} (I₀ : mh_INV M g₀ m₀ t₀ u₀) (s₀ : mh_same M N g₀ m₀) : mh_INV N g₀ m₀ t₀ u₀ := by
  obtain ⟨K9, V9, ⟨st₀, pm⟩, ⟨z1, z2, z3⟩, sq, md, sl, ⟨ch₀, od⟩, bk⟩ := I₀
  have F9 := mh_gF_of K9
  obtain ⟨⟨G, g1, g3₀, g4, g5₀⟩, ⟨ka, kb, kk, kg, ck⟩, pl, ⟨tl, nb⟩, ⟨tbu, clu⟩, rb⟩ := K9
  have A₀ : ∀ a₀, g₀ ≤ a₀ → a₀ < g₀ + 385 → a₀ ≠ g₀ + 260 → kd N a₀ = kd M a₀ ∧ ln N a₀ = ln M a₀ ∧ (∀ k₀, gr N a₀ k₀ = gr M a₀ k₀) ∧ ∀ k₀, gi N a₀ k₀ = gi M a₀ k₀ := fun a₀ h1 h2 h3 => ⟨s₀.1 a₀, s₀.2.1 a₀, s₀.2.2.1 a₀, fun k₀ => s₀.2.2.2 a₀ k₀ (by omega) h3 (by omega)⟩
  have B₀ : ∀ a₀, m₀ < a₀ → a₀ < m₀ + 18 → ∀ k₀, gi N a₀ k₀ = gi M a₀ k₀ := fun a₀ h1 h2 k₀ => s₀.2.2.2 a₀ k₀ (by omega) (by omega) (by omega)
  have C : ∀ k₀, k₀ ≠ 0 → (k₀ < 32 ∨ 35 < k₀) → gi N m₀ k₀ = gi M m₀ k₀ := fun k₀ h1 h2 => s₀.2.2.2 m₀ k₀ (by omega) (by omega) (by omega)
  have e₀ : mh_eq M N t₀ := fun a₀ h1 h2 => A₀ a₀ (by omega) (by omega) (by omega)
  have eu : mh_eq M N u₀ := fun a₀ h1 h2 => A₀ a₀ (by omega) (by omega) (by omega)
  have v0₀ := (e₀ t₀ (by omega) (by omega)).2.2.2
  have w0₀ := (eu u₀ (by omega) (by omega)).2.2.2
  have v9 := (A₀ (g₀ + 259) (by omega) (by omega) (by omega)).2.2.2
  have vg := (A₀ g₀ (by omega) (by omega) (by omega)).2.2.2
  have b1 : mi N (m₀ + 1) = mi M (m₀ + 1) := by funext p₀ q₀; exact B₀ (m₀ + 1) (by omega) (by omega) _
  have b13 : mi N (m₀ + 13) = mi M (m₀ + 13) := by funext p₀ q₀; exact B₀ (m₀ + 13) (by omega) (by omega) _
  have F9N := mh_gF_fr F9 s₀.1 s₀.2.1 (fun a₀ k₀ => Or.inr (s₀.2.2.1 a₀ k₀))
  have c1₀ := C 1 (by omega) (by omega)
  have c2₀ := C 2 (by omega) (by omega)
  have c3₀ := C 3 (by omega) (by omega)
  have c4₀ := C 4 (by omega) (by omega)
  have c10₀ := C 10 (by omega) (by omega)
  have c11₀ := C 11 (by omega) (by omega)
  have c12₀ := C 12 (by omega) (by omega)
  have c13₀ := C 13 (by omega) (by omega)
  have c21 := C 21 (by omega) (by omega)
  have c22 := C 22 (by omega) (by omega)
  have c23₀ := C 23 (by omega) (by omega)
  have c24₀ := C 24 (by omega) (by omega)
  have c25₀ := C 25 (by omega) (by omega)
  have c26 := C 26 (by omega) (by omega)
  have c27₀ := C 27 (by omega) (by omega)
  have hb₀ := fun a₀ (h1 : g₀ + 261 + 1 ≤ a₀) (h2 : a₀ < g₀ + 261 + 1 + 123) => A₀ a₀ (by omega) (by omega) (by omega)
  refine ⟨⟨⟨mh_gF_G0 F9N, F9N.1.2.2.1, F9N.1.2.2.2.1, F9N.1.2.2.2.2.1, F9N.1.2.2.2.2.2⟩, ⟨F9N.2.2.2.1.1, F9N.2.2.2.1.2.1, F9N.2.2.2.1.2.2.1, F9N.2.2.2.1.2.2.2.1, mh_cL_lo ck hb₀⟩, pl, mh_eq_tl e₀ tl nb, ⟨mh_eq_tb eu tbu, mh_eq_cL eu clu⟩, by rw [v0₀, v0₀]; exact rb.1, by rw [v0₀, v0₀]; exact rb.2.1, ?_⟩, mh_V_eq e₀ tl.2.1 V9, ⟨mh_st_same s₀ st₀, pm⟩, by rw [c1₀, c2₀, c3₀, v0₀, v0₀, v0₀]; exact ⟨z1, z2, z3⟩, mh_SQ_eq e₀ tl nb (fun b₀ h1 h2 => B₀ b₀ (by omega) (by omega)) sq, ?_, ?_, ⟨by rw [c10₀, vg]; exact ch₀, fun h₀ => ?_⟩, ?_⟩
  · have := rb.2.2
    unfold mh_ar at *
    rw [v0₀, v0₀, v9, v9, v9, v9]
    exact this
  · unfold mh_mod at *
    rw [c4₀, c1₀, c2₀, b1]
    exact md
  · unfold mh_sel at *
    rw [c21, c22, c23₀, c24₀, v9, v9, v9, v9, mh_cc_eq e₀ tl.2.1]
    exact sl
  · rw [vg] at h₀
    obtain ⟨⟨tlu, nbu⟩, o2, o3₀, o4₀, o5₀⟩ := od h₀
    refine ⟨mh_eq_tl eu tlu nbu, by rw [c11₀, c12₀, c13₀, w0₀, w0₀, w0₀]; exact o2, by rw [w0₀, w0₀, w0₀]; exact o3₀, mh_SQ_eq eu tlu nbu (fun b₀ h1 h2 => B₀ b₀ (by omega) (by omega)) o4₀, mh_V_eq eu tlu.2.1 o5₀⟩
  · have vk := (A₀ (g₀ + 261) (by omega) (by omega) (by omega)).2.2.2
    have vl := (A₀ (g₀ + 261 + 1) (by omega) (by omega) (by omega)).2.2.2
    unfold mh_bkt at *
    rw [vk, vk, c25₀, c26, c27₀, vl, b13]
    refine bk.imp id ?_
    rintro ⟨x1₀, x2₀, x3, x4₀, x5₀, x6⟩
    obtain ⟨y1, y2, y3, y4⟩ := mh_bl_lo x3 hb₀
    refine ⟨x1₀, x2₀, y1, x4₀, fun p₀ q₀ p' q' h1 h2 => ?_, fun i₀ hi p₀ q₀ w₀ => ?_⟩
    · rw [x5₀ p₀ q₀ p' q' h1 h2]
      constructor
      · rintro ⟨i₀, hi, w1₀, w2₀⟩
        exact ⟨i₀, hi, (y4 i₀ hi p₀ q₀).2 w1₀, (y4 i₀ hi p' q').2 w2₀⟩
      · rintro ⟨i₀, hi, w1₀, w2₀⟩
        exact ⟨i₀, hi, (y4 i₀ hi p₀ q₀).1 w1₀, (y4 i₀ hi p' q').1 w2₀⟩
    · obtain ⟨d1₀, d2₀⟩ := y3 i₀ hi
      rw [d1₀]
      simp only [d2₀, B₀ (m₀ + 14) (by omega) (by omega), B₀ (m₀ + 15) (by omega) (by omega)]
      exact x6 i₀ hi p₀ q₀ ((y4 i₀ hi p₀ q₀).1 w₀)
/-- what the reference's contracts ask₀ for₀ -/
theorem mh_INV_m {M : mg_M} {g₀ m₀ t₀ u₀ : Nat} (I₀ : mh_INV M g₀ m₀ t₀ u₀) : mm_st M m₀ ∧ mm_rc M m₀ ∧ (0 ≤ gi M m₀ 4 ∧ gi M m₀ 4 ≤ 120) ∧ mm_si M m₀ ∧ mm_rts M m₀ (mh_fT M t₀ 0) (mh_fT M t₀ 1) (mh_fT M t₀ 2) (mh_fT M t₀ 3) ∧ (∀ r₀ c₀, mh_rg (gi M m₀ 1) (gi M m₀ 2) r₀ c₀ → 0 ≤ mi M (m₀ + 1) r₀ c₀ ∧ mi M (m₀ + 1) r₀ c₀ < 120) ∧ gi M m₀ 4 = gi M (t₀ + 3) 0 ∧ (∀ k₀ : Nat, (k₀ : Int) < gi M m₀ 4 → 0 ≤ gi M (m₀ + 2) k₀ ∧ gi M (m₀ + 2) k₀ ≤ 999) ∧ (∀ k₀ : Nat, (k₀ : Int) < gi M m₀ 2 → 10 ≤ gi M (m₀ + 4) k₀ ∧ gi M (m₀ + 4) k₀ ≤ 200) ∧ (∀ k₀ : Nat, (k₀ : Int) < gi M m₀ 1 → 5 ≤ gi M (m₀ + 5) k₀ ∧ gi M (m₀ + 5) k₀ ≤ 100) ∧ ((1 ≤ gi M m₀ 1 ∧ gi M m₀ 1 ≤ 12) ∧ (1 ≤ gi M m₀ 2 ∧ gi M m₀ 2 ≤ 10)) ∧ (0 ≤ gi M m₀ 3 ∧ gi M m₀ 3 ≤ gi M m₀ 1) := by
  obtain ⟨K9, V9, ⟨st₀, pm⟩, ⟨z1, z2, z3⟩, sq, md, sl, ⟨ch₀, od⟩, bk⟩ := I₀
  obtain ⟨_, _, pl, ⟨tl, nb⟩, _, rb⟩ := K9
  have bb := tl.1.2.2
  have ti := mh_til_at tl nb
  obtain ⟨q1₀, q2₀, q3₀, q4₀, q5₀⟩ := sq
  obtain ⟨m1₀, m2₀, m3₀⟩ := md
  rw [z1, z2] at m2₀ m3₀
  have ti2 := mh_til_J ti (fun p₀ q₀ p' q' h1 h2 => q2₀ p₀ q₀ p' q' h1 h2)
  have ar := rb.2.2
  unfold mh_ar at ar
  obtain ⟨⟨s1₀, s2₀, s3₀, s4₀⟩, s5⟩ := sl
  refine ⟨st₀, by unfold mm_rc; omega, m1₀, by omega, mh_rts_of (by rw [z1, z2]; exact ti2), by rw [z1, z2]; exact q1₀, mh_tie_cnt tl nb m1₀.1 m2₀ m3₀ q2₀, fun k₀ hk => ?_, fun k₀ hk => ?_, fun k₀ hk => ?_, by omega, by omega⟩
  · obtain ⟨r₀, c₀, hr, e₀⟩ := m3₀ k₀ (by omega) hk
    have w₀ := (q3₀ r₀ c₀ hr).1
    rw [e₀, Int.toNat_natCast] at w₀
    obtain ⟨i₀, hi, _, _, _, ec⟩ := mh_sqc tl nb hr
    have v₀ := V9.1 i₀ hi
    rw [← ec] at v₀
    show 0 ≤ gi M (m₀ + 1 + 1) k₀ ∧ gi M (m₀ + 1 + 1) k₀ ≤ 999
    omega
  · have w₀ := q4₀ k₀ (by omega) (by omega)
    rw [Int.toNat_natCast] at w₀
    have v₀ := V9.2.1 k₀ (by omega)
    show 10 ≤ gi M (m₀ + 1 + 3) k₀ ∧ gi M (m₀ + 1 + 3) k₀ ≤ 200
    omega
  · have w₀ := q5₀ k₀ (by omega) (by omega)
    rw [Int.toNat_natCast] at w₀
    have v₀ := V9.2.2 k₀ (by omega)
    show 5 ≤ gi M (m₀ + 1 + 4) k₀ ∧ gi M (m₀ + 1 + 4) k₀ ≤ 100
    omega
