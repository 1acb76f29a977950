/-! frames₀ for₀ MergeGrid's changes₀ -/
def mh_eq (M N : mg_M) (t₀ : Nat) : Prop := ∀ a₀, t₀ ≤ a₀ → a₀ < t₀ + 129 → kd N a₀ = kd M a₀ ∧ ln N a₀ = ln M a₀ ∧ (∀ k₀, gr N a₀ k₀ = gr M a₀ k₀) ∧ ∀ k₀, gi N a₀ k₀ = gi M a₀ k₀
theorem mh_eq_f {S : Nat → Nat → Prop} {M N : mg_M} {t₀ : Nat} (f₀ : mm_f S M N) (h₀ : ∀ a₀ k₀, S a₀ k₀ → a₀ < t₀ ∨ t₀ + 129 ≤ a₀) : mh_eq M N t₀ := fun a₀ h1 h2 => ⟨f₀.1 a₀, f₀.2.1 a₀, f₀.2.2.1 a₀, fun k₀ => mm_f_gi f₀ a₀ k₀ (fun s₀ => by have := h₀ a₀ k₀ s₀; omega)⟩
theorem mh_eq_cells {M N : mg_M} {t₀ i₀ : Nat} (e₀ : mh_eq M N t₀) (cl₀ : mg_cL M (t₀ + 3)) (hi : i₀ < 120) : gr N (t₀ + 3 + 1) i₀ = gr M (t₀ + 3 + 1) i₀ ∧ ∀ k₀, gi N (gr M (t₀ + 3 + 1) i₀) k₀ = gi M (gr M (t₀ + 3 + 1) i₀) k₀ := by
  have c₀ := cl₀.2.2.2.2.2.2.2.1 i₀ hi
  exact ⟨(e₀ (t₀ + 3 + 1) (by omega) (by omega)).2.2.1 i₀, (e₀ _ (by omega) (by omega)).2.2.2⟩
theorem mh_eq_at {M N : mg_M} {t₀ : Nat} (e₀ : mh_eq M N t₀) : mh_at N t₀ = mh_at M t₀ := by
  funext p₀ q₀
  exact (e₀ (t₀ + 126) (by omega) (by omega)).2.2.2 _
theorem mh_eq_co {M N : mg_M} {t₀ : Nat} (e₀ : mh_eq M N t₀) : mh_co N t₀ = mh_co M t₀ := by
  funext p₀ q₀
  have e0₀ := (e₀ t₀ (by omega) (by omega)).2.2.2
  have e1₀ := (e₀ (t₀ + 126) (by omega) (by omega)).2.2.2
  have e2₀ := (e₀ (t₀ + 3 + 1) (by omega) (by omega)).2.2.1
  unfold mh_co mh_ow
  simp only [e0₀, e1₀, e2₀]
theorem mh_eq_tb {M N : mg_M} {t₀ : Nat} (e₀ : mh_eq M N t₀) (h₀ : mg_tb M t₀) : mg_tb N t₀ := by
  obtain ⟨k0₀, _, r0, v0₀⟩ := e₀ t₀ (by omega) (by omega)
  obtain ⟨k1₀, l1, _, _⟩ := e₀ (t₀ + 1) (by omega) (by omega)
  obtain ⟨k2₀, l2, _, _⟩ := e₀ (t₀ + 2) (by omega) (by omega)
  obtain ⟨k3₀, l3, _, _⟩ := e₀ (t₀ + 126) (by omega) (by omega)
  obtain ⟨k4₀, l4, _, _⟩ := e₀ (t₀ + 127) (by omega) (by omega)
  obtain ⟨k5₀, l5, _, _⟩ := e₀ (t₀ + 128) (by omega) (by omega)
  unfold mg_tb at *
  rw [k0₀, k1₀, l1, k2₀, l2, k3₀, l3, k4₀, l4, k5₀, l5]
  simp only [r0, v0₀]
  exact h₀
theorem mh_eq_cL {M N : mg_M} {t₀ : Nat} (e₀ : mh_eq M N t₀) (h₀ : mg_cL M (t₀ + 3)) : mg_cL N (t₀ + 3) := mh_cL_lo h₀ (fun a₀ h1 h2 => e₀ a₀ (by omega) (by omega))
theorem mh_eq_tl {M N : mg_M} {t₀ : Nat} (e₀ : mh_eq M N t₀) (tl : mh_tl M t₀) (nb : mh_nb M t₀) : mh_tl N t₀ ∧ mh_nb N t₀ := by
  have cl₀ := tl.2.1
  have z₀ := cl₀.2.2.2.2.2.2.1
  have v0₀ := (e₀ t₀ (by omega) (by omega)).2.2.2
  have v3 := (e₀ (t₀ + 3) (by omega) (by omega)).2.2.2
  have ea := mh_eq_at e₀
  have cvs : ∀ i₀ : Nat, (i₀ : Int) < gi M (t₀ + 3) 0 → ∀ p₀ q₀, mh_cv N t₀ i₀ p₀ q₀ ↔ mh_cv M t₀ i₀ p₀ q₀ := by
    intro i₀ hi p₀ q₀
    obtain ⟨c1₀, c2₀⟩ := mh_eq_cells e₀ cl₀ (i₀ := i₀) (by omega)
    unfold mh_cv
    rw [c1₀, c2₀, c2₀, c2₀, c2₀]
  refine ⟨⟨mh_eq_tb e₀ tl.1, mh_eq_cL e₀ cl₀, fun i₀ hi => ?_, fun i₀ hi p₀ q₀ w₀ => ?_, fun p₀ q₀ a1₀ a2 a3 a4 => ?_⟩, fun p₀ q₀ a1₀ a2 a3 a4 => ?_⟩
  · rw [v3] at hi
    obtain ⟨c1₀, c2₀⟩ := mh_eq_cells e₀ cl₀ (i₀ := i₀) (by omega)
    have o := tl.2.2.1 i₀ hi
    unfold mh_ok at *
    rw [c1₀, c2₀, c2₀, c2₀, c2₀, v0₀, v0₀]
    exact o
  · rw [v3] at hi
    rw [ea]
    exact tl.2.2.2.1 i₀ hi p₀ q₀ ((cvs i₀ hi p₀ q₀).1 w₀)
  · rw [v0₀] at a2 a4
    rw [ea]
    refine (tl.2.2.2.2 p₀ q₀ a1₀ a2 a3 a4).imp id ?_
    rintro ⟨i₀, hi, w₀⟩
    exact ⟨i₀, by rw [v3]; exact hi, (cvs i₀ hi p₀ q₀).2 w₀⟩
  · rw [v0₀] at a2 a4
    rw [ea]
    exact nb p₀ q₀ a1₀ a2 a3 a4
/-- what stands at the addresses of a₀ MergeGrid -/
def mh_gF (M : mg_M) (g₀ t₀ u₀ : Nat) : Prop := (kd M g₀ = 6 ∧ gr M g₀ 0 = t₀ ∧ gr M g₀ 1 = u₀ ∧ gr M g₀ 3 = g₀ + 259 ∧ gr M g₀ 4 = g₀ + 260 ∧ gr M g₀ 5 = g₀ + 261) ∧ (kd M t₀ = 5 ∧ gr M t₀ 5 = t₀ + 3 ∧ gr M t₀ 3 = t₀ + 1 ∧ gr M t₀ 4 = t₀ + 2 ∧ kd M (t₀ + 3) = 4 ∧ (kd M (t₀ + 1) = 8 ∧ ln M (t₀ + 1) = 12) ∧ (kd M (t₀ + 2) = 8 ∧ ln M (t₀ + 2) = 10)) ∧ (kd M u₀ = 5 ∧ gr M u₀ 5 = u₀ + 3 ∧ gr M u₀ 3 = u₀ + 1 ∧ gr M u₀ 4 = u₀ + 2 ∧ kd M (u₀ + 3) = 4 ∧ (kd M (u₀ + 1) = 8 ∧ ln M (u₀ + 1) = 12) ∧ (kd M (u₀ + 2) = 8 ∧ ln M (u₀ + 2) = 10)) ∧ (kd M (g₀ + 259) = 1 ∧ kd M (g₀ + 260) = 1 ∧ kd M (g₀ + 261) = 2 ∧ gr M (g₀ + 261) 2 = g₀ + 261 + 1 ∧ kd M (g₀ + 261 + 1) = 4) ∧ ((t₀ = g₀ + 1 ∧ u₀ = g₀ + 130) ∨ (t₀ = g₀ + 130 ∧ u₀ = g₀ + 1))
theorem mh_gF_of {M : mg_M} {g₀ t₀ u₀ : Nat} (K9 : mh_K M g₀ t₀ u₀) : mh_gF M g₀ t₀ u₀ := by
  obtain ⟨⟨G, g1, g3₀, g4, g5₀⟩, ⟨ka, kb, kk, kg, ck⟩, pl, ⟨tl, nb⟩, ⟨tbu, clu⟩, rb⟩ := K9
  have tb₀ := tl.1
  exact ⟨⟨G.1, G.2.1, g1, g3₀, g4, g5₀⟩, ⟨G.2.2.1, tb₀.1.2.2.2.1, tb₀.1.2.1, tb₀.1.2.2.1, tl.2.1.1, tb₀.2.1.1, tb₀.2.1.2.1⟩, ⟨tbu.1.1, tbu.1.2.2.2.1, tbu.1.2.1, tbu.1.2.2.1, clu.1, tbu.2.1.1, tbu.2.1.2.1⟩, ⟨ka, kb, kk, kg, ck.1⟩, pl⟩
theorem mh_gF_fr {M N : mg_M} {g₀ t₀ u₀ : Nat} (h₀ : mh_gF M g₀ t₀ u₀) (k₀ : ∀ a₀, kd N a₀ = kd M a₀) (n₀ : ∀ a₀, ln N a₀ = ln M a₀) (r₀ : ∀ a₀ k₀, a₀ = t₀ + 3 + 1 ∨ gr N a₀ k₀ = gr M a₀ k₀) : mh_gF N g₀ t₀ u₀ := by
  obtain ⟨h1, h2, h3, h4, h5⟩ := h₀
  have rg : ∀ k₀, gr N g₀ k₀ = gr M g₀ k₀ := fun k₀ => (r₀ g₀ k₀).resolve_left (by omega)
  have rt : ∀ k₀, gr N t₀ k₀ = gr M t₀ k₀ := fun k₀ => (r₀ t₀ k₀).resolve_left (by omega)
  have ru : ∀ k₀, gr N u₀ k₀ = gr M u₀ k₀ := fun k₀ => (r₀ u₀ k₀).resolve_left (by omega)
  have rk : ∀ k₀, gr N (g₀ + 261) k₀ = gr M (g₀ + 261) k₀ := fun k₀ => (r₀ _ k₀).resolve_left (by omega)
  unfold mh_gF
  simp only [k₀, n₀, rg, rt, ru, rk]
  exact ⟨h1, h2, h3, h4, h5⟩
theorem mh_gF_G0 {M : mg_M} {g₀ t₀ u₀ : Nat} (h₀ : mh_gF M g₀ t₀ u₀) : mh_G0 M g₀ t₀ := ⟨h₀.1.1, h₀.1.2.1, h₀.2.1.1, by have := h₀.2.2.2.2; omega⟩
/-- behind₀ remember -/
theorem mh_rmb_K {M N : mg_M} {g₀ t₀ u₀ : Nat} (K9 : mh_K M g₀ t₀ u₀) (r₀ : mh_rmb M N g₀ t₀ u₀) : mh_K N g₀ t₀ u₀ ∧ mh_eq M N t₀ ∧ mm_f (fun a₀ k₀ => (u₀ ≤ a₀ ∧ a₀ < u₀ + 127) ∨ (a₀ = g₀ ∧ k₀ = 2)) M N ∧ gi N g₀ 2 = 1 := by
  have F9 := mh_gF_of K9
  obtain ⟨⟨G, g1, g3₀, g4, g5₀⟩, ⟨ka, kb, kk, kg, ck⟩, pl, ⟨tl, nb⟩, ⟨tbu, clu⟩, rb⟩ := K9
  obtain ⟨P, cp₀, rfl⟩ := r₀
  have f₀ : mm_f (fun a₀ k₀ => (u₀ ≤ a₀ ∧ a₀ < u₀ + 127) ∨ (a₀ = g₀ ∧ k₀ = 2)) M (si P g₀ 2 1) := mm_f_si (mm_f_mono cp₀.1 (fun a₀ k₀ h₀ => Or.inl h₀)) (Or.inr ⟨rfl, rfl⟩)
  have e₀ := mh_eq_f (t₀ := t₀) f₀ (fun a₀ k₀ h₀ => by omega)
  have tlN := mh_eq_tl e₀ tl nb
  have cu := (mh_cp_tl cp₀ tbu clu tl nb).1.1
  have fu : mm_f (fun a₀ k₀ => a₀ = g₀ ∧ k₀ = 2) P (si P g₀ 2 1) := mm_f_si mm_f_rfl ⟨rfl, rfl⟩
  have eu := mh_eq_f (t₀ := u₀) fu (fun a₀ k₀ h₀ => by omega)
  have v0₀ := (e₀ t₀ (by omega) (by omega)).2.2.2
  have F9N := mh_gF_fr F9 f₀.1 f₀.2.1 (fun a₀ k₀ => Or.inr (f₀.2.2.1 a₀ k₀))
  refine ⟨⟨⟨mh_gF_G0 F9N, F9N.1.2.2.1, F9N.1.2.2.2.1, F9N.1.2.2.2.2.1, F9N.1.2.2.2.2.2⟩, ⟨F9N.2.2.2.1.1, F9N.2.2.2.1.2.1, F9N.2.2.2.1.2.2.1, F9N.2.2.2.1.2.2.2.1, mh_fr_cL ck f₀.1 f₀.2.1 f₀.2.2.1 (mm_f_gi f₀ _ _ (by omega))⟩, pl, tlN, ⟨mh_eq_tb eu cu.1, mh_eq_cL eu cu.2.1⟩, by rw [v0₀, v0₀]; exact rb.1, by rw [v0₀, v0₀]; exact rb.2.1, ?_⟩, e₀, f₀, ?_⟩
  · have := rb.2.2
    unfold mh_ar at *
    rw [v0₀, v0₀, mm_f_gi f₀ _ 0 (by omega), mm_f_gi f₀ _ 1 (by omega), mm_f_gi f₀ _ 2 (by omega), mm_f_gi f₀ _ 3 (by omega)]
    exact this
  · rw [gi_si, if_pos ⟨rfl, rfl⟩]
