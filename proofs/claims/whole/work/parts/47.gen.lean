/-! loops, frames₀ -/
theorem mh_for {α : Type} {P G : Int → α → Prop} {lo hi : Int} (hle : lo ≤ hi) (hend : ∀ x₀, P hi x₀ → G hi x₀) (hstep₀ : ∀ j₀ x₀, lo ≤ j₀ → j₀ < hi → P j₀ x₀ → (∀ y₀, P (j₀ + 1) y₀ → G (j₀ + 1) y₀) → G j₀ x₀) : ∀ x₀, P lo x₀ → G lo x₀ := by
  have key₀ : ∀ n₀ : Nat, ∀ j₀ x₀, lo ≤ j₀ → hi - j₀ = n₀ → P j₀ x₀ → G j₀ x₀ := by
    intro n₀
    induction n₀ with
    | zero =>
      intro j₀ x₀ h1 h2 h3
      have e₀ : j₀ = hi := by omega
      subst e₀
      exact hend x₀ h3
    | succ n₀ ih₀ =>
      intro j₀ x₀ h1 h2 h3
      exact hstep₀ j₀ x₀ h1 (by omega) h3 (fun y₀ hy => ih₀ (j₀ + 1) y₀ (by omega) (by omega) hy)
  intro x₀ hx
  exact key₀ (hi - lo).toNat lo x₀ (Int.le_refl _) (by omega) hx
theorem mh_ford {α : Type} {P G : Int → α → Prop} {lo hi : Int} (hle : lo ≤ hi) (hend : ∀ x₀, P lo x₀ → G lo x₀) (hstep₀ : ∀ j₀ x₀, lo < j₀ → j₀ ≤ hi → P j₀ x₀ → (∀ y₀, P (j₀ - 1) y₀ → G (j₀ - 1) y₀) → G j₀ x₀) : ∀ x₀, P hi x₀ → G hi x₀ := by
  have key₀ : ∀ n₀ : Nat, ∀ j₀ x₀, j₀ ≤ hi → j₀ - lo = n₀ → P j₀ x₀ → G j₀ x₀ := by
    intro n₀
    induction n₀ with
    | zero =>
      intro j₀ x₀ h1 h2 h3
      have e₀ : j₀ = lo := by omega
      subst e₀
      exact hend x₀ h3
    | succ n₀ ih₀ =>
      intro j₀ x₀ h1 h2 h3
      exact hstep₀ j₀ x₀ (by omega) h1 h3 (fun y₀ hy => ih₀ (j₀ - 1) y₀ (by omega) (by omega) hy)
  intro x₀ hx
  exact key₀ (hi - lo).toNat hi x₀ (Int.le_refl _) (by omega) hx
theorem mh_for2d {α : Type} {P : Int → Int → α → Prop} {G1 : Int → α → Prop} {G2 : Int → Int → α → Prop} {r0 R c0 C : Int} (hr : r0 ≤ R) (hc₀ : c0 ≤ C) (e1₀ : ∀ x₀, P R c0 x₀ → G1 R x₀) (s1₀ : ∀ r₀ x₀, r0 ≤ r₀ → r₀ < R → P r₀ c0 x₀ → G2 r₀ c0 x₀ → G1 r₀ x₀) (e2₀ : ∀ r₀ x₀, r0 ≤ r₀ → r₀ < R → P r₀ C x₀ → P (r₀ + 1) c0 x₀ ∧ (G1 (r₀ + 1) x₀ → G2 r₀ C x₀)) (s2₀ : ∀ r₀ c₀ x₀, r0 ≤ r₀ → r₀ < R → c0 ≤ c₀ → c₀ < C → P r₀ c₀ x₀ → (∀ y₀, P r₀ (c₀ + 1) y₀ → G2 r₀ (c₀ + 1) y₀) → G2 r₀ c₀ x₀) : ∀ x₀, P r0 c0 x₀ → G1 r0 x₀ := by
  refine mh_for (P := fun r₀ x₀ => P r₀ c0 x₀) (G := G1) hr e1₀ ?_
  intro r₀ x₀ h1 h2 hp k₀
  refine s1₀ r₀ x₀ h1 h2 hp ?_
  refine mh_for (P := fun c₀ x₀ => P r₀ c₀ x₀) (G := fun c₀ x₀ => G2 r₀ c₀ x₀) hc₀ ?_ ?_ x₀ hp
  · intro y₀ hy
    obtain ⟨q1₀, q2₀⟩ := e2₀ r₀ y₀ h1 h2 hy
    exact q2₀ (k₀ y₀ q1₀)
  · intro c₀ y₀ g1 g2 hy kk
    exact s2₀ r₀ c₀ y₀ h1 h2 g1 g2 hy kk
def mm_f (S : Nat → Nat → Prop) (M N : mg_M) : Prop := (∀ a₀, kd N a₀ = kd M a₀) ∧ (∀ a₀, ln N a₀ = ln M a₀) ∧ (∀ a₀ k₀, gr N a₀ k₀ = gr M a₀ k₀) ∧ nx N = nx M ∧ (∀ a₀ k₀, gl N a₀ k₀ = gl M a₀ k₀) ∧ (∀ a₀ k₀, gd N a₀ k₀ = gd M a₀ k₀) ∧ (∀ a₀ k₀, S a₀ k₀ ∨ gi N a₀ k₀ = gi M a₀ k₀)
theorem mm_f_rfl {S : Nat → Nat → Prop} {M : mg_M} : mm_f S M M := ⟨fun _ => rfl, fun _ => rfl, fun _ _ => rfl, rfl, fun _ _ => rfl, fun _ _ => rfl, fun _ _ => Or.inr rfl⟩
theorem mm_f_tr {S : Nat → Nat → Prop} {M N P : mg_M} (h₀ : mm_f S M N) (g₀ : mm_f S N P) : mm_f S M P := by
  obtain ⟨h1, h2, h3, h4, h5, h6, h7⟩ := h₀
  obtain ⟨g1, g2, g3₀, g4, g5₀, g6, g7⟩ := g₀
  refine ⟨fun a₀ => (g1 a₀).trans (h1 a₀), fun a₀ => (g2 a₀).trans (h2 a₀), fun a₀ k₀ => (g3₀ a₀ k₀).trans (h3 a₀ k₀), g4.trans h4, fun a₀ k₀ => (g5₀ a₀ k₀).trans (h5 a₀ k₀), fun a₀ k₀ => (g6 a₀ k₀).trans (h6 a₀ k₀), fun a₀ k₀ => ?_⟩
  cases g7 a₀ k₀ with
  | inl s₀ => exact Or.inl s₀
  | inr e₀ =>
    cases h7 a₀ k₀ with
    | inl s₀ => exact Or.inl s₀
    | inr e2₀ => exact Or.inr (e₀.trans e2₀)
theorem mm_f_mono {S T : Nat → Nat → Prop} {M N : mg_M} (h₀ : mm_f S M N) (st₀ : ∀ a₀ k₀, S a₀ k₀ → T a₀ k₀) : mm_f T M N := by
  obtain ⟨h1, h2, h3, h4, h5, h6, h7⟩ := h₀
  exact ⟨h1, h2, h3, h4, h5, h6, fun a₀ k₀ => (h7 a₀ k₀).imp (st₀ a₀ k₀) id⟩
theorem mm_f_si {S : Nat → Nat → Prop} {M N : mg_M} {a₀ k₀ : Nat} {x₀ : Int} (h₀ : mm_f S M N) (s₀ : S a₀ k₀) : mm_f S M (si N a₀ k₀ x₀) := by
  obtain ⟨h1, h2, h3, h4, h5, h6, h7⟩ := h₀
  refine ⟨h1, h2, h3, h4, h5, h6, fun b₀ j₀ => ?_⟩
  rw [gi_si]
  by_cases e₀ : b₀ = a₀ ∧ j₀ = k₀
  · rw [e₀.1, e₀.2]; exact Or.inl s₀
  · rw [if_neg e₀]; exact h7 b₀ j₀
theorem mm_f_gi {S : Nat → Nat → Prop} {M N : mg_M} (h₀ : mm_f S M N) (a₀ k₀ : Nat) (n₀ : ¬ S a₀ k₀) : gi N a₀ k₀ = gi M a₀ k₀ := (h₀.2.2.2.2.2.2 a₀ k₀).resolve_left n₀
theorem mm_f_fx {S : Nat → Nat → Prop} {x₀ : Nat} {M N : mg_M} (h₀ : mh_fx x₀ M N) (s₀ : ∀ k₀, S x₀ k₀) : mm_f S M N := by
  obtain ⟨h1, h2, h3, h4, h5, h6, h7⟩ := h₀
  refine ⟨h1, h2, h3, h4, h5, h6, fun b₀ j₀ => ?_⟩
  by_cases e₀ : b₀ = x₀
  · rw [e₀]; exact Or.inl (s₀ j₀)
  · exact Or.inr (h7 b₀ j₀ e₀)
/-! truth values₀ -/
noncomputable def mh_pr (p₀ : Prop) : Int := @ite Int p₀ (Classical.propDecidable p₀) 1 0
theorem mh_pr1 {p₀ : Prop} (h₀ : p₀) : mh_pr p₀ = 1 := @if_pos p₀ (Classical.propDecidable p₀) h₀ Int 1 0
theorem mh_pr0 {p₀ : Prop} (h₀ : ¬ p₀) : mh_pr p₀ = 0 := @if_neg p₀ (Classical.propDecidable p₀) h₀ Int 1 0
theorem mh_prT {p₀ : Prop} (h₀ : mh_pr p₀ ≠ 0) : p₀ := Classical.byContradiction (fun q₀ => h₀ (mh_pr0 q₀))
theorem mh_prF {p₀ : Prop} (h₀ : mh_pr p₀ = 0) : ¬ p₀ := fun q₀ => by rw [mh_pr1 q₀] at h₀; cases h₀
theorem mh_pr01 (p₀ : Prop) : mh_pr p₀ = 0 ∨ mh_pr p₀ = 1 := (Classical.em p₀).elim (fun h₀ => Or.inr (mh_pr1 h₀)) (fun h₀ => Or.inl (mh_pr0 h₀))
theorem mh_prc {p₀ q₀ : Prop} (h₀ : p₀ ↔ q₀) : mh_pr p₀ = mh_pr q₀ := by rw [propext h₀]
theorem mh_pre {x₀ : Int} {p₀ : Prop} (h₀ : (x₀ = 1 ∧ p₀) ∨ (x₀ = 0 ∧ ¬ p₀)) : x₀ = mh_pr p₀ := h₀.elim (fun q₀ => q₀.1.trans (mh_pr1 q₀.2).symm) (fun q₀ => q₀.1.trans (mh_pr0 q₀.2).symm)
/-- a₀ square in front of another one, row₀ by row₀, from a₀ row₀ and a₀ column on -/
def mh_ex (r0 c0 C : Int) (q₀ : Int → Int → Prop) (r₀ c₀ : Int) : Prop := ∃ i₀ j₀, (r0 ≤ i₀ ∧ c0 ≤ j₀ ∧ j₀ < C ∧ (i₀ < r₀ ∨ (i₀ = r₀ ∧ j₀ < c₀))) ∧ q₀ i₀ j₀
theorem mh_ex0 {r0 c0 C : Int} {q₀ : Int → Int → Prop} : ¬ mh_ex r0 c0 C q₀ r0 c0 := by
  rintro ⟨i₀, j₀, h₀, _⟩
  omega
theorem mh_exR {r0 c0 C : Int} {q₀ : Int → Int → Prop} {r₀ : Int} : mh_ex r0 c0 C q₀ r₀ C ↔ mh_ex r0 c0 C q₀ (r₀ + 1) c0 := by
  constructor
  · rintro ⟨i₀, j₀, h₀, g₀⟩
    exact ⟨i₀, j₀, by omega, g₀⟩
  · rintro ⟨i₀, j₀, h₀, g₀⟩
    exact ⟨i₀, j₀, by omega, g₀⟩
theorem mh_exC {r0 c0 C : Int} {q₀ : Int → Int → Prop} {r₀ c₀ : Int} (hr : r0 ≤ r₀) (hc₀ : c0 ≤ c₀ ∧ c₀ < C) : mh_ex r0 c0 C q₀ r₀ (c₀ + 1) ↔ mh_ex r0 c0 C q₀ r₀ c₀ ∨ q₀ r₀ c₀ := by
  constructor
  · rintro ⟨i₀, j₀, h₀, g₀⟩
    by_cases e₀ : i₀ = r₀ ∧ j₀ = c₀
    · rw [e₀.1, e₀.2] at g₀
      exact Or.inr g₀
    · exact Or.inl ⟨i₀, j₀, by omega, g₀⟩
  · rintro (⟨i₀, j₀, h₀, g₀⟩ | g₀)
    · exact ⟨i₀, j₀, by omega, g₀⟩
    · exact ⟨r₀, c₀, by omega, g₀⟩
theorem mh_exE {r0 c0 C : Int} {q₀ : Int → Int → Prop} {R : Int} : mh_ex r0 c0 C q₀ R c0 ↔ ∃ i₀ j₀, (r0 ≤ i₀ ∧ i₀ < R) ∧ (c0 ≤ j₀ ∧ j₀ < C) ∧ q₀ i₀ j₀ := by
  constructor
  · rintro ⟨i₀, j₀, h₀, g₀⟩
    exact ⟨i₀, j₀, by omega, by omega, g₀⟩
  · rintro ⟨i₀, j₀, h1, h2, g₀⟩
    exact ⟨i₀, j₀, by omega, g₀⟩
