/-! loops, frames -/
theorem mh_for {α : Type} {P G : Int → α → Prop} {lo hi : Int} (hle : lo ≤ hi) (hend : ∀ x, P hi x → G hi x) (hstep : ∀ j x, lo ≤ j → j < hi → P j x → (∀ y, P (j + 1) y → G (j + 1) y) → G j x) : ∀ x, P lo x → G lo x := by
  have key : ∀ n : Nat, ∀ j x, lo ≤ j → hi - j = n → P j x → G j x := by
    intro n
    induction n with
    | zero =>
      intro j x h1 h2 h3
      have e : j = hi := by omega
      subst e
      exact hend x h3
    | succ n ih =>
      intro j x h1 h2 h3
      exact hstep j x h1 (by omega) h3 (fun y hy => ih (j + 1) y (by omega) (by omega) hy)
  intro x hx
  exact key (hi - lo).toNat lo x (Int.le_refl _) (by omega) hx
theorem mh_ford {α : Type} {P G : Int → α → Prop} {lo hi : Int} (hle : lo ≤ hi) (hend : ∀ x, P lo x → G lo x) (hstep : ∀ j x, lo < j → j ≤ hi → P j x → (∀ y, P (j - 1) y → G (j - 1) y) → G j x) : ∀ x, P hi x → G hi x := by
  have key : ∀ n : Nat, ∀ j x, j ≤ hi → j - lo = n → P j x → G j x := by
    intro n
    induction n with
    | zero =>
      intro j x h1 h2 h3
      have e : j = lo := by omega
      subst e
      exact hend x h3
    | succ n ih =>
      intro j x h1 h2 h3
      exact hstep j x (by omega) h1 h3 (fun y hy => ih (j - 1) y (by omega) (by omega) hy)
  intro x hx
  exact key (hi - lo).toNat hi x (Int.le_refl _) (by omega) hx
theorem mh_for2d {α : Type} {P : Int → Int → α → Prop} {G1 : Int → α → Prop} {G2 : Int → Int → α → Prop} {r0 R c0 C : Int} (hr : r0 ≤ R) (hc : c0 ≤ C) (e1 : ∀ x, P R c0 x → G1 R x) (s1 : ∀ r x, r0 ≤ r → r < R → P r c0 x → G2 r c0 x → G1 r x) (e2 : ∀ r x, r0 ≤ r → r < R → P r C x → P (r + 1) c0 x ∧ (G1 (r + 1) x → G2 r C x)) (s2 : ∀ r c x, r0 ≤ r → r < R → c0 ≤ c → c < C → P r c x → (∀ y, P r (c + 1) y → G2 r (c + 1) y) → G2 r c x) : ∀ x, P r0 c0 x → G1 r0 x := by
  refine mh_for (P := fun r x => P r c0 x) (G := G1) hr e1 ?_
  intro r x h1 h2 hp k
  refine s1 r x h1 h2 hp ?_
  refine mh_for (P := fun c x => P r c x) (G := fun c x => G2 r c x) hc ?_ ?_ x hp
  · intro y hy
    obtain ⟨q1, q2⟩ := e2 r y h1 h2 hy
    exact q2 (k y q1)
  · intro c y g1 g2 hy kk
    exact s2 r c y h1 h2 g1 g2 hy kk
def mm_f (S : Nat → Nat → Prop) (M N : mg_M) : Prop := (∀ a, kd N a = kd M a) ∧ (∀ a, ln N a = ln M a) ∧ (∀ a k, gr N a k = gr M a k) ∧ nx N = nx M ∧ (∀ a k, gl N a k = gl M a k) ∧ (∀ a k, gd N a k = gd M a k) ∧ (∀ a k, S a k ∨ gi N a k = gi M a k)
theorem mm_f_rfl {S : Nat → Nat → Prop} {M : mg_M} : mm_f S M M := ⟨fun _ => rfl, fun _ => rfl, fun _ _ => rfl, rfl, fun _ _ => rfl, fun _ _ => rfl, fun _ _ => Or.inr rfl⟩
theorem mm_f_tr {S : Nat → Nat → Prop} {M N P : mg_M} (h : mm_f S M N) (g : mm_f S N P) : mm_f S M P := by
  obtain ⟨h1, h2, h3, h4, h5, h6, h7⟩ := h
  obtain ⟨g1, g2, g3, g4, g5, g6, g7⟩ := g
  refine ⟨fun a => (g1 a).trans (h1 a), fun a => (g2 a).trans (h2 a), fun a k => (g3 a k).trans (h3 a k), g4.trans h4, fun a k => (g5 a k).trans (h5 a k), fun a k => (g6 a k).trans (h6 a k), fun a k => ?_⟩
  cases g7 a k with
  | inl s => exact Or.inl s
  | inr e =>
    cases h7 a k with
    | inl s => exact Or.inl s
    | inr e2 => exact Or.inr (e.trans e2)
theorem mm_f_mono {S T : Nat → Nat → Prop} {M N : mg_M} (h : mm_f S M N) (st : ∀ a k, S a k → T a k) : mm_f T M N := by
  obtain ⟨h1, h2, h3, h4, h5, h6, h7⟩ := h
  exact ⟨h1, h2, h3, h4, h5, h6, fun a k => (h7 a k).imp (st a k) id⟩
theorem mm_f_si {S : Nat → Nat → Prop} {M N : mg_M} {a k : Nat} {x : Int} (h : mm_f S M N) (s : S a k) : mm_f S M (si N a k x) := by
  obtain ⟨h1, h2, h3, h4, h5, h6, h7⟩ := h
  refine ⟨h1, h2, h3, h4, h5, h6, fun b j => ?_⟩
  rw [gi_si]
  by_cases e : b = a ∧ j = k
  · rw [e.1, e.2]; exact Or.inl s
  · rw [if_neg e]; exact h7 b j
theorem mm_f_gi {S : Nat → Nat → Prop} {M N : mg_M} (h : mm_f S M N) (a k : Nat) (n : ¬ S a k) : gi N a k = gi M a k := (h.2.2.2.2.2.2 a k).resolve_left n
theorem mm_f_fx {S : Nat → Nat → Prop} {x : Nat} {M N : mg_M} (h : mh_fx x M N) (s : ∀ k, S x k) : mm_f S M N := by
  obtain ⟨h1, h2, h3, h4, h5, h6, h7⟩ := h
  refine ⟨h1, h2, h3, h4, h5, h6, fun b j => ?_⟩
  by_cases e : b = x
  · rw [e]; exact Or.inl (s j)
  · exact Or.inr (h7 b j e)
/-! truth values -/
noncomputable def mh_pr (p : Prop) : Int := @ite Int p (Classical.propDecidable p) 1 0
theorem mh_pr1 {p : Prop} (h : p) : mh_pr p = 1 := @if_pos p (Classical.propDecidable p) h Int 1 0
theorem mh_pr0 {p : Prop} (h : ¬ p) : mh_pr p = 0 := @if_neg p (Classical.propDecidable p) h Int 1 0
theorem mh_prT {p : Prop} (h : mh_pr p ≠ 0) : p := Classical.byContradiction (fun q => h (mh_pr0 q))
theorem mh_prF {p : Prop} (h : mh_pr p = 0) : ¬ p := fun q => by rw [mh_pr1 q] at h; cases h
theorem mh_pr01 (p : Prop) : mh_pr p = 0 ∨ mh_pr p = 1 := (Classical.em p).elim (fun h => Or.inr (mh_pr1 h)) (fun h => Or.inl (mh_pr0 h))
theorem mh_prc {p q : Prop} (h : p ↔ q) : mh_pr p = mh_pr q := by rw [propext h]
theorem mh_pre {x : Int} {p : Prop} (h : (x = 1 ∧ p) ∨ (x = 0 ∧ ¬ p)) : x = mh_pr p := h.elim (fun q => q.1.trans (mh_pr1 q.2).symm) (fun q => q.1.trans (mh_pr0 q.2).symm)
/-- a square in front of another one, row by row, from a row and a column on -/
def mh_ex (r0 c0 C : Int) (q : Int → Int → Prop) (r c : Int) : Prop := ∃ i j, (r0 ≤ i ∧ c0 ≤ j ∧ j < C ∧ (i < r ∨ (i = r ∧ j < c))) ∧ q i j
theorem mh_ex0 {r0 c0 C : Int} {q : Int → Int → Prop} : ¬ mh_ex r0 c0 C q r0 c0 := by
  rintro ⟨i, j, h, _⟩
  omega
theorem mh_exR {r0 c0 C : Int} {q : Int → Int → Prop} {r : Int} : mh_ex r0 c0 C q r C ↔ mh_ex r0 c0 C q (r + 1) c0 := by
  constructor
  · rintro ⟨i, j, h, g⟩
    exact ⟨i, j, by omega, g⟩
  · rintro ⟨i, j, h, g⟩
    exact ⟨i, j, by omega, g⟩
theorem mh_exC {r0 c0 C : Int} {q : Int → Int → Prop} {r c : Int} (hr : r0 ≤ r) (hc : c0 ≤ c ∧ c < C) : mh_ex r0 c0 C q r (c + 1) ↔ mh_ex r0 c0 C q r c ∨ q r c := by
  constructor
  · rintro ⟨i, j, h, g⟩
    by_cases e : i = r ∧ j = c
    · rw [e.1, e.2] at g
      exact Or.inr g
    · exact Or.inl ⟨i, j, by omega, g⟩
  · rintro (⟨i, j, h, g⟩ | g)
    · exact ⟨i, j, by omega, g⟩
    · exact ⟨r, c, by omega, g⟩
theorem mh_exE {r0 c0 C : Int} {q : Int → Int → Prop} {R : Int} : mh_ex r0 c0 C q R c0 ↔ ∃ i j, (r0 ≤ i ∧ i < R) ∧ (c0 ≤ j ∧ j < C) ∧ q i j := by
  constructor
  · rintro ⟨i, j, h, g⟩
    exact ⟨i, j, by omega, by omega, g⟩
  · rintro ⟨i, j, h1, h2, g⟩
    exact ⟨i, j, by omega, g⟩
