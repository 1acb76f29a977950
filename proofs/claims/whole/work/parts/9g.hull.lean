/-! growByCells, growByBorders: both₀ leave₀ the smallest closed₀ area -/
def mh_cc (M : mg_M) (t₀ : Nat) (f₀ e₀ a₀ d₀ : Int) : Prop := ∀ i₀ : Nat, (i₀ : Int) < gi M (t₀ + 3) 0 → mh_mt f₀ e₀ a₀ d₀ (gi M (gr M (t₀ + 3 + 1) i₀) 0) (gi M (gr M (t₀ + 3 + 1) i₀) 1) (gi M (gr M (t₀ + 3 + 1) i₀) 2) (gi M (gr M (t₀ + 3 + 1) i₀) 3) → mh_wn f₀ e₀ a₀ d₀ (gi M (gr M (t₀ + 3 + 1) i₀) 0) (gi M (gr M (t₀ + 3 + 1) i₀) 1) (gi M (gr M (t₀ + 3 + 1) i₀) 2) (gi M (gr M (t₀ + 3 + 1) i₀) 3)
/-- the area at b₀ in N holds₀ the one of M, and no₀ more₀ than each₀ closed₀ area around that -/
def mh_gz (M N : mg_M) (t₀ b₀ : Nat) : Prop := mh_fx b₀ M N ∧ mh_ar N t₀ b₀ ∧ (gi N b₀ 0 ≤ gi M b₀ 0 ∧ gi M b₀ 2 ≤ gi N b₀ 2 ∧ gi N b₀ 1 ≤ gi M b₀ 1 ∧ gi M b₀ 3 ≤ gi N b₀ 3) ∧ ∀ p₀ q₀ u₀ v₀, mh_cc M t₀ p₀ q₀ u₀ v₀ → p₀ ≤ gi M b₀ 0 → gi M b₀ 2 ≤ q₀ → u₀ ≤ gi M b₀ 1 → gi M b₀ 3 ≤ v₀ → p₀ ≤ gi N b₀ 0 ∧ gi N b₀ 2 ≤ q₀ ∧ u₀ ≤ gi N b₀ 1 ∧ gi N b₀ 3 ≤ v₀
def mh_le (N P : mg_M) (b₀ : Nat) : Prop := gi P b₀ 0 ≤ gi N b₀ 0 ∧ gi N b₀ 2 ≤ gi P b₀ 2 ∧ gi P b₀ 1 ≤ gi N b₀ 1 ∧ gi N b₀ 3 ≤ gi P b₀ 3
def mh_sa (N P : mg_M) (b₀ : Nat) : Prop := gi P b₀ 0 = gi N b₀ 0 ∧ gi P b₀ 2 = gi N b₀ 2 ∧ gi P b₀ 1 = gi N b₀ 1 ∧ gi P b₀ 3 = gi N b₀ 3
theorem mh_gz1 {M N : mg_M} {t₀ b₀ i₀ : Nat} (tl : mh_tl M t₀) (hb₀ : kd M b₀ = 1) (g₀ : mh_gz M N t₀ b₀) (hi : (i₀ : Int) < gi M (t₀ + 3) 0) (hm₀ : mh_mt (gi N b₀ 0) (gi N b₀ 2) (gi N b₀ 1) (gi N b₀ 3) (gi M (gr M (t₀ + 3 + 1) i₀) 0) (gi M (gr M (t₀ + 3 + 1) i₀) 1) (gi M (gr M (t₀ + 3 + 1) i₀) 2) (gi M (gr M (t₀ + 3 + 1) i₀) 3)) : mh_gz M (mh_tk N b₀ (gr M (t₀ + 3 + 1) i₀)) t₀ b₀ ∧ mh_le N (mh_tk N b₀ (gr M (t₀ + 3 + 1) i₀)) b₀ ∧ (mh_sa N (mh_tk N b₀ (gr M (t₀ + 3 + 1) i₀)) b₀ → mh_wn (gi N b₀ 0) (gi N b₀ 2) (gi N b₀ 1) (gi N b₀ 3) (gi M (gr M (t₀ + 3 + 1) i₀) 0) (gi M (gr M (t₀ + 3 + 1) i₀) 1) (gi M (gr M (t₀ + 3 + 1) i₀) 2) (gi M (gr M (t₀ + 3 + 1) i₀) 3)) := by
  obtain ⟨f₀, ar, le₀, mn₀⟩ := g₀
  have g1 := tl.1.1.1
  have nt : t₀ ≠ b₀ := fun e₀ => by rw [e₀] at g1; omega
  have z₀ := tl.2.1.2.2.2.2.2.2.1
  have ka := (tl.2.1.2.2.2.2.2.2.2.1 i₀ (by omega)).1
  obtain ⟨a₀, ha₀⟩ : ∃ a₀, gr M (t₀ + 3 + 1) i₀ = a₀ := ⟨_, rfl⟩
  rw [ha₀] at hm₀ ka ⊢
  have ne₀ : a₀ ≠ b₀ := fun e₀ => by rw [e₀] at ka; omega
  have av : ∀ k₀, gi N a₀ k₀ = gi M a₀ k₀ := fun k₀ => f₀.2.2.2.2.2.2 a₀ k₀ ne₀
  obtain ⟨e0₀, e1₀, e2₀, e3₀⟩ := @mh_p4_at N b₀ (min (gi N b₀ 0) (gi N a₀ 0)) (min (gi N b₀ 1) (gi N a₀ 1)) (max (gi N b₀ 2) (gi N a₀ 0 + gi N a₀ 2 - 1)) (max (gi N b₀ 3) (gi N a₀ 1 + gi N a₀ 3 - 1))
  have e0' : gi (mh_tk N b₀ a₀) b₀ 0 = min (gi N b₀ 0) (gi N a₀ 0) := e0₀
  have e1' : gi (mh_tk N b₀ a₀) b₀ 1 = min (gi N b₀ 1) (gi N a₀ 1) := e1₀
  have e2' : gi (mh_tk N b₀ a₀) b₀ 2 = max (gi N b₀ 2) (gi N a₀ 0 + gi N a₀ 2 - 1) := e2₀
  have e3' : gi (mh_tk N b₀ a₀) b₀ 3 = max (gi N b₀ 3) (gi N a₀ 1 + gi N a₀ 3 - 1) := e3₀
  rw [av] at e0' e1'
  rw [av, av] at e2' e3'
  obtain ⟨tlN, _, _, _, _, s3₀⟩ := mh_fx_tl f₀ hb₀ tl
  have arP : mh_ar (mh_tk N b₀ a₀) t₀ b₀ := mh_tk_ar nt ar (by rw [f₀.2.2.1]; exact ha₀.symm) (tlN.2.2.1 i₀ (by omega))
  refine ⟨⟨mh_fx_tr f₀ mh_fx_p4, arP, by omega, fun p₀ q₀ u₀ v₀ h₀ h1 h2 h3 h4 => ?_⟩, by unfold mh_le; omega, fun s₀ => ?_⟩
  · have w₀ := mn₀ p₀ q₀ u₀ v₀ h₀ h1 h2 h3 h4
    have y₀ := h₀ i₀ hi
    rw [ha₀] at y₀
    have y₀ := y₀ (by omega)
    omega
  · unfold mh_sa at s₀
    omega
theorem mh_le_tr {N P Q₀ : mg_M} {b₀ : Nat} (h₀ : mh_le N P b₀) (g₀ : mh_le P Q₀ b₀) : mh_le N Q₀ b₀ := by unfold mh_le at *; omega
theorem mh_sa_mid {N P Q₀ : mg_M} {b₀ : Nat} (h₀ : mh_le N P b₀) (g₀ : mh_le P Q₀ b₀) (s₀ : mh_sa N Q₀ b₀) : mh_sa N P b₀ ∧ mh_sa P Q₀ b₀ := by unfold mh_le mh_sa at *; omega
theorem mh_gz_tc {M N : mg_M} {t₀ b₀ : Nat} (tl : mh_tl M t₀) (hb₀ : kd M b₀ = 1) (g₀ : mh_gz M N t₀ b₀) (n₀ : Nat) (hn : (n₀ : Int) ≤ gi M (t₀ + 3) 0) : mh_gz M (mh_tc t₀ b₀ N n₀) t₀ b₀ ∧ mh_le N (mh_tc t₀ b₀ N n₀) b₀ ∧ (mh_sa N (mh_tc t₀ b₀ N n₀) b₀ → ∀ i₀ : Nat, i₀ < n₀ → mh_mt (gi N b₀ 0) (gi N b₀ 2) (gi N b₀ 1) (gi N b₀ 3) (gi M (gr M (t₀ + 3 + 1) i₀) 0) (gi M (gr M (t₀ + 3 + 1) i₀) 1) (gi M (gr M (t₀ + 3 + 1) i₀) 2) (gi M (gr M (t₀ + 3 + 1) i₀) 3) → mh_wn (gi N b₀ 0) (gi N b₀ 2) (gi N b₀ 1) (gi N b₀ 3) (gi M (gr M (t₀ + 3 + 1) i₀) 0) (gi M (gr M (t₀ + 3 + 1) i₀) 1) (gi M (gr M (t₀ + 3 + 1) i₀) 2) (gi M (gr M (t₀ + 3 + 1) i₀) 3)) := by
  induction n₀ with
  | zero => exact ⟨g₀, by unfold mh_le; show gi N b₀ 0 ≤ gi N b₀ 0 ∧ gi N b₀ 2 ≤ gi N b₀ 2 ∧ gi N b₀ 1 ≤ gi N b₀ 1 ∧ gi N b₀ 3 ≤ gi N b₀ 3; omega, fun _ i₀ hi => absurd hi (Nat.not_lt_zero i₀)⟩
  | succ n₀ ih₀ =>
    obtain ⟨h1, h2, h3⟩ := ih₀ (by omega)
    have e₀ : mh_tc t₀ b₀ N (n₀ + 1) = bif mh_me (mh_tc t₀ b₀ N n₀) (gr N (t₀ + 3 + 1) n₀) b₀ then mh_tk (mh_tc t₀ b₀ N n₀) b₀ (gr N (t₀ + 3 + 1) n₀) else mh_tc t₀ b₀ N n₀ := rfl
    rw [e₀, g₀.1.2.2.1]
    clear e₀
    generalize mh_tc t₀ b₀ N n₀ = P at *
    have z₀ := tl.2.1.2.2.2.2.2.2.1
    have ka := (tl.2.1.2.2.2.2.2.2.2.1 n₀ (by omega)).1
    have ne₀ : gr M (t₀ + 3 + 1) n₀ ≠ b₀ := fun e₀ => by rw [e₀] at ka; omega
    have av : ∀ k₀, gi P (gr M (t₀ + 3 + 1) n₀) k₀ = gi M (gr M (t₀ + 3 + 1) n₀) k₀ := fun k₀ => h1.1.2.2.2.2.2.2 _ k₀ ne₀
    cases c₀ : mh_me P (gr M (t₀ + 3 + 1) n₀) b₀ with
    | false =>
      simp only [cond_false]
      refine ⟨h1, h2, fun s₀ i₀ hi => ?_⟩
      by_cases x₀ : i₀ = n₀
      · rw [x₀]
        intro m₀
        exfalso
        unfold mh_me at c₀
        have := of_decide_eq_false c₀
        rw [av, av, av, av] at this
        unfold mh_sa at s₀
        omega
      · exact h3 s₀ i₀ (by omega)
    | true =>
      simp only [cond_true]
      have c2₀ : mh_mt (gi P b₀ 0) (gi P b₀ 2) (gi P b₀ 1) (gi P b₀ 3) (gi M (gr M (t₀ + 3 + 1) n₀) 0) (gi M (gr M (t₀ + 3 + 1) n₀) 1) (gi M (gr M (t₀ + 3 + 1) n₀) 2) (gi M (gr M (t₀ + 3 + 1) n₀) 3) := by
        unfold mh_me at c₀
        have := of_decide_eq_true c₀
        rw [av, av, av, av] at this
        omega
      obtain ⟨w1₀, w2₀, w3₀⟩ := mh_gz1 tl hb₀ h1 (by omega) c2₀
      refine ⟨w1₀, mh_le_tr h2 w2₀, fun s₀ i₀ hi => ?_⟩
      obtain ⟨s1₀, s2₀⟩ := mh_sa_mid h2 w2₀ s₀
      by_cases x₀ : i₀ = n₀
      · rw [x₀]
        intro _
        have := w3₀ s2₀
        unfold mh_sa at s1₀
        omega
      · exact h3 s1₀ i₀ (by omega)
theorem mh_mulS {a₀ b₀ c₀ d₀ : Int} (h1 : 1 ≤ a₀) (h2 : 1 ≤ b₀) (h3 : a₀ ≤ c₀) (h4 : b₀ ≤ d₀) (h5 : a₀ < c₀ ∨ b₀ < d₀) : a₀ * b₀ < c₀ * d₀ := by
  rcases h5 with h₀ | h₀
  · have w1₀ : a₀ * b₀ < c₀ * b₀ := Int.mul_lt_mul_of_pos_right h₀ (by omega)
    have w2₀ : c₀ * b₀ ≤ c₀ * d₀ := Int.mul_le_mul_of_nonneg_left h4 (by omega)
    omega
  · have w1₀ : a₀ * b₀ < a₀ * d₀ := Int.mul_lt_mul_of_pos_left h₀ (by omega)
    have w2₀ : a₀ * d₀ ≤ c₀ * d₀ := Int.mul_le_mul_of_nonneg_right h3 (by omega)
    omega
theorem mh_sq_sa {N P : mg_M} {t₀ b₀ : Nat} (ar : mh_ar N t₀ b₀) (h₀ : mh_le N P b₀) : (mh_sa N P b₀ ∧ mh_sq P b₀ = mh_sq N b₀) ∨ (mh_sq N b₀ < mh_sq P b₀ ∧ (gi N b₀ 2 - gi N b₀ 0) + (gi N b₀ 3 - gi N b₀ 1) < (gi P b₀ 2 - gi P b₀ 0) + (gi P b₀ 3 - gi P b₀ 1)) := by
  unfold mh_le at h₀
  unfold mh_ar at ar
  by_cases s₀ : mh_sa N P b₀
  · refine Or.inl ⟨s₀, ?_⟩
    unfold mh_sa at s₀
    unfold mh_sq
    rw [s₀.1, s₀.2.1, s₀.2.2.1, s₀.2.2.2]
  · refine Or.inr ⟨?_, ?_⟩
    · unfold mh_sa at s₀
      unfold mh_sq
      exact mh_mulS (by omega) (by omega) (by omega) (by omega) (by omega)
    · unfold mh_sa at s₀
      omega
/-- the passes: F₀ is₀ one pass₀, cl₀ what it leaves closed₀ where it changes₀ nothing₀ -/
theorem mh_gpass {M : mg_M} {t₀ b₀ : Nat} {F₀ : mg_M → mg_M} {cl₀ : mg_M → Prop} {G : Nat → Int → mg_M → mg_M} (tb₀ : mg_tb M t₀) (nt : t₀ ≠ b₀) (g0 : ∀ o N, G 0 o N = N) (g1 : ∀ p₀ o N, G (p₀ + 1) o N = if o < mh_sq N b₀ then G p₀ (mh_sq N b₀) (F₀ N) else N) (hF : ∀ N, mh_gz M N t₀ b₀ → mh_gz M (F₀ N) t₀ b₀ ∧ mh_le N (F₀ N) b₀ ∧ (mh_sa N (F₀ N) b₀ → cl₀ (F₀ N))) : ∀ (p₀ : Nat) (o : Int) (N : mg_M), mh_gz M N t₀ b₀ → (o < mh_sq N b₀ ∨ cl₀ N) → (o < mh_sq N b₀ → 22 - (p₀ : Int) ≤ (gi N b₀ 2 - gi N b₀ 0) + (gi N b₀ 3 - gi N b₀ 1)) → mh_gz M (G p₀ o N) t₀ b₀ ∧ cl₀ (G p₀ o N) := by
  have bb := tb₀.2.2
  have R : ∀ N, mh_gz M N t₀ b₀ → (gi N b₀ 2 - gi N b₀ 0) + (gi N b₀ 3 - gi N b₀ 1) ≤ 20 := by
    intro N g₀
    have ar := g₀.2.1
    unfold mh_ar at ar
    rw [g₀.1.2.2.2.2.2.2 t₀ 0 nt, g₀.1.2.2.2.2.2.2 t₀ 1 nt] at ar
    omega
  intro p₀
  induction p₀ with
  | zero =>
    intro o N g₀ h1 h2
    rw [g0]
    have r₀ := R N g₀
    rcases h1 with h₀ | h₀
    · have := h2 h₀
      omega
    · exact ⟨g₀, h₀⟩
  | succ p₀ ih₀ =>
    intro o N g₀ h1 h2
    rw [g1]
    by_cases c₀ : o < mh_sq N b₀
    · rw [if_pos c₀]
      obtain ⟨w1₀, w2₀, w3₀⟩ := hF N g₀
      have u₀ := h2 c₀
      rcases mh_sq_sa g₀.2.1 w2₀ with ⟨s₀, e₀⟩ | ⟨e1₀, e2₀⟩
      · exact ih₀ _ _ w1₀ (Or.inr (w3₀ s₀)) (fun x₀ => by omega)
      · exact ih₀ _ _ w1₀ (Or.inl e1₀) (fun _ => by omega)
    · rw [if_neg c₀]
      exact ⟨g₀, h1.resolve_left c₀⟩
theorem mh_gz0 {M : mg_M} {t₀ b₀ : Nat} (ar : mh_ar M t₀ b₀) : mh_gz M M t₀ b₀ := ⟨mh_fx_rfl, ar, by omega, fun p₀ q₀ u₀ v₀ _ h1 h2 h3 h4 => ⟨h1, h2, h3, h4⟩⟩
def mh_hl (M N : mg_M) (t₀ b₀ : Nat) : Prop := mh_fx b₀ M N ∧ mh_ar N t₀ b₀ ∧ mh_hull (mh_cc M t₀) (gi M b₀ 0) (gi M b₀ 2) (gi M b₀ 1) (gi M b₀ 3) (gi N b₀ 0) (gi N b₀ 2) (gi N b₀ 1) (gi N b₀ 3)
theorem mh_hl_of {M N : mg_M} {t₀ b₀ : Nat} (g₀ : mh_gz M N t₀ b₀) (h₀ : mh_cc M t₀ (gi N b₀ 0) (gi N b₀ 2) (gi N b₀ 1) (gi N b₀ 3)) : mh_hl M N t₀ b₀ := ⟨g₀.1, g₀.2.1, g₀.2.2.1, h₀, g₀.2.2.2⟩
theorem mh_sq1 {M : mg_M} {t₀ b₀ : Nat} (ar : mh_ar M t₀ b₀) : 0 < mh_sq M b₀ := by
  unfold mh_ar at ar
  unfold mh_sq
  exact Int.mul_pos (by omega) (by omega)
theorem cX4_growHull {D : mg_D} {l : Launch} (hl : l.stackTraces = false) {M : mg_M} {t₀ b₀ : Nat} (tl : mh_tl M t₀) (hb₀ : kd M b₀ = 1) (har : mh_ar M t₀ b₀) : mg_Mt D l 60 [.inr (.inl t₀), .inr (.inl b₀)] M (fun v₀ N => v₀ = none ∧ mh_hl M N t₀ b₀) mg_no := by
  have g1 := tl.1.1.1
  have nt : t₀ ≠ b₀ := fun e₀ => by rw [e₀] at g1; omega
  have z₀ := tl.2.1.2.2.2.2.2.2.1
  refine mg_MtN (cX4_growByCells hl tl hb₀ har) ?_
  rintro v₀ N ⟨e₀, rfl⟩
  have s1₀ := mh_sq1 har
  obtain ⟨w1₀, w2₀⟩ := mh_gpass (F₀ := fun N => mh_tc t₀ b₀ N (gi M (t₀ + 3) 0).toNat) (cl₀ := fun N => mh_cc M t₀ (gi N b₀ 0) (gi N b₀ 2) (gi N b₀ 1) (gi N b₀ 3)) (G := mh_gc t₀ b₀ (gi M (t₀ + 3) 0).toNat) tl.1 nt (fun _ _ => rfl) (fun _ _ _ => rfl) (fun N g₀ => by
    obtain ⟨a1₀, a2, a3⟩ := mh_gz_tc tl hb₀ g₀ (gi M (t₀ + 3) 0).toNat (by omega)
    refine ⟨a1₀, a2, fun s₀ i₀ hi hm₀ => ?_⟩
    have w₀ := a3 s₀ i₀ (by omega)
    unfold mh_sa at s₀
    rw [s₀.1, s₀.2.1, s₀.2.2.1, s₀.2.2.2] at hm₀ ⊢
    exact w₀ hm₀) 22 0 M (mh_gz0 har) (Or.inl s1₀) (fun _ => by unfold mh_ar at har; omega)
  exact ⟨e₀, mh_hl_of w1₀ w2₀⟩
