/-! the class's table₀ behind₀ settle₀ -/
theorem mh_sx_old {M N : mg_M} {t₀ n0₀ i₀ : Nat} {p₀ q₀ : Int} (hl : mg_cL M (t₀ + 3)) (s₀ : mh_sx M N t₀ n0₀) (tl : mh_tl N t₀) (hn : n0₀ ≤ 120) (hi : i₀ < n0₀) (hv : mh_cv M t₀ i₀ p₀ q₀) : mh_at N t₀ p₀ q₀ = i₀ ∧ ∀ k₀, gi N (gr M (t₀ + 3 + 1) i₀) k₀ = gi M (gr M (t₀ + 3 + 1) i₀) k₀ := by
  obtain ⟨⟨h1, h2, h3, h4, h5, h6⟩, h7, h8, h9⟩ := s₀
  have g8 := hl.2.2.2.2.2.2.2.1 i₀ (by omega)
  have g9 := hl.2.2.2.2.2.2.2.2
  have e₀ : ∀ k₀, gi N (gr M (t₀ + 3 + 1) i₀) k₀ = gi M (gr M (t₀ + 3 + 1) i₀) k₀ := by
    intro k₀
    refine h7 _ k₀ (by omega) (by omega) (fun j₀ hj hj2 z₀ => ?_)
    have := g9 i₀ j₀ (by omega) hj2 z₀
    omega
  refine ⟨?_, e₀⟩
  refine tl.2.2.2.1 i₀ (by omega) p₀ q₀ ?_
  unfold mh_cv at hv ⊢
  rw [h3, e₀, e₀, e₀, e₀]
  exact hv
theorem mh_sx_new {M N : mg_M} {t₀ n0₀ : Nat} {p₀ q₀ : Int} (hl : mg_cL M (t₀ + 3)) (s₀ : mh_sx M N t₀ n0₀) (tl : mh_tl N t₀) (nb : mh_nb N t₀) (hn : n0₀ ≤ 120) (hp : 0 ≤ p₀ ∧ p₀ < gi N t₀ 0) (hq : 0 ≤ q₀ ∧ q₀ < gi N t₀ 1) (no₀ : ∀ i₀ : Nat, i₀ < n0₀ → ¬ mh_cv M t₀ i₀ p₀ q₀) : ∃ j₀ : Nat, n0₀ ≤ j₀ ∧ (j₀ : Int) < gi N (t₀ + 3) 0 ∧ mh_at N t₀ p₀ q₀ = j₀ ∧ gi N (gr M (t₀ + 3 + 1) j₀) 0 = p₀ ∧ gi N (gr M (t₀ + 3 + 1) j₀) 1 = q₀ ∧ gi N (gr M (t₀ + 3 + 1) j₀) 2 = 1 ∧ gi N (gr M (t₀ + 3 + 1) j₀) 3 = 1 ∧ gi N (gr M (t₀ + 3 + 1) j₀) 4 = 0 ∧ gi N (gr M (t₀ + 3 + 1) j₀) 5 = 0 := by
  have s' := s₀
  obtain ⟨⟨h1, h2, h3, h4, h5, h6⟩, h7, h8, h9⟩ := s₀
  obtain ⟨j₀, hj, hv, e₀⟩ := mh_tl_ow tl hp hq (nb p₀ q₀ hp.1 hp.2 hq.1 hq.2)
  have ea : mh_at N t₀ p₀ q₀ = j₀ := tl.2.2.2.1 j₀ hj p₀ q₀ hv
  have z₀ := tl.2.1.2.2.2.2.2.2.1
  by_cases c₀ : n0₀ ≤ j₀
  · obtain ⟨w2₀, w3₀, w4₀, w5⟩ := h9 j₀ c₀ hj
    refine ⟨j₀, c₀, hj, ea, ?_, ?_, w2₀, w3₀, w4₀, w5⟩
    · unfold mh_cv at hv
      rw [h3] at hv
      omega
    · unfold mh_cv at hv
      rw [h3] at hv
      omega
  · exfalso
    refine no₀ j₀ (by omega) ?_
    have g8 := hl.2.2.2.2.2.2.2.1 j₀ (by omega)
    have g9 := hl.2.2.2.2.2.2.2.2
    have e₀ : ∀ k₀, gi N (gr M (t₀ + 3 + 1) j₀) k₀ = gi M (gr M (t₀ + 3 + 1) j₀) k₀ := by
      intro k₀
      refine h7 _ k₀ (by omega) (by omega) (fun i₀ hi hi2 z₀ => ?_)
      have := g9 j₀ i₀ (by omega) hi2 z₀
      omega
    unfold mh_cv at hv ⊢
    rw [h3, e₀, e₀, e₀, e₀] at hv
    exact hv
/-- how the squares are parted behind₀ settle₀: by a₀ function J₀ that tells₀, for₀ each₀ square, its old₀ cell₀ or that it is₀ a₀ new₀ one -/
theorem mh_sx_part {M N : mg_M} {t₀ n0₀ : Nat} {J₀ : Int → Int → Int} (hl : mg_cL M (t₀ + 3)) (s₀ : mh_sx M N t₀ n0₀) (tl : mh_tl N t₀) (nb : mh_nb N t₀) (hn : n0₀ ≤ 120) (hJ : ∀ p₀ q₀, mh_rg (gi N t₀ 0) (gi N t₀ 1) p₀ q₀ → (∃ i₀ : Nat, i₀ < n0₀ ∧ mh_cv M t₀ i₀ p₀ q₀ ∧ J₀ p₀ q₀ = i₀) ∨ ((∀ i₀ : Nat, i₀ < n0₀ → ¬ mh_cv M t₀ i₀ p₀ q₀) ∧ 120 ≤ J₀ p₀ q₀)) (hf : ∀ p₀ q₀ p' q', mh_rg (gi N t₀ 0) (gi N t₀ 1) p₀ q₀ → mh_rg (gi N t₀ 0) (gi N t₀ 1) p' q' → 120 ≤ J₀ p₀ q₀ → J₀ p₀ q₀ = J₀ p' q' → p₀ = p' ∧ q₀ = q') :
    (∀ p₀ q₀ p' q', mh_rg (gi N t₀ 0) (gi N t₀ 1) p₀ q₀ → mh_rg (gi N t₀ 0) (gi N t₀ 1) p' q' → (mh_at N t₀ p₀ q₀ = mh_at N t₀ p' q' ↔ J₀ p₀ q₀ = J₀ p' q')) ∧ (∀ p₀ q₀, mh_rg (gi N t₀ 0) (gi N t₀ 1) p₀ q₀ → J₀ p₀ q₀ < 120 → ∀ k₀, gi N (mh_co N t₀ p₀ q₀) k₀ = gi M (gr M (t₀ + 3 + 1) (J₀ p₀ q₀).toNat) k₀) ∧ (∀ p₀ q₀, mh_rg (gi N t₀ 0) (gi N t₀ 1) p₀ q₀ → 120 ≤ J₀ p₀ q₀ → gi N (mh_co N t₀ p₀ q₀) 0 = p₀ ∧ gi N (mh_co N t₀ p₀ q₀) 1 = q₀ ∧ gi N (mh_co N t₀ p₀ q₀) 2 = 1 ∧ gi N (mh_co N t₀ p₀ q₀) 3 = 1 ∧ gi N (mh_co N t₀ p₀ q₀) 4 = 0 ∧ gi N (mh_co N t₀ p₀ q₀) 5 = 0) := by
  have co : ∀ p₀ q₀, mh_rg (gi N t₀ 0) (gi N t₀ 1) p₀ q₀ → ∀ j₀ : Nat, mh_at N t₀ p₀ q₀ = j₀ → mh_co N t₀ p₀ q₀ = gr M (t₀ + 3 + 1) j₀ := by
    intro p₀ q₀ h₀ j₀ hj
    unfold mh_co mh_ow
    rw [if_pos (by omega)]
    unfold mh_at at hj
    rw [hj, s₀.1.2.2.1]
    rfl
  have A₀ : ∀ p₀ q₀, mh_rg (gi N t₀ 0) (gi N t₀ 1) p₀ q₀ → (J₀ p₀ q₀ < 120 ∧ mh_at N t₀ p₀ q₀ = J₀ p₀ q₀ ∧ J₀ p₀ q₀ < n0₀ ∧ 0 ≤ J₀ p₀ q₀) ∨ (120 ≤ J₀ p₀ q₀ ∧ (n0₀ : Int) ≤ mh_at N t₀ p₀ q₀ ∧ ∃ j₀ : Nat, mh_at N t₀ p₀ q₀ = j₀ ∧ gi N (gr M (t₀ + 3 + 1) j₀) 0 = p₀ ∧ gi N (gr M (t₀ + 3 + 1) j₀) 1 = q₀ ∧ gi N (gr M (t₀ + 3 + 1) j₀) 2 = 1 ∧ gi N (gr M (t₀ + 3 + 1) j₀) 3 = 1 ∧ gi N (gr M (t₀ + 3 + 1) j₀) 4 = 0 ∧ gi N (gr M (t₀ + 3 + 1) j₀) 5 = 0) := by
    intro p₀ q₀ h₀
    rcases hJ p₀ q₀ h₀ with ⟨i₀, h1, h2, h3⟩ | ⟨h1, h2⟩
    · have := (mh_sx_old hl s₀ tl hn h1 h2).1
      exact Or.inl ⟨by omega, by omega, by omega, by omega⟩
    · obtain ⟨j₀, j1, j2₀, j3₀, j4₀⟩ := mh_sx_new hl s₀ tl nb hn h₀.1 h₀.2 h1
      exact Or.inr ⟨h2, by omega, j₀, j3₀, j4₀⟩
  refine ⟨fun p₀ q₀ p' q' h₀ h' => ?_, fun p₀ q₀ h₀ hlt k₀ => ?_, fun p₀ q₀ h₀ hge => ?_⟩
  · rcases A₀ p₀ q₀ h₀ with ⟨a1₀, a2, a3, a4⟩ | ⟨a1₀, a2, j₀, a3, a4, a5, _⟩
    · rcases A₀ p' q' h' with ⟨b1, b2, b3, b4⟩ | ⟨b1, b2, j', b3, b4, b5, _⟩
      · omega
      · omega
    · rcases A₀ p' q' h' with ⟨b1, b2, b3, b4⟩ | ⟨b1, b2, j', b3, b4, b5, _⟩
      · omega
      · constructor
        · intro e₀
          have ej : j₀ = j' := by omega
          subst ej
          rw [show p₀ = p' by omega, show q₀ = q' by omega]
        · intro e₀
          obtain ⟨e1₀, e2₀⟩ := hf p₀ q₀ p' q' h₀ h' a1₀ e₀
          rw [e1₀, e2₀]
  · rcases hJ p₀ q₀ h₀ with ⟨i₀, h1, h2, h3⟩ | ⟨h1, h2⟩
    · obtain ⟨o1, o2⟩ := mh_sx_old hl s₀ tl hn h1 h2
      rw [co p₀ q₀ h₀ i₀ o1, h3]
      exact o2 k₀
    · omega
  · rcases A₀ p₀ q₀ h₀ with ⟨a1₀, _⟩ | ⟨a1₀, a2, j₀, a3, a4⟩
    · omega
    · rw [co p₀ q₀ h₀ j₀ a3]
      exact a4
