def mh_irG (J₀ : Int → Int → Int) (R x₀ p₀ q₀ : Int) : Int := if p₀ < x₀ then J₀ p₀ q₀ else if x₀ < p₀ then J₀ (p₀ - 1) q₀ else if (0 < x₀ ∧ x₀ < R) ∧ J₀ (x₀ - 1) q₀ = J₀ x₀ q₀ then J₀ x₀ q₀ else 120 + q₀
/-- the class's table₀ behind₀ a₀ change -/
def mh_nw (M N : mg_M) (t₀ : Nat) (R C hd₀ : Int) (J₀ : Int → Int → Int) (cn sy wd ht : Int → Int) : Prop := mm_f (fun a₀ _ => t₀ ≤ a₀ ∧ a₀ < t₀ + 129) M N ∧ (mh_tl N t₀ ∧ mh_nb N t₀) ∧ (gi N t₀ 0 = R ∧ gi N t₀ 1 = C ∧ gi N t₀ 2 = hd₀) ∧ (∀ p₀ q₀ p' q', mh_rg R C p₀ q₀ → mh_rg R C p' q' → (mh_at N t₀ p₀ q₀ = mh_at N t₀ p' q' ↔ J₀ p₀ q₀ = J₀ p' q')) ∧ (∀ p₀ q₀, mh_rg R C p₀ q₀ → gi N (mh_co N t₀ p₀ q₀) 4 = cn (J₀ p₀ q₀) ∧ gi N (mh_co N t₀ p₀ q₀) 5 = sy (J₀ p₀ q₀)) ∧ (∀ k₀, 0 ≤ k₀ → k₀ < C → gi N (t₀ + 2) k₀.toNat = wd k₀) ∧ (∀ k₀, 0 ≤ k₀ → k₀ < R → gi N (t₀ + 1) k₀.toNat = ht k₀)
/-- a₀ field₀ of an old₀ cell₀, blank₀ for₀ a₀ new₀ one -/
def mh_cn (M : mg_M) (t₀ f₀ : Nat) (k₀ : Int) : Int := if k₀ < 120 then gi M (gr M (t₀ + 3 + 1) k₀.toNat) f₀ else 0
theorem mh_sx_f {M N : mg_M} {t₀ n0₀ : Nat} (hl : mg_cL M (t₀ + 3)) (s₀ : mh_sx M N t₀ n0₀) : mm_f (fun a₀ _ => t₀ ≤ a₀ ∧ a₀ < t₀ + 129) M N := by
  obtain ⟨⟨h1, h2, h3, h4, h5, h6⟩, h7, h8, h9⟩ := s₀
  refine ⟨h1, h2, h3, h4, h5, h6, fun a₀ k₀ => ?_⟩
  by_cases c₀ : t₀ ≤ a₀ ∧ a₀ < t₀ + 129
  · exact Or.inl c₀
  · refine Or.inr (h7 a₀ k₀ (by omega) (by omega) (fun i₀ hi hi2 z₀ => ?_))
    have := hl.2.2.2.2.2.2.2.1 i₀ hi2
    omega
/-- settle₀, told₀ by where each₀ square comes from -/
theorem cX4_settleJ {D : mg_D} {l : Launch} (hl : l.stackTraces = false) {M Z₀ : mg_M} {t₀ n0₀ : Nat} {R C hd₀ : Int} {J₀ : Int → Int → Int} {wd ht : Int → Int} (f₀ : mm_f (fun a₀ _ => t₀ ≤ a₀ ∧ a₀ < t₀ + 129) M Z₀) (tb₀ : mg_tb Z₀ t₀) (cl₀ : mg_cL M (t₀ + 3)) (hn : gi Z₀ (t₀ + 3) 0 = n0₀) (hR : gi Z₀ t₀ 0 = R ∧ gi Z₀ t₀ 1 = C ∧ gi Z₀ t₀ 2 = hd₀) (hb₀ : R ≤ 12 ∧ C ≤ 10) (hcs : ∀ i₀ : Nat, i₀ < n0₀ → gi Z₀ (gr M (t₀ + 3 + 1) i₀) 4 = gi M (gr M (t₀ + 3 + 1) i₀) 4 ∧ gi Z₀ (gr M (t₀ + 3 + 1) i₀) 5 = gi M (gr M (t₀ + 3 + 1) i₀) 5) (hok : ∀ i₀ : Nat, i₀ < n0₀ → mh_ok Z₀ t₀ i₀) (hdj : mh_dj Z₀ t₀) (hn0 : n0₀ ≤ 120) (hJ : ∀ p₀ q₀, mh_rg R C p₀ q₀ → (∃ i₀ : Nat, i₀ < n0₀ ∧ mh_cv Z₀ t₀ i₀ p₀ q₀ ∧ J₀ p₀ q₀ = i₀) ∨ ((∀ i₀ : Nat, i₀ < n0₀ → ¬ mh_cv Z₀ t₀ i₀ p₀ q₀) ∧ 120 ≤ J₀ p₀ q₀)) (hf : ∀ p₀ q₀ p' q', mh_rg R C p₀ q₀ → mh_rg R C p' q' → 120 ≤ J₀ p₀ q₀ → J₀ p₀ q₀ = J₀ p' q' → p₀ = p' ∧ q₀ = q') (hw : ∀ k₀, 0 ≤ k₀ → k₀ < C → gi Z₀ (t₀ + 2) k₀.toNat = wd k₀) (hh : ∀ k₀, 0 ≤ k₀ → k₀ < R → gi Z₀ (t₀ + 1) k₀.toNat = ht k₀) : mg_Mt D l 46 [.inr (.inl t₀)] Z₀ (fun v₀ N => v₀ = none ∧ mh_nw M N t₀ R C hd₀ J₀ (mh_cn M t₀ 4) (mh_cn M t₀ 5) wd ht) mg_no := by
  have e4₀ := f₀.2.2.1
  have clZ : mg_cL Z₀ (t₀ + 3) := by
    refine mh_fr_cL (h4 := rfl) (M := (Z₀.1, Z₀.2.1, M.2.2.1, Z₀.2.2.2)) ?_ (fun _ => rfl) (fun _ => rfl) (fun a₀ k₀ => e4₀ a₀ k₀)
    have z1 := f₀.1
    have z2 := f₀.2.1
    unfold mg_cL at *
    obtain ⟨c1₀, c2₀, c3₀, c4₀, c5₀, c6₀, c7₀, c8₀, c9₀⟩ := cl₀
    exact ⟨(z1 _).trans c1₀, c2₀, c3₀, (z1 _).trans c4₀, (z2 _).trans c5₀, (z1 _).trans c6₀, by show 0 ≤ gi Z₀ (t₀ + 3) 0 ∧ gi Z₀ (t₀ + 3) 0 ≤ 120; omega, fun i₀ hi => ⟨(z1 _).trans (c8₀ i₀ hi).1, (c8₀ i₀ hi).2⟩, c9₀⟩
  refine mg_MtN (cX4_settle hl tb₀ clZ hn (fun i₀ hi => hok i₀ (by omega)) hdj) ?_
  rintro v₀ N ⟨q₀, s₀, tl, nb⟩
  have s2₀ := s₀
  obtain ⟨⟨g1, g2, g3₀, g4, g5₀, g6⟩, g7, g8, g9⟩ := s₀
  have fr₀ : ∀ a₀ k₀, a₀ ≠ t₀ + 126 → (a₀ < t₀ + 6 ∨ t₀ + 126 ≤ a₀) → ¬ (a₀ = t₀ + 3 ∧ k₀ = 0) → gi N a₀ k₀ = gi Z₀ a₀ k₀ := by
    intro a₀ k₀ h1 h2 h3
    refine g7 a₀ k₀ h1 h3 (fun i₀ hi hi2 z₀ => ?_)
    have := clZ.2.2.2.2.2.2.2.1 i₀ hi2
    omega
  have r0 : gi N t₀ 0 = R := (fr₀ t₀ 0 (by omega) (by omega) (by omega)).trans hR.1
  have r1₀ : gi N t₀ 1 = C := (fr₀ t₀ 1 (by omega) (by omega) (by omega)).trans hR.2.1
  have r2 : gi N t₀ 2 = hd₀ := (fr₀ t₀ 2 (by omega) (by omega) (by omega)).trans hR.2.2
  have nbN : mh_nb N t₀ := fun p₀ q₀ h1 h2 h3 h4 => nb p₀ q₀ h1 (by omega) h3 (by omega)
  obtain ⟨p1₀, p2₀, p3₀⟩ := mh_sx_part (J₀ := J₀) clZ s2₀ tl nbN hn0 (by rw [r0, r1₀]; exact hJ) (by rw [r0, r1₀]; exact hf)
  rw [r0, r1₀] at p1₀ p2₀ p3₀
  refine ⟨q₀, mm_f_tr f₀ (mh_sx_f clZ s2₀), ⟨tl, nbN⟩, ⟨r0, r1₀, r2⟩, p1₀, fun p₀ q' h₀ => ?_, fun k₀ k0₀ k1₀ => ?_, fun k₀ k0₀ k1₀ => ?_⟩
  · unfold mh_cn
    by_cases c₀ : J₀ p₀ q' < 120
    · rw [if_pos c₀, if_pos c₀, p2₀ p₀ q' h₀ c₀, p2₀ p₀ q' h₀ c₀, e4₀]
      rcases hJ p₀ q' h₀ with ⟨i₀, hi, _, e₀⟩ | ⟨_, e₀⟩
      · rw [e₀, Int.toNat_natCast]
        exact hcs i₀ hi
      · omega
    · rw [if_neg c₀, if_neg c₀]
      obtain ⟨_, _, _, _, w4₀, w5⟩ := p3₀ p₀ q' h₀ (by omega)
      exact ⟨w4₀, w5⟩
  · rw [fr₀ (t₀ + 2) _ (by omega) (by omega) (by omega)]; exact hw k₀ k0₀ k1₀
  · rw [fr₀ (t₀ + 1) _ (by omega) (by omega) (by omega)]; exact hh k₀ k0₀ k1₀
