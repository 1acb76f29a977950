/-! settle₀ where the cells' list itself₀ was changed (cells₀ taken₀ out₀ or added₀) -/
def mh_fw (M N : mg_M) (t₀ : Nat) : Prop := (∀ a₀, kd N a₀ = kd M a₀) ∧ (∀ a₀, ln N a₀ = ln M a₀) ∧ (∀ a₀ k₀, a₀ = t₀ + 3 + 1 ∨ gr N a₀ k₀ = gr M a₀ k₀) ∧ nx N = nx M ∧ (∀ a₀ k₀, gl N a₀ k₀ = gl M a₀ k₀) ∧ (∀ a₀ k₀, gd N a₀ k₀ = gd M a₀ k₀) ∧ (∀ a₀ k₀, (t₀ ≤ a₀ ∧ a₀ < t₀ + 129) ∨ gi N a₀ k₀ = gi M a₀ k₀)
theorem mh_fw_of {M N : mg_M} {t₀ : Nat} {S : Nat → Nat → Prop} (f₀ : mm_f S M N) (h₀ : ∀ a₀ k₀, S a₀ k₀ → t₀ ≤ a₀ ∧ a₀ < t₀ + 129) : mh_fw M N t₀ :=
  ⟨f₀.1, f₀.2.1, fun a₀ k₀ => Or.inr (f₀.2.2.1 a₀ k₀), f₀.2.2.2.1, f₀.2.2.2.2.1, f₀.2.2.2.2.2.1, fun a₀ k₀ => (f₀.2.2.2.2.2.2 a₀ k₀).imp (h₀ a₀ k₀) id⟩
theorem mh_fw_tr {M N P : mg_M} {t₀ : Nat} (f₀ : mh_fw M N t₀) (g₀ : mh_fw N P t₀) : mh_fw M P t₀ := by
  obtain ⟨a1₀, a2, a3, a4, a5, a6, a7⟩ := f₀
  obtain ⟨b1, b2, b3, b4, b5, b6, b7⟩ := g₀
  refine ⟨fun a₀ => (b1 a₀).trans (a1₀ a₀), fun a₀ => (b2 a₀).trans (a2 a₀), fun a₀ k₀ => ?_, b4.trans a4, fun a₀ k₀ => (b5 a₀ k₀).trans (a5 a₀ k₀), fun a₀ k₀ => (b6 a₀ k₀).trans (a6 a₀ k₀), fun a₀ k₀ => ?_⟩
  · rcases a3 a₀ k₀ with h₀ | h₀
    · exact Or.inl h₀
    · exact (b3 a₀ k₀).imp id (fun e₀ => e₀.trans h₀)
  · rcases a7 a₀ k₀ with h₀ | h₀
    · exact Or.inl h₀
    · exact (b7 a₀ k₀).imp id (fun e₀ => e₀.trans h₀)
/-- the class's table₀ behind₀ a₀ change that may₀ have permuted its cells₀ -/
def mh_nv (M N : mg_M) (t₀ : Nat) (R C hd₀ : Int) (J₀ : Int → Int → Int) (cn sy wd ht : Int → Int) : Prop := mh_fw M N t₀ ∧ (mh_tl N t₀ ∧ mh_nb N t₀) ∧ (gi N t₀ 0 = R ∧ gi N t₀ 1 = C ∧ gi N t₀ 2 = hd₀) ∧ (∀ p₀ q₀ p' q', mh_rg R C p₀ q₀ → mh_rg R C p' q' → (mh_at N t₀ p₀ q₀ = mh_at N t₀ p' q' ↔ J₀ p₀ q₀ = J₀ p' q')) ∧ (∀ p₀ q₀, mh_rg R C p₀ q₀ → gi N (mh_co N t₀ p₀ q₀) 4 = cn (J₀ p₀ q₀) ∧ gi N (mh_co N t₀ p₀ q₀) 5 = sy (J₀ p₀ q₀)) ∧ (∀ k₀, 0 ≤ k₀ → k₀ < C → gi N (t₀ + 2) k₀.toNat = wd k₀) ∧ (∀ k₀, 0 ≤ k₀ → k₀ < R → gi N (t₀ + 1) k₀.toNat = ht k₀)
theorem mh_nv_of {M N : mg_M} {t₀ : Nat} {R C hd₀ : Int} {J₀ : Int → Int → Int} {cn sy wd ht : Int → Int} (h₀ : mh_nw M N t₀ R C hd₀ J₀ cn sy wd ht) : mh_nv M N t₀ R C hd₀ J₀ cn sy wd ht := ⟨mh_fw_of h₀.1 (fun _ _ z₀ => z₀), h₀.2⟩
/-- settle₀, told₀ by where each₀ square comes from, in the numbers₀ of the list that settle₀ finds₀ -/
theorem cX4_settleG {D : mg_D} {l : Launch} (hl : l.stackTraces = false) {M Z₀ : mg_M} {t₀ n0₀ : Nat} {R C hd₀ : Int} {J₀ : Int → Int → Int} {cn sy wd ht : Int → Int} (f₀ : mh_fw M Z₀ t₀) (tb₀ : mg_tb Z₀ t₀) (clZ : mg_cL Z₀ (t₀ + 3)) (hn : gi Z₀ (t₀ + 3) 0 = n0₀) (hR : gi Z₀ t₀ 0 = R ∧ gi Z₀ t₀ 1 = C ∧ gi Z₀ t₀ 2 = hd₀) (hb₀ : R ≤ 12 ∧ C ≤ 10) (hcs : ∀ i₀ : Nat, i₀ < n0₀ → gi Z₀ (gr Z₀ (t₀ + 3 + 1) i₀) 4 = cn i₀ ∧ gi Z₀ (gr Z₀ (t₀ + 3 + 1) i₀) 5 = sy i₀) (hnew : ∀ k₀, 120 ≤ k₀ → cn k₀ = 0 ∧ sy k₀ = 0) (hok : ∀ i₀ : Nat, i₀ < n0₀ → mh_ok Z₀ t₀ i₀) (hdj : mh_dj Z₀ t₀) (hJ : ∀ p₀ q₀, mh_rg R C p₀ q₀ → (∃ i₀ : Nat, i₀ < n0₀ ∧ mh_cv Z₀ t₀ i₀ p₀ q₀ ∧ J₀ p₀ q₀ = i₀) ∨ ((∀ i₀ : Nat, i₀ < n0₀ → ¬ mh_cv Z₀ t₀ i₀ p₀ q₀) ∧ 120 ≤ J₀ p₀ q₀)) (hf : ∀ p₀ q₀ p' q', mh_rg R C p₀ q₀ → mh_rg R C p' q' → 120 ≤ J₀ p₀ q₀ → J₀ p₀ q₀ = J₀ p' q' → p₀ = p' ∧ q₀ = q') (hw : ∀ k₀, 0 ≤ k₀ → k₀ < C → gi Z₀ (t₀ + 2) k₀.toNat = wd k₀) (hh : ∀ k₀, 0 ≤ k₀ → k₀ < R → gi Z₀ (t₀ + 1) k₀.toNat = ht k₀) : mg_Mt D l 46 [.inr (.inl t₀)] Z₀ (fun v₀ N => v₀ = none ∧ mh_nv M N t₀ R C hd₀ J₀ cn sy wd ht) mg_no := by
  have hn0 : n0₀ ≤ 120 := by have := clZ.2.2.2.2.2.2.1; omega
  refine mg_MtN (cX4_settle hl tb₀ clZ hn (fun i₀ hi => hok i₀ (by omega)) hdj) ?_
  rintro v₀ N ⟨q₀, s₀, tl, nb⟩
  have s2₀ := s₀
  obtain ⟨⟨g1, g2, g3₀, g4, g5₀, g6⟩, g7, g8, g9⟩ := s₀
  have fr₀ : ∀ a₀ k₀, a₀ ≠ t₀ + 126 → (a₀ < t₀ + 6 ∨ t₀ + 126 ≤ a₀) → ¬ (a₀ = t₀ + 3 ∧ k₀ = 0) → gi N a₀ k₀ = gi Z₀ a₀ k₀ := by
    intro a₀ k₀ h1 h2 h3
    refine g7 a₀ k₀ h1 h3 (fun i₀ hi hi2 z₀ => ?_)
    have := clZ.2.2.2.2.2.2.2.1 i₀ hi2
    omega
  have r0 : gi N t₀ 0 = R := (fr₀ t₀ 0 (by omega) (by omega) (by omega)).trans hR.1
  have r1₀ : gi N t₀ 1 = C := (fr₀ t₀ 1 (by omega) (by omega) (by omega)).trans hR.2.1
  have r2 : gi N t₀ 2 = hd₀ := (fr₀ t₀ 2 (by omega) (by omega) (by omega)).trans hR.2.2
  have nbN : mh_nb N t₀ := fun p₀ q₀ h1 h2 h3 h4 => nb p₀ q₀ h1 (by omega) h3 (by omega)
  obtain ⟨p1₀, p2₀, p3₀⟩ := mh_sx_part (J₀ := J₀) clZ s2₀ tl nbN hn0 (by rw [r0, r1₀]; exact hJ) (by rw [r0, r1₀]; exact hf)
  rw [r0, r1₀] at p1₀ p2₀ p3₀
  refine ⟨q₀, mh_fw_tr f₀ (mh_fw_of (mh_sx_f clZ s2₀) (fun _ _ z₀ => z₀)), ⟨tl, nbN⟩, ⟨r0, r1₀, r2⟩, p1₀, fun p₀ q' h₀ => ?_, fun k₀ k0₀ k1₀ => ?_, fun k₀ k0₀ k1₀ => ?_⟩
  · by_cases c₀ : J₀ p₀ q' < 120
    · rw [p2₀ p₀ q' h₀ c₀, p2₀ p₀ q' h₀ c₀]
      rcases hJ p₀ q' h₀ with ⟨i₀, hi, _, e₀⟩ | ⟨_, e₀⟩
      · rw [e₀, Int.toNat_natCast]
        exact hcs i₀ hi
      · omega
    · obtain ⟨_, _, _, _, w4₀, w5⟩ := p3₀ p₀ q' h₀ (by omega)
      have z₀ := hnew (J₀ p₀ q') (by omega)
      rw [z₀.1, z₀.2]
      exact ⟨w4₀, w5⟩
  · rw [fr₀ (t₀ + 2) _ (by omega) (by omega) (by omega)]; exact hw k₀ k0₀ k1₀
  · rw [fr₀ (t₀ + 1) _ (by omega) (by omega) (by omega)]; exact hh k₀ k0₀ k1₀
