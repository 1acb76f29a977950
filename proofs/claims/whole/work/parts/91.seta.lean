/-- settle₀, told₀ by the numbers₀ of an older list, where the list that settle₀ finds₀ was permuted since₀ -/
theorem cX4_settleA {D : mg_D} {l : Launch} (hl : l.stackTraces = false) {M Z₀ : mg_M} {t₀ n0₀ : Nat} {R C hd₀ : Int} {J₀ : Int → Int → Int} {cn sy wd ht : Int → Int} (f₀ : mh_fw M Z₀ t₀) (tb₀ : mg_tb Z₀ t₀) (clM : mg_cL M (t₀ + 3)) (clZ : mg_cL Z₀ (t₀ + 3)) (hn : gi Z₀ (t₀ + 3) 0 = n0₀) (hR : gi Z₀ t₀ 0 = R ∧ gi Z₀ t₀ 1 = C ∧ gi Z₀ t₀ 2 = hd₀) (hb₀ : R ≤ 12 ∧ C ≤ 10) (hcs : ∀ j₀ : Nat, j₀ < 120 → gi Z₀ (gr M (t₀ + 3 + 1) j₀) 4 = cn j₀ ∧ gi Z₀ (gr M (t₀ + 3 + 1) j₀) 5 = sy j₀) (hnew : ∀ k₀, 120 ≤ k₀ → cn k₀ = 0 ∧ sy k₀ = 0) (hok : ∀ i₀ : Nat, i₀ < n0₀ → mh_ok Z₀ t₀ i₀) (hdj : mh_dj Z₀ t₀) (hJ : ∀ p₀ q₀, mh_rg R C p₀ q₀ → (∃ i₀ j₀ : Nat, i₀ < n0₀ ∧ j₀ < 120 ∧ mh_cv Z₀ t₀ i₀ p₀ q₀ ∧ gr Z₀ (t₀ + 3 + 1) i₀ = gr M (t₀ + 3 + 1) j₀ ∧ J₀ p₀ q₀ = j₀) ∨ ((∀ i₀ : Nat, i₀ < n0₀ → ¬ mh_cv Z₀ t₀ i₀ p₀ q₀) ∧ 120 ≤ J₀ p₀ q₀)) (hf : ∀ p₀ q₀ p' q', mh_rg R C p₀ q₀ → mh_rg R C p' q' → 120 ≤ J₀ p₀ q₀ → J₀ p₀ q₀ = J₀ p' q' → p₀ = p' ∧ q₀ = q') (hw : ∀ k₀, 0 ≤ k₀ → k₀ < C → gi Z₀ (t₀ + 2) k₀.toNat = wd k₀) (hh : ∀ k₀, 0 ≤ k₀ → k₀ < R → gi Z₀ (t₀ + 1) k₀.toNat = ht k₀) : mg_Mt D l 46 [.inr (.inl t₀)] Z₀ (fun v₀ N => v₀ = none ∧ mh_nv M N t₀ R C hd₀ J₀ cn sy wd ht) mg_no := by
  have hn0 : n0₀ ≤ 120 := by have := clZ.2.2.2.2.2.2.1; omega
  have inZ := clZ.2.2.2.2.2.2.2.2
  have inM := clM.2.2.2.2.2.2.2.2
  have ex₀ : ∀ k₀ : Int, ∃ i₀ : Int, ∀ i' : Nat, i' < n0₀ → gr Z₀ (t₀ + 3 + 1) i' = gr M (t₀ + 3 + 1) k₀.toNat → i₀ = i' := by
    intro k₀
    by_cases c₀ : ∃ i' : Nat, i' < n0₀ ∧ gr Z₀ (t₀ + 3 + 1) i' = gr M (t₀ + 3 + 1) k₀.toNat
    · obtain ⟨i', h1, h2⟩ := c₀
      refine ⟨i', fun j₀ hj e₀ => ?_⟩
      have := inZ i' j₀ (by omega) (by omega) (h2.trans e₀.symm)
      omega
    · exact ⟨0, fun i' h1 h2 => absurd ⟨i', h1, h2⟩ c₀⟩
  obtain ⟨g₀, hg⟩ : ∃ g₀ : Int → Int, ∀ k₀, ∀ i' : Nat, i' < n0₀ → gr Z₀ (t₀ + 3 + 1) i' = gr M (t₀ + 3 + 1) k₀.toNat → g₀ k₀ = i' := ⟨fun k₀ => Classical.choose (ex₀ k₀), fun k₀ => Classical.choose_spec (ex₀ k₀)⟩
  -- the same₀, in the numbers₀ of the list that settle₀ finds₀
  have A₀ : ∀ p₀ q₀, mh_rg R C p₀ q₀ → (∃ i₀ j₀ : Nat, i₀ < n0₀ ∧ j₀ < 120 ∧ mh_cv Z₀ t₀ i₀ p₀ q₀ ∧ gr Z₀ (t₀ + 3 + 1) i₀ = gr M (t₀ + 3 + 1) j₀ ∧ J₀ p₀ q₀ = j₀ ∧ (if J₀ p₀ q₀ < 120 then g₀ (J₀ p₀ q₀) else J₀ p₀ q₀) = i₀) ∨ ((∀ i₀ : Nat, i₀ < n0₀ → ¬ mh_cv Z₀ t₀ i₀ p₀ q₀) ∧ 120 ≤ J₀ p₀ q₀ ∧ (if J₀ p₀ q₀ < 120 then g₀ (J₀ p₀ q₀) else J₀ p₀ q₀) = J₀ p₀ q₀) := by
    intro p₀ q₀ h₀
    rcases hJ p₀ q₀ h₀ with ⟨i₀, j₀, a₀, b₀, c₀, d₀, e₀⟩ | ⟨a₀, b₀⟩
    · refine Or.inl ⟨i₀, j₀, a₀, b₀, c₀, d₀, e₀, ?_⟩
      rw [if_pos (by omega), e₀]
      exact hg j₀ i₀ a₀ (by rw [Int.toNat_natCast]; exact d₀)
    · exact Or.inr ⟨a₀, b₀, if_neg (by omega)⟩
  refine mg_MtN (cX4_settleG (J₀ := fun p₀ q₀ => if J₀ p₀ q₀ < 120 then g₀ (J₀ p₀ q₀) else J₀ p₀ q₀) (cn := fun k₀ => if k₀ < 120 then gi Z₀ (gr Z₀ (t₀ + 3 + 1) k₀.toNat) 4 else 0) (sy := fun k₀ => if k₀ < 120 then gi Z₀ (gr Z₀ (t₀ + 3 + 1) k₀.toNat) 5 else 0) hl f₀ tb₀ clZ hn hR hb₀ (fun i₀ hi => ?_) (fun k₀ hk => ?_) hok hdj (fun p₀ q₀ h₀ => ?_) (fun p₀ q₀ p' q' h₀ h' hge e₀ => ?_) hw hh) ?_
  · show gi Z₀ (gr Z₀ (t₀ + 3 + 1) i₀) 4 = (if (i₀ : Int) < 120 then gi Z₀ (gr Z₀ (t₀ + 3 + 1) (i₀ : Int).toNat) 4 else 0) ∧ gi Z₀ (gr Z₀ (t₀ + 3 + 1) i₀) 5 = (if (i₀ : Int) < 120 then gi Z₀ (gr Z₀ (t₀ + 3 + 1) (i₀ : Int).toNat) 5 else 0)
    rw [if_pos (by omega), if_pos (by omega), Int.toNat_natCast]
    exact ⟨rfl, rfl⟩
  · show (if k₀ < 120 then _ else (0 : Int)) = 0 ∧ (if k₀ < 120 then _ else (0 : Int)) = 0
    rw [if_neg (by omega), if_neg (by omega)]
    exact ⟨rfl, rfl⟩
  · rcases A₀ p₀ q₀ h₀ with ⟨i₀, j₀, a₀, b₀, c₀, d₀, e₀, e2₀⟩ | ⟨a₀, b₀, e2₀⟩
    · exact Or.inl ⟨i₀, a₀, c₀, e2₀⟩
    · exact Or.inr ⟨a₀, by show 120 ≤ (if J₀ p₀ q₀ < 120 then g₀ (J₀ p₀ q₀) else J₀ p₀ q₀); omega⟩
  · have hge' : 120 ≤ (if J₀ p₀ q₀ < 120 then g₀ (J₀ p₀ q₀) else J₀ p₀ q₀) := hge
    have e' : (if J₀ p₀ q₀ < 120 then g₀ (J₀ p₀ q₀) else J₀ p₀ q₀) = (if J₀ p' q' < 120 then g₀ (J₀ p' q') else J₀ p' q') := e₀
    rcases A₀ p₀ q₀ h₀ with ⟨i₀, j₀, a₀, b₀, c₀, d₀, e3₀, e2₀⟩ | ⟨a₀, b₀, e2₀⟩
    · omega
    · rcases A₀ p' q' h' with ⟨i₀, j₀, a', b', c', d', e3', e2'⟩ | ⟨a', b', e2'⟩
      · omega
      · exact hf p₀ q₀ p' q' h₀ h' b₀ (by omega)
  · rintro v₀ N ⟨rfl, w1₀, w2₀, w3₀, w4₀, w5, w6₀, w7₀⟩
    refine ⟨rfl, w1₀, w2₀, w3₀, fun p₀ q₀ p' q' h₀ h' => ?_, fun p₀ q₀ h₀ => ?_, w6₀, w7₀⟩
    · rw [w4₀ p₀ q₀ p' q' h₀ h']
      show (if J₀ p₀ q₀ < 120 then g₀ (J₀ p₀ q₀) else J₀ p₀ q₀) = (if J₀ p' q' < 120 then g₀ (J₀ p' q') else J₀ p' q') ↔ _
      rcases A₀ p₀ q₀ h₀ with ⟨i₀, j₀, a₀, b₀, c₀, d₀, e3₀, e2₀⟩ | ⟨a₀, b₀, e2₀⟩
      · rcases A₀ p' q' h' with ⟨i', j', a', b', c', d', e3', e2'⟩ | ⟨a', b', e2'⟩
        · rw [e2₀, e2']
          constructor
          · intro k₀
            have k2₀ : i₀ = i' := by omega
            have := inM j₀ j' b₀ b' (d₀.symm.trans ((by rw [k2₀]) : gr Z₀ (t₀ + 3 + 1) i₀ = gr Z₀ (t₀ + 3 + 1) i') |>.trans d')
            omega
          · intro k₀
            have k2₀ : j₀ = j' := by omega
            have k3₀ : gr Z₀ (t₀ + 3 + 1) i₀ = gr Z₀ (t₀ + 3 + 1) i' := by rw [d₀, d', k2₀]
            have := inZ i₀ i' (by omega) (by omega) k3₀
            omega
        · constructor <;> (intro k₀; omega)
      · rcases A₀ p' q' h' with ⟨i', j', a', b', c', d', e3', e2'⟩ | ⟨a', b', e2'⟩
        · constructor <;> (intro k₀; omega)
        · rw [e2₀, e2']
    · have u₀ := w5 p₀ q₀ h₀
      have u1₀ : gi N (mh_co N t₀ p₀ q₀) 4 = (if (if J₀ p₀ q₀ < 120 then g₀ (J₀ p₀ q₀) else J₀ p₀ q₀) < 120 then gi Z₀ (gr Z₀ (t₀ + 3 + 1) (if J₀ p₀ q₀ < 120 then g₀ (J₀ p₀ q₀) else J₀ p₀ q₀).toNat) 4 else 0) := u₀.1
      have u2₀ : gi N (mh_co N t₀ p₀ q₀) 5 = (if (if J₀ p₀ q₀ < 120 then g₀ (J₀ p₀ q₀) else J₀ p₀ q₀) < 120 then gi Z₀ (gr Z₀ (t₀ + 3 + 1) (if J₀ p₀ q₀ < 120 then g₀ (J₀ p₀ q₀) else J₀ p₀ q₀).toNat) 5 else 0) := u₀.2
      rw [u1₀, u2₀]
      rcases A₀ p₀ q₀ h₀ with ⟨i₀, j₀, a₀, b₀, c₀, d₀, e3₀, e2₀⟩ | ⟨a₀, b₀, e2₀⟩
      · rw [e2₀, if_pos (by omega), if_pos (by omega), Int.toNat_natCast, d₀, e3₀]
        exact hcs j₀ b₀
      · rw [e2₀, if_neg (by omega), if_neg (by omega)]
        have z₀ := hnew _ b₀
        exact ⟨z₀.1.symm, z₀.2.symm⟩
