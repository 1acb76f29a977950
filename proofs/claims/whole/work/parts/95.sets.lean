/-! settle₀, told₀ by what stands on each₀ square; lists₀ to which cells₀ are added₀ -/
def mh_np (M N : mg_M) (t₀ : Nat) (R C hd₀ : Int) (T L₀ H₀ W₀ cn sy : Int → Int → Int) (wd ht : Int → Int) : Prop := mh_fw M N t₀ ∧ (mh_tl N t₀ ∧ mh_nb N t₀) ∧ (gi N t₀ 0 = R ∧ gi N t₀ 1 = C ∧ gi N t₀ 2 = hd₀) ∧ (∀ p₀ q₀, mh_rg R C p₀ q₀ → (gi N (mh_co N t₀ p₀ q₀) 0 = T p₀ q₀ ∧ gi N (mh_co N t₀ p₀ q₀) 1 = L₀ p₀ q₀ ∧ gi N (mh_co N t₀ p₀ q₀) 2 = H₀ p₀ q₀ ∧ gi N (mh_co N t₀ p₀ q₀) 3 = W₀ p₀ q₀) ∧ gi N (mh_co N t₀ p₀ q₀) 4 = cn p₀ q₀ ∧ gi N (mh_co N t₀ p₀ q₀) 5 = sy p₀ q₀) ∧ (∀ k₀, 0 ≤ k₀ → k₀ < C → gi N (t₀ + 2) k₀.toNat = wd k₀) ∧ (∀ k₀, 0 ≤ k₀ → k₀ < R → gi N (t₀ + 1) k₀.toNat = ht k₀)
theorem mh_co_at {M : mg_M} {t₀ j₀ : Nat} {p₀ q₀ : Int} (h₀ : mh_rg (gi M t₀ 0) (gi M t₀ 1) p₀ q₀) (e₀ : mh_at M t₀ p₀ q₀ = j₀) : mh_co M t₀ p₀ q₀ = gr M (t₀ + 3 + 1) j₀ := by
  unfold mh_co mh_ow
  rw [if_pos (by omega)]
  show gr M (t₀ + 3 + 1) (mh_at M t₀ p₀ q₀).toNat = _
  rw [e₀, Int.toNat_natCast]
theorem cX4_settleS {D : mg_D} {l : Launch} (hl : l.stackTraces = false) {M Z₀ : mg_M} {t₀ n0₀ : Nat} {R C hd₀ : Int} {T L₀ H₀ W₀ cn sy : Int → Int → Int} {wd ht : Int → Int} (f₀ : mh_fw M Z₀ t₀) (tb₀ : mg_tb Z₀ t₀) (clZ : mg_cL Z₀ (t₀ + 3)) (hn : gi Z₀ (t₀ + 3) 0 = n0₀) (hR : gi Z₀ t₀ 0 = R ∧ gi Z₀ t₀ 1 = C ∧ gi Z₀ t₀ 2 = hd₀) (hok : ∀ i₀ : Nat, i₀ < n0₀ → mh_ok Z₀ t₀ i₀) (hdj : mh_dj Z₀ t₀) (hS₀ : ∀ p₀ q₀, mh_rg R C p₀ q₀ → (∃ i₀ : Nat, i₀ < n0₀ ∧ mh_cv Z₀ t₀ i₀ p₀ q₀ ∧ (gi Z₀ (gr Z₀ (t₀ + 3 + 1) i₀) 0 = T p₀ q₀ ∧ gi Z₀ (gr Z₀ (t₀ + 3 + 1) i₀) 1 = L₀ p₀ q₀ ∧ gi Z₀ (gr Z₀ (t₀ + 3 + 1) i₀) 2 = H₀ p₀ q₀ ∧ gi Z₀ (gr Z₀ (t₀ + 3 + 1) i₀) 3 = W₀ p₀ q₀) ∧ gi Z₀ (gr Z₀ (t₀ + 3 + 1) i₀) 4 = cn p₀ q₀ ∧ gi Z₀ (gr Z₀ (t₀ + 3 + 1) i₀) 5 = sy p₀ q₀) ∨ ((∀ i₀ : Nat, i₀ < n0₀ → ¬ mh_cv Z₀ t₀ i₀ p₀ q₀) ∧ (p₀ = T p₀ q₀ ∧ q₀ = L₀ p₀ q₀ ∧ 1 = H₀ p₀ q₀ ∧ 1 = W₀ p₀ q₀) ∧ 0 = cn p₀ q₀ ∧ 0 = sy p₀ q₀)) (hw : ∀ k₀, 0 ≤ k₀ → k₀ < C → gi Z₀ (t₀ + 2) k₀.toNat = wd k₀) (hh : ∀ k₀, 0 ≤ k₀ → k₀ < R → gi Z₀ (t₀ + 1) k₀.toNat = ht k₀) : mg_Mt D l 46 [.inr (.inl t₀)] Z₀ (fun v₀ N => v₀ = none ∧ mh_np M N t₀ R C hd₀ T L₀ H₀ W₀ cn sy wd ht) mg_no := by
  have hn0 : n0₀ ≤ 120 := by have := clZ.2.2.2.2.2.2.1; omega
  refine mg_MtN (cX4_settle hl tb₀ clZ hn (fun i₀ hi => hok i₀ (by omega)) hdj) ?_
  rintro v₀ N ⟨q₀, s₀, tl, nb⟩
  have s2₀ := s₀
  obtain ⟨⟨g1, g2, g3₀, g4, g5₀, g6⟩, g7, g8, g9⟩ := s₀
  have fr₀ : ∀ a₀ k₀, a₀ ≠ t₀ + 126 → (a₀ < t₀ + 6 ∨ t₀ + 126 ≤ a₀) → ¬ (a₀ = t₀ + 3 ∧ k₀ = 0) → gi N a₀ k₀ = gi Z₀ a₀ k₀ := by
    intro a₀ k₀ h1 h2 h3
    refine g7 a₀ k₀ h1 h3 (fun i₀ hi hi2 z₀ => ?_)
    have := clZ.2.2.2.2.2.2.2.1 i₀ hi2
    omega
  have r0 : gi N t₀ 0 = R := (fr₀ t₀ 0 (by omega) (by omega) (by omega)).trans hR.1
  have r1₀ : gi N t₀ 1 = C := (fr₀ t₀ 1 (by omega) (by omega) (by omega)).trans hR.2.1
  have r2 : gi N t₀ 2 = hd₀ := (fr₀ t₀ 2 (by omega) (by omega) (by omega)).trans hR.2.2
  have nbN : mh_nb N t₀ := fun p₀ q₀ h1 h2 h3 h4 => nb p₀ q₀ h1 (by omega) h3 (by omega)
  refine ⟨q₀, mh_fw_tr f₀ (mh_fw_of (mh_sx_f clZ s2₀) (fun _ _ z₀ => z₀)), ⟨tl, nbN⟩, ⟨r0, r1₀, r2⟩, fun p₀ q' h₀ => ?_, fun k₀ k0₀ k1₀ => ?_, fun k₀ k0₀ k1₀ => ?_⟩
  · have h' : mh_rg (gi N t₀ 0) (gi N t₀ 1) p₀ q' := by rw [r0, r1₀]; exact h₀
    rcases hS₀ p₀ q' h₀ with ⟨i₀, hi, hv, ⟨a0₀, a1₀, a2, a3⟩, a4, a5⟩ | ⟨no₀, ⟨b0, b1, b2, b3⟩, b4, b5⟩
    · obtain ⟨e1₀, e2₀⟩ := mh_sx_old clZ s2₀ tl hn0 hi hv
      rw [mh_co_at h' e1₀, g3₀]
      simp only [e2₀]
      exact ⟨⟨a0₀, a1₀, a2, a3⟩, a4, a5⟩
    · obtain ⟨j₀, _, _, e1₀, c0, c1₀, c2₀, c3₀, c4₀, c5₀⟩ := mh_sx_new clZ s2₀ tl nbN hn0 h'.1 h'.2 no₀
      rw [mh_co_at h' e1₀, g3₀]
      exact ⟨⟨c0.trans b0, c1₀.trans b1, c2₀.trans b2, c3₀.trans b3⟩, c4₀.trans b4, c5₀.trans b5⟩
  · rw [fr₀ (t₀ + 2) _ (by omega) (by omega) (by omega)]; exact hw k₀ k0₀ k1₀
  · rw [fr₀ (t₀ + 1) _ (by omega) (by omega) (by omega)]; exact hh k₀ k0₀ k1₀
theorem mh_room2 {Z₀ : mg_M} {t₀ n₀ : Nat} {r₀ s₀ : Int} (b₀ : gi Z₀ t₀ 0 ≤ 12 ∧ gi Z₀ t₀ 1 ≤ 10) (ok₀ : ∀ i₀ : Nat, i₀ < n₀ → mh_ok Z₀ t₀ i₀) (dj : ∀ i₀ j₀ : Nat, i₀ < n₀ → j₀ < n₀ → ∀ p₀ q₀, mh_cv Z₀ t₀ i₀ p₀ q₀ → mh_cv Z₀ t₀ j₀ p₀ q₀ → i₀ = j₀) (h1 : 0 ≤ r₀ ∧ r₀ < gi Z₀ t₀ 0) (h2 : 0 ≤ s₀ ∧ s₀ < gi Z₀ t₀ 1) (no₀ : ∀ i₀ : Nat, i₀ < n₀ → ¬ mh_cv Z₀ t₀ i₀ r₀ s₀) : n₀ < 120 := by
  have C : ∀ k₀ : Nat, k₀ < n₀ → (10 * gi Z₀ (gr Z₀ (t₀ + 3 + 1) k₀) 0 + gi Z₀ (gr Z₀ (t₀ + 3 + 1) k₀) 1).toNat = (10 * r₀ + s₀).toNat → False := by
    intro k₀ hk e₀
    have o := ok₀ k₀ hk
    have v₀ := mh_ok_cv o
    unfold mh_ok at o
    have a1₀ : gi Z₀ (gr Z₀ (t₀ + 3 + 1) k₀) 0 = r₀ := by omega
    have a2 : gi Z₀ (gr Z₀ (t₀ + 3 + 1) k₀) 1 = s₀ := by omega
    rw [a1₀, a2] at v₀
    exact no₀ k₀ hk v₀
  have p₀ := mh_pig 120 (n₀ + 1) (fun i₀ => if i₀ < n₀ then (10 * gi Z₀ (gr Z₀ (t₀ + 3 + 1) i₀) 0 + gi Z₀ (gr Z₀ (t₀ + 3 + 1) i₀) 1).toNat else (10 * r₀ + s₀).toNat) (fun i₀ hi => ?_) (fun i₀ j₀ hi hj e₀ => ?_)
  · omega
  · show (if i₀ < n₀ then (10 * gi Z₀ (gr Z₀ (t₀ + 3 + 1) i₀) 0 + gi Z₀ (gr Z₀ (t₀ + 3 + 1) i₀) 1).toNat else (10 * r₀ + s₀).toNat) < 120
    by_cases c₀ : i₀ < n₀
    · have o := ok₀ i₀ c₀
      unfold mh_ok at o
      rw [if_pos c₀]
      omega
    · rw [if_neg c₀]
      omega
  · have e' : (if i₀ < n₀ then (10 * gi Z₀ (gr Z₀ (t₀ + 3 + 1) i₀) 0 + gi Z₀ (gr Z₀ (t₀ + 3 + 1) i₀) 1).toNat else (10 * r₀ + s₀).toNat) = (if j₀ < n₀ then (10 * gi Z₀ (gr Z₀ (t₀ + 3 + 1) j₀) 0 + gi Z₀ (gr Z₀ (t₀ + 3 + 1) j₀) 1).toNat else (10 * r₀ + s₀).toNat) := e₀
    by_cases c₀ : i₀ < n₀
    · by_cases d₀ : j₀ < n₀
      · rw [if_pos c₀, if_pos d₀] at e'
        have o := ok₀ i₀ c₀
        have o' := ok₀ j₀ d₀
        have v₀ := mh_ok_cv o
        have v' := mh_ok_cv o'
        unfold mh_ok at o o'
        have a1₀ : gi Z₀ (gr Z₀ (t₀ + 3 + 1) i₀) 0 = gi Z₀ (gr Z₀ (t₀ + 3 + 1) j₀) 0 := by omega
        have a2 : gi Z₀ (gr Z₀ (t₀ + 3 + 1) i₀) 1 = gi Z₀ (gr Z₀ (t₀ + 3 + 1) j₀) 1 := by omega
        rw [a1₀, a2] at v₀
        exact dj i₀ j₀ c₀ d₀ _ _ v₀ v'
      · rw [if_pos c₀, if_neg d₀] at e'
        exact (C i₀ c₀ e').elim
    · by_cases d₀ : j₀ < n₀
      · rw [if_neg c₀, if_pos d₀] at e'
        exact (C j₀ d₀ e'.symm).elim
      · omega
/-- the list Z₀ of the table₀ t₀, behind₀ changes₀ that began at M: its cells₀ cover just the squares of A₀, as₀ T L₀ H₀ W₀ tell₀ -/
def mh_lz (M Z₀ : mg_M) (t₀ : Nat) (A₀ : Int → Int → Prop) (T L₀ H₀ W₀ cn sy : Int → Int → Int) : Prop := (mh_fw M Z₀ t₀ ∧ mg_cL Z₀ (t₀ + 3)) ∧ ((∀ k₀, gi Z₀ t₀ k₀ = gi M t₀ k₀) ∧ (∀ k₀, gi Z₀ (t₀ + 1) k₀ = gi M (t₀ + 1) k₀) ∧ ∀ k₀, gi Z₀ (t₀ + 2) k₀ = gi M (t₀ + 2) k₀) ∧ (∀ i₀ : Nat, (i₀ : Int) < gi Z₀ (t₀ + 3) 0 → mh_ok Z₀ t₀ i₀) ∧ mh_dj Z₀ t₀ ∧ (∀ i₀ : Nat, (i₀ : Int) < gi Z₀ (t₀ + 3) 0 → ∀ p₀ q₀, mh_cv Z₀ t₀ i₀ p₀ q₀ → A₀ p₀ q₀) ∧ ∀ p₀ q₀, mh_rg (gi M t₀ 0) (gi M t₀ 1) p₀ q₀ → A₀ p₀ q₀ → ∃ i₀ : Nat, (i₀ : Int) < gi Z₀ (t₀ + 3) 0 ∧ mh_cv Z₀ t₀ i₀ p₀ q₀ ∧ (gi Z₀ (gr Z₀ (t₀ + 3 + 1) i₀) 0 = T p₀ q₀ ∧ gi Z₀ (gr Z₀ (t₀ + 3 + 1) i₀) 1 = L₀ p₀ q₀ ∧ gi Z₀ (gr Z₀ (t₀ + 3 + 1) i₀) 2 = H₀ p₀ q₀ ∧ gi Z₀ (gr Z₀ (t₀ + 3 + 1) i₀) 3 = W₀ p₀ q₀) ∧ gi Z₀ (gr Z₀ (t₀ + 3 + 1) i₀) 4 = cn p₀ q₀ ∧ gi Z₀ (gr Z₀ (t₀ + 3 + 1) i₀) 5 = sy p₀ q₀
theorem mh_lz_tb {M Z₀ : mg_M} {t₀ : Nat} (tb₀ : mg_tb M t₀) (f₀ : mh_fw M Z₀ t₀) (e₀ : ∀ k₀, gi Z₀ t₀ k₀ = gi M t₀ k₀) : mg_tb Z₀ t₀ := by
  have k₀ := f₀.1
  have n₀ := f₀.2.1
  have r₀ : ∀ k₀, gr Z₀ t₀ k₀ = gr M t₀ k₀ := fun k₀ => (f₀.2.2.1 t₀ k₀).resolve_left (by omega)
  unfold mg_tb at *
  simp only [k₀, n₀, r₀, e₀]
  exact tb₀
theorem cX4_settleL {D : mg_D} {l : Launch} (hl : l.stackTraces = false) {M Z₀ : mg_M} {t₀ : Nat} {A₀ : Int → Int → Prop} {T L₀ H₀ W₀ cn sy : Int → Int → Int} (tb₀ : mg_tb M t₀) (lt₀ : mh_lz M Z₀ t₀ A₀ T L₀ H₀ W₀ cn sy) (hA : ∀ p₀ q₀, mh_rg (gi M t₀ 0) (gi M t₀ 1) p₀ q₀ → A₀ p₀ q₀) : mg_Mt D l 46 [.inr (.inl t₀)] Z₀ (fun v₀ N => v₀ = none ∧ mh_np M N t₀ (gi M t₀ 0) (gi M t₀ 1) (gi M t₀ 2) T L₀ H₀ W₀ cn sy (fun k₀ => gi M (t₀ + 2) k₀.toNat) (fun k₀ => gi M (t₀ + 1) k₀.toNat)) mg_no := by
  obtain ⟨⟨f₀, cl₀⟩, ⟨s0₀, s1₀, s2₀⟩, ok₀, dj, a1₀, a2⟩ := lt₀
  have z₀ := cl₀.2.2.2.2.2.2.1
  obtain ⟨n0₀, hn⟩ : ∃ n0₀ : Nat, gi Z₀ (t₀ + 3) 0 = n0₀ := ⟨(gi Z₀ (t₀ + 3) 0).toNat, by omega⟩
  refine cX4_settleS hl (n0₀ := n0₀) f₀ (mh_lz_tb tb₀ f₀ s0₀) cl₀ hn ⟨s0₀ 0, s0₀ 1, s0₀ 2⟩ (fun i₀ hi => ok₀ i₀ (by omega)) dj (fun p₀ q₀ h₀ => ?_) (fun k₀ _ _ => s2₀ _) (fun k₀ _ _ => s1₀ _)
  obtain ⟨i₀, hi, b₀⟩ := a2 p₀ q₀ h₀ (hA p₀ q₀ h₀)
  exact Or.inl ⟨i₀, by omega, b₀⟩
/-- one more₀ cell₀ -/
theorem mh_lz_add {M Z₀ Z' : mg_M} {t₀ : Nat} {A₀ A' : Int → Int → Prop} {T L₀ H₀ W₀ cn sy : Int → Int → Int} {r₀ s₀ u₀ v₀ c₀ y₀ : Int} (tb₀ : mg_tb M t₀) (h₀ : mh_lz M Z₀ t₀ A₀ T L₀ H₀ W₀ cn sy) (h1 : 0 ≤ r₀ ∧ 1 ≤ u₀ ∧ r₀ + u₀ ≤ gi M t₀ 0) (h2 : 0 ≤ s₀ ∧ 1 ≤ v₀ ∧ s₀ + v₀ ≤ gi M t₀ 1) (hA : ∀ p₀ q₀, (r₀ ≤ p₀ ∧ p₀ < r₀ + u₀) → (s₀ ≤ q₀ ∧ q₀ < s₀ + v₀) → ¬ A₀ p₀ q₀ ∧ (r₀ = T p₀ q₀ ∧ s₀ = L₀ p₀ q₀ ∧ u₀ = H₀ p₀ q₀ ∧ v₀ = W₀ p₀ q₀) ∧ c₀ = cn p₀ q₀ ∧ y₀ = sy p₀ q₀) (hA' : ∀ p₀ q₀, A' p₀ q₀ ↔ A₀ p₀ q₀ ∨ ((r₀ ≤ p₀ ∧ p₀ < r₀ + u₀) ∧ s₀ ≤ q₀ ∧ q₀ < s₀ + v₀)) (hZ : Z' = si (si (mh_ad Z₀ (t₀ + 3) r₀ s₀ u₀ v₀) (gr Z₀ (t₀ + 3 + 1) (gi Z₀ (t₀ + 3) 0).toNat) 4 c₀) (gr Z₀ (t₀ + 3 + 1) (gi Z₀ (t₀ + 3) 0).toNat) 5 y₀) : gi Z₀ (t₀ + 3) 0 < 120 ∧ mh_lz M Z' t₀ A' T L₀ H₀ W₀ cn sy := by
  obtain ⟨⟨f₀, cl₀⟩, ⟨s0₀, s1₀, s2₀⟩, ok₀, dj, a1₀, a2⟩ := h₀
  have z₀ := cl₀.2.2.2.2.2.2.1
  obtain ⟨n₀, hn⟩ : ∃ n₀ : Nat, gi Z₀ (t₀ + 3) 0 = n₀ := ⟨(gi Z₀ (t₀ + 3) 0).toNat, by omega⟩
  have tbZ := mh_lz_tb tb₀ f₀ s0₀
  have nA : ¬ A₀ r₀ s₀ := (hA r₀ s₀ (by omega) (by omega)).1
  have n120 : n₀ < 120 := mh_room2 (Z₀ := Z₀) (t₀ := t₀) (r₀ := r₀) (s₀ := s₀) (by have := tbZ.2.2; omega) (fun i₀ hi => ok₀ i₀ (by omega)) (fun i₀ j₀ hi hj => dj i₀ j₀ (by omega) (by omega)) (by rw [s0₀]; omega) (by rw [s0₀]; omega) (fun i₀ hi v₀ => nA (a1₀ i₀ (by omega) _ _ v₀))
  refine ⟨by omega, ?_⟩
  have ci := cl₀.2.2.2.2.2.2.2.2
  have ca := cl₀.2.2.2.2.2.2.2.1
  obtain ⟨a₀, ha₀⟩ : ∃ a₀, gr Z₀ (t₀ + 3 + 1) (gi Z₀ (t₀ + 3) 0).toNat = a₀ := ⟨_, rfl⟩
  have ha' : gr Z₀ (t₀ + 3 + 1) n₀ = a₀ := by rw [← ha₀, hn, Int.toNat_natCast]
  have ab : t₀ + 6 ≤ a₀ ∧ a₀ < t₀ + 126 := by have := ca n₀ n120; omega
  have ad := @mh_ad_at Z₀ (t₀ + 3) r₀ s₀ u₀ v₀
  have sz₀ := @mh_ad_sz Z₀ (t₀ + 3) r₀ s₀ u₀ v₀ cl₀ (by omega)
  have clY := @mh_ad_cL Z₀ (t₀ + 3) r₀ s₀ u₀ v₀ cl₀ (by omega)
  have ne₀ := fun b₀ k₀ => @mh_ad_ne Z₀ (t₀ + 3) b₀ k₀ r₀ s₀ u₀ v₀
  rw [ha₀] at ad hZ
  simp only [ha₀] at ne₀
  have kk : ∀ b₀, kd Z' b₀ = kd Z₀ b₀ := fun b₀ => by rw [hZ]; rfl
  have ll : ∀ b₀, ln Z' b₀ = ln Z₀ b₀ := fun b₀ => by rw [hZ]; rfl
  have rr : ∀ b₀ k₀, gr Z' b₀ k₀ = gr Z₀ b₀ k₀ := fun b₀ k₀ => by rw [hZ]; rfl
  have g1 : nx Z' = nx Z₀ := by rw [hZ]; rfl
  have g2 : ∀ b₀ k₀, gl Z' b₀ k₀ = gl Z₀ b₀ k₀ := fun b₀ k₀ => by rw [hZ]; rfl
  have g3₀ : ∀ b₀ k₀, gd Z' b₀ k₀ = gd Z₀ b₀ k₀ := fun b₀ k₀ => by rw [hZ]; rfl
  have e0₀ : gi Z' (t₀ + 3) 0 = gi Z₀ (t₀ + 3) 0 + 1 := by rw [hZ, gi_si, if_neg (by omega), gi_si, if_neg (by omega)]; exact sz₀
  have e1₀ : ∀ b₀ k₀, b₀ ≠ a₀ → ¬ (b₀ = t₀ + 3 ∧ k₀ = 0) → gi Z' b₀ k₀ = gi Z₀ b₀ k₀ := by
    intro b₀ k₀ x1₀ x2₀
    rw [hZ, gi_si, if_neg (fun w₀ => x1₀ w₀.1), gi_si, if_neg (fun w₀ => x1₀ w₀.1)]
    exact ne₀ b₀ k₀ x1₀ x2₀
  have e2₀ : gi Z' a₀ 0 = r₀ ∧ gi Z' a₀ 1 = s₀ ∧ gi Z' a₀ 2 = u₀ ∧ gi Z' a₀ 3 = v₀ ∧ gi Z' a₀ 4 = c₀ ∧ gi Z' a₀ 5 = y₀ := by
    refine ⟨?_, ?_, ?_, ?_, ?_, ?_⟩
    · rw [hZ, gi_si, if_neg (by omega), gi_si, if_neg (by omega)]; exact ad.1
    · rw [hZ, gi_si, if_neg (by omega), gi_si, if_neg (by omega)]; exact ad.2.1
    · rw [hZ, gi_si, if_neg (by omega), gi_si, if_neg (by omega)]; exact ad.2.2.1
    · rw [hZ, gi_si, if_neg (by omega), gi_si, if_neg (by omega)]; exact ad.2.2.2.1
    · rw [hZ, gi_si, if_neg (by omega), gi_si, if_pos ⟨rfl, rfl⟩]
    · rw [hZ, gi_si, if_pos ⟨rfl, rfl⟩]
  clear ad sz₀ ne₀ hZ clY
  have old₀ : ∀ i₀ : Nat, i₀ < n₀ → ∀ k₀, gi Z' (gr Z₀ (t₀ + 3 + 1) i₀) k₀ = gi Z₀ (gr Z₀ (t₀ + 3 + 1) i₀) k₀ := by
    intro i₀ hi k₀
    have w₀ := ca i₀ (by omega)
    refine e1₀ _ k₀ (fun x₀ => ?_) (by omega)
    have := ci i₀ n₀ (by omega) n120 (x₀.trans ha'.symm)
    omega
  have t0₀ : ∀ k₀, gi Z' t₀ k₀ = gi Z₀ t₀ k₀ := fun k₀ => e1₀ t₀ k₀ (by omega) (by omega)
  have cvo : ∀ i₀ : Nat, i₀ < n₀ → ∀ p₀ q₀, mh_cv Z' t₀ i₀ p₀ q₀ ↔ mh_cv Z₀ t₀ i₀ p₀ q₀ := by
    intro i₀ hi p₀ q₀
    unfold mh_cv
    rw [rr, old₀ i₀ hi, old₀ i₀ hi, old₀ i₀ hi, old₀ i₀ hi]
  have cvn : ∀ p₀ q₀, mh_cv Z' t₀ n₀ p₀ q₀ ↔ ((r₀ ≤ p₀ ∧ p₀ < r₀ + u₀) ∧ s₀ ≤ q₀ ∧ q₀ < s₀ + v₀) := by
    intro p₀ q₀
    unfold mh_cv
    rw [rr, ha', e2₀.1, e2₀.2.1, e2₀.2.2.1, e2₀.2.2.2.1]
    constructor <;> (intro w₀; omega)
  have clZ' : mg_cL Z' (t₀ + 3) := by
    unfold mg_cL at cl₀ ⊢
    simp only [kk, ll, rr]
    exact ⟨cl₀.1, cl₀.2.1, cl₀.2.2.1, cl₀.2.2.2.1, cl₀.2.2.2.2.1, cl₀.2.2.2.2.2.1, by omega, ca, ci⟩
  refine ⟨⟨mh_fw_tr f₀ ⟨kk, ll, fun b₀ k₀ => Or.inr (rr b₀ k₀), g1, g2, g3₀, fun b₀ k₀ => ?_⟩, clZ'⟩, ⟨fun k₀ => (t0₀ k₀).trans (s0₀ k₀), fun k₀ => (e1₀ _ k₀ (by omega) (by omega)).trans (s1₀ k₀), fun k₀ => (e1₀ _ k₀ (by omega) (by omega)).trans (s2₀ k₀)⟩, fun i₀ hi => ?_, fun i₀ j₀ hi hj p₀ q₀ h1 h2 => ?_, fun i₀ hi p₀ q₀ w₀ => ?_, fun p₀ q₀ hr hp => ?_⟩
  · by_cases x₀ : t₀ ≤ b₀ ∧ b₀ < t₀ + 129
    · exact Or.inl x₀
    · exact Or.inr (e1₀ b₀ k₀ (by omega) (by omega))
  · by_cases x₀ : i₀ < n₀
    · have o := ok₀ i₀ (by omega)
      unfold mh_ok at o ⊢
      rw [rr, old₀ i₀ x₀, old₀ i₀ x₀, old₀ i₀ x₀, old₀ i₀ x₀, t0₀, t0₀]
      exact o
    · have x2₀ : i₀ = n₀ := by omega
      unfold mh_ok
      rw [rr, x2₀, ha', e2₀.1, e2₀.2.1, e2₀.2.2.1, e2₀.2.2.2.1, t0₀, t0₀, s0₀, s0₀]
      exact ⟨h1, h2⟩
  · by_cases x₀ : i₀ < n₀
    · by_cases x' : j₀ < n₀
      · exact dj i₀ j₀ (by omega) (by omega) p₀ q₀ ((cvo i₀ x₀ p₀ q₀).1 h1) ((cvo j₀ x' p₀ q₀).1 h2)
      · have x2₀ : j₀ = n₀ := by omega
        rw [x2₀] at h2
        have w₀ := (cvn p₀ q₀).1 h2
        exact ((hA p₀ q₀ w₀.1 w₀.2).1 (a1₀ i₀ (by omega) p₀ q₀ ((cvo i₀ x₀ p₀ q₀).1 h1))).elim
    · have x2₀ : i₀ = n₀ := by omega
      by_cases x' : j₀ < n₀
      · rw [x2₀] at h1
        have w₀ := (cvn p₀ q₀).1 h1
        exact ((hA p₀ q₀ w₀.1 w₀.2).1 (a1₀ j₀ (by omega) p₀ q₀ ((cvo j₀ x' p₀ q₀).1 h2))).elim
      · omega
  · by_cases x₀ : i₀ < n₀
    · exact (hA' p₀ q₀).2 (Or.inl (a1₀ i₀ (by omega) p₀ q₀ ((cvo i₀ x₀ p₀ q₀).1 w₀)))
    · have x2₀ : i₀ = n₀ := by omega
      rw [x2₀] at w₀
      exact (hA' p₀ q₀).2 (Or.inr ((cvn p₀ q₀).1 w₀))
  · rcases (hA' p₀ q₀).1 hp with w₀ | w₀
    · obtain ⟨i₀, hi, b₀⟩ := a2 p₀ q₀ hr w₀
      refine ⟨i₀, by omega, (cvo i₀ (by omega) p₀ q₀).2 b₀.1, ?_⟩
      rw [rr, old₀ i₀ (by omega), old₀ i₀ (by omega), old₀ i₀ (by omega), old₀ i₀ (by omega), old₀ i₀ (by omega), old₀ i₀ (by omega)]
      exact b₀.2
    · refine ⟨n₀, by omega, (cvn p₀ q₀).2 w₀, ?_⟩
      rw [rr, ha', e2₀.1, e2₀.2.1, e2₀.2.2.1, e2₀.2.2.2.1, e2₀.2.2.2.2.1, e2₀.2.2.2.2.2]
      exact (hA p₀ q₀ w₀.1 w₀.2).2
/-- behind₀ removeIn: the squares outside₀ of the area, which cuts₀ no₀ cell₀ -/
theorem mh_lz_ri {M : mg_M} {t₀ b₀ : Nat} {T L₀ H₀ W₀ cn sy : Int → Int → Int} (tl : mh_tl M t₀) (nb : mh_nb M t₀) (hb₀ : b₀ ≠ t₀ + 3) (hcl : ∀ i₀ : Nat, (i₀ : Int) < gi M (t₀ + 3) 0 → ∀ p₀ q₀, mh_cv M t₀ i₀ p₀ q₀ → (gi M b₀ 0 ≤ p₀ ∧ p₀ ≤ gi M b₀ 2) ∧ (gi M b₀ 1 ≤ q₀ ∧ q₀ ≤ gi M b₀ 3) → mh_in M (gr M (t₀ + 3 + 1) i₀) b₀ = true) (hv : ∀ p₀ q₀, mh_rg (gi M t₀ 0) (gi M t₀ 1) p₀ q₀ → ¬ ((gi M b₀ 0 ≤ p₀ ∧ p₀ ≤ gi M b₀ 2) ∧ (gi M b₀ 1 ≤ q₀ ∧ q₀ ≤ gi M b₀ 3)) → (gi M (mh_co M t₀ p₀ q₀) 0 = T p₀ q₀ ∧ gi M (mh_co M t₀ p₀ q₀) 1 = L₀ p₀ q₀ ∧ gi M (mh_co M t₀ p₀ q₀) 2 = H₀ p₀ q₀ ∧ gi M (mh_co M t₀ p₀ q₀) 3 = W₀ p₀ q₀) ∧ gi M (mh_co M t₀ p₀ q₀) 4 = cn p₀ q₀ ∧ gi M (mh_co M t₀ p₀ q₀) 5 = sy p₀ q₀) : mh_lz M (mh_ri (t₀ + 3) b₀ (gi M (t₀ + 3) 0).toNat M) t₀ (fun p₀ q₀ => ¬ ((gi M b₀ 0 ≤ p₀ ∧ p₀ ≤ gi M b₀ 2) ∧ (gi M b₀ 1 ≤ q₀ ∧ q₀ ≤ gi M b₀ 3))) T L₀ H₀ W₀ cn sy := by
  have cl₀ := tl.2.1
  have ok₀ := tl.2.2.1
  have own₀ := tl.2.2.2.1
  have z₀ := cl₀.2.2.2.2.2.2.1
  obtain ⟨fX, clX, q1₀, q2₀⟩ := mh_ri_sp cl₀ hb₀
  generalize mh_ri (t₀ + 3) b₀ (gi M (t₀ + 3) 0).toNat M = X₀ at *
  have zX := clX.2.2.2.2.2.2.1
  have ciX := clX.2.2.2.2.2.2.2.2
  have ca : ∀ i₀ : Nat, i₀ < 120 → t₀ + 6 ≤ gr M (t₀ + 3 + 1) i₀ ∧ gr M (t₀ + 3 + 1) i₀ < t₀ + 126 := fun i₀ hi => by have := cl₀.2.2.2.2.2.2.2.1 i₀ hi; omega
  have gv : ∀ b₀ k₀, b₀ ≠ t₀ + 3 → gi X₀ b₀ k₀ = gi M b₀ k₀ := fun b₀ k₀ x₀ => fX.2.2.2.2.2.2 b₀ k₀ (fun w₀ => x₀ w₀.1)
  have cv : ∀ i₀ j₀ : Nat, j₀ < 120 → gr X₀ (t₀ + 3 + 1) i₀ = gr M (t₀ + 3 + 1) j₀ → ∀ p₀ q₀, mh_cv X₀ t₀ i₀ p₀ q₀ ↔ mh_cv M t₀ j₀ p₀ q₀ := by
    intro i₀ j₀ hj e₀ p₀ q₀
    have w₀ := ca j₀ hj
    have ga : ∀ k₀, gi X₀ (gr M (t₀ + 3 + 1) j₀) k₀ = gi M (gr M (t₀ + 3 + 1) j₀) k₀ := fun k₀ => gv _ k₀ (by omega)
    unfold mh_cv
    rw [e₀]
    simp only [ga]
  refine ⟨⟨⟨fX.1, fX.2.1, fun a₀ k₀ => ?_, fX.2.2.2.1, fX.2.2.2.2.1, fX.2.2.2.2.2.1, fun a₀ k₀ => ?_⟩, clX⟩, ⟨fun k₀ => gv _ k₀ (by omega), fun k₀ => gv _ k₀ (by omega), fun k₀ => gv _ k₀ (by omega)⟩, fun i₀ hi => ?_, fun i₀ j₀ hi hj p₀ q₀ h1 h2 => ?_, fun i₀ hi p₀ q₀ h1 h2 => ?_, fun p₀ q₀ hr hp => ?_⟩
  · by_cases x₀ : a₀ = t₀ + 3 + 1
    · exact Or.inl x₀
    · exact Or.inr (fX.2.2.1 a₀ k₀ x₀)
  · by_cases x₀ : a₀ = t₀ + 3 ∧ k₀ = 0
    · exact Or.inl (by omega)
    · exact Or.inr (fX.2.2.2.2.2.2 a₀ k₀ x₀)
  · obtain ⟨j₀, hj, e₀, _⟩ := q1₀ i₀ hi
    have o := ok₀ j₀ hj
    have w₀ := ca j₀ (by omega)
    unfold mh_ok at o ⊢
    have ga : ∀ k₀, gi X₀ (gr M (t₀ + 3 + 1) j₀) k₀ = gi M (gr M (t₀ + 3 + 1) j₀) k₀ := fun k₀ => gv _ k₀ (by omega)
    have gt : ∀ k₀, gi X₀ t₀ k₀ = gi M t₀ k₀ := fun k₀ => gv _ k₀ (by omega)
    rw [e₀]
    simp only [ga, gt]
    exact o
  · obtain ⟨i', hi', e₀, _⟩ := q1₀ i₀ hi
    obtain ⟨j', hj', e', _⟩ := q1₀ j₀ hj
    have w1₀ := own₀ i' hi' p₀ q₀ ((cv i₀ i' (by omega) e₀ p₀ q₀).1 h1)
    have w2₀ := own₀ j' hj' p₀ q₀ ((cv j₀ j' (by omega) e' p₀ q₀).1 h2)
    have x₀ : i' = j' := by omega
    rw [x₀, ← e'] at e₀
    exact ciX i₀ j₀ (by omega) (by omega) e₀
  · obtain ⟨j₀, hj, e₀, nin⟩ := q1₀ i₀ hi
    have w₀ := hcl j₀ hj p₀ q₀ ((cv i₀ j₀ (by omega) e₀ p₀ q₀).1 h1) h2
    rw [w₀] at nin
    exact Bool.noConfusion nin
  · obtain ⟨j₀, hj, w₀, eo⟩ := mh_tl_ow tl hr.1 hr.2 (nb p₀ q₀ hr.1.1 hr.1.2 hr.2.1 hr.2.2)
    have nin : mh_in M (gr M (t₀ + 3 + 1) j₀) b₀ = false := by
      unfold mh_in
      refine decide_eq_false (fun x₀ => hp ?_)
      unfold mh_cv at w₀
      omega
    obtain ⟨i₀, hi, e₀⟩ := q2₀ j₀ hj nin
    refine ⟨i₀, hi, (cv i₀ j₀ (by omega) e₀ p₀ q₀).2 w₀, ?_⟩
    have g₀ := hv p₀ q₀ hr hp
    have x₀ := ca j₀ (by omega)
    rw [mh_co_at hr (own₀ j₀ hj p₀ q₀ w₀)] at g₀
    have ga : ∀ k₀, gi X₀ (gr M (t₀ + 3 + 1) j₀) k₀ = gi M (gr M (t₀ + 3 + 1) j₀) k₀ := fun k₀ => gv _ k₀ (by omega)
    rw [e₀]
    simp only [ga]
    exact g₀
