/-! the class's questions as₀ truths -/
theorem mh_or_pr {g₀ : Nat → Int} (n₀ : Nat) (h₀ : ∀ i₀, i₀ < n₀ → g₀ i₀ = 0 ∨ g₀ i₀ = 1) : mh_or g₀ n₀ = mh_pr (∃ i₀ : Nat, i₀ < n₀ ∧ g₀ i₀ = 1) := by
  induction n₀ with
  | zero => exact (mh_pr0 (fun ⟨i₀, hi, _⟩ => absurd hi (Nat.not_lt_zero i₀))).symm
  | succ n₀ ih₀ =>
    have e₀ : mh_or g₀ (n₀ + 1) = if mh_or g₀ n₀ = 0 then g₀ n₀ else 1 := rfl
    rw [e₀, ih₀ (fun i₀ hi => h₀ i₀ (by omega))]
    by_cases c₀ : ∃ i₀ : Nat, i₀ < n₀ ∧ g₀ i₀ = 1
    · rw [mh_pr1 c₀, if_neg (by omega)]
      obtain ⟨i₀, hi, x₀⟩ := c₀
      exact (mh_pr1 ⟨i₀, by omega, x₀⟩).symm
    · rw [mh_pr0 c₀, if_pos rfl]
      rcases h₀ n₀ (by omega) with x₀ | x₀
      · rw [x₀]
        refine (mh_pr0 ?_).symm
        rintro ⟨i₀, hi, y₀⟩
        by_cases w₀ : i₀ = n₀
        · rw [w₀] at y₀; omega
        · exact c₀ ⟨i₀, by omega, y₀⟩
      · rw [x₀]
        exact (mh_pr1 ⟨n₀, by omega, x₀⟩).symm
theorem mh_biF {p₀ : Bool} : mh_bi p₀ = 0 ↔ p₀ = false := by cases p₀ <;> simp [mh_bi]
theorem cX3_cutP {D : mg_D} {l : Launch} (hl : l.stackTraces = false) {M : mg_M} {c₀ b₀ : Nat} (h₀ : mg_cL M c₀) (hs : mg_cS M c₀) (hb₀ : kd M b₀ = 1) : mg_Mt D l 30 [.inr (.inl c₀), .inr (.inl b₀)] M (fun v₀ M' => v₀ = some (.inl (mh_pr (∃ i₀ : Nat, (i₀ : Int) < gi M c₀ 0 ∧ mh_me M (gr M (c₀ + 1) i₀) b₀ = true ∧ mh_in M (gr M (c₀ + 1) i₀) b₀ = false))) ∧ M' = M) mg_no := by
  have z₀ := h₀.2.2.2.2.2.2.1
  refine mg_MtN (cX3_isCut hl h₀ hs hb₀) ?_
  rintro v₀ N ⟨rfl, rfl⟩
  refine ⟨?_, rfl⟩
  rw [mh_or_pr _ (fun i₀ _ => by (repeat' split) <;> simp)]
  congr 2
  refine mh_prc ⟨?_, ?_⟩
  · rintro ⟨i₀, hi, x₀⟩
    refine ⟨i₀, by omega, ?_⟩
    simp only [mh_biF] at x₀
    by_cases c1₀ : mh_me N (gr N (c₀ + 1) i₀) b₀ = false
    · rw [if_pos c1₀] at x₀; omega
    · rw [if_neg c1₀] at x₀
      by_cases c2₀ : mh_in N (gr N (c₀ + 1) i₀) b₀ = false
      · exact ⟨by simpa using c1₀, c2₀⟩
      · rw [if_neg c2₀] at x₀; omega
  · rintro ⟨i₀, hi, x₀, y₀⟩
    refine ⟨i₀, by omega, ?_⟩
    simp only [mh_biF]
    rw [if_neg (by rw [x₀]; simp), if_pos y₀]
theorem cX3_acrP {D : mg_D} {l : Launch} (hl : l.stackTraces = false) {M : mg_M} {c₀ : Nat} {r₀ : Int} (h₀ : mg_cL M c₀) (hs : mg_cS M c₀) : mg_Mt D l 31 [.inr (.inl c₀), .inl r₀] M (fun v₀ M' => v₀ = some (.inl (mh_pr (∃ i₀ : Nat, (i₀ : Int) < gi M c₀ 0 ∧ gi M (gr M (c₀ + 1) i₀) 0 < r₀ ∧ r₀ ≤ gi M (gr M (c₀ + 1) i₀) 0 + gi M (gr M (c₀ + 1) i₀) 2 - 1))) ∧ M' = M) mg_no := by
  have z₀ := h₀.2.2.2.2.2.2.1
  refine mg_MtN (cX3_isAcross hl h₀ hs) ?_
  rintro v₀ N ⟨rfl, rfl⟩
  refine ⟨?_, rfl⟩
  rw [mh_or_pr _ (fun i₀ _ => by (repeat' split) <;> simp)]
  congr 2
  refine mh_prc ⟨?_, ?_⟩
  · rintro ⟨i₀, hi, x₀⟩
    refine ⟨i₀, by omega, ?_⟩
    simp only [mh_biF] at x₀
    by_cases c1₀ : mh_ac N (gr N (c₀ + 1) i₀) r₀ = false
    · rw [if_pos c1₀] at x₀; omega
    · have c2₀ : mh_ac N (gr N (c₀ + 1) i₀) r₀ = true := by simpa using c1₀
      unfold mh_ac at c2₀
      exact of_decide_eq_true c2₀
  · rintro ⟨i₀, hi, x₀⟩
    refine ⟨i₀, by omega, ?_⟩
    simp only [mh_biF]
    have c2₀ : mh_ac N (gr N (c₀ + 1) i₀) r₀ = true := by unfold mh_ac; exact decide_eq_true x₀
    rw [if_neg (by rw [c2₀]; simp)]
theorem cX3_tallP {D : mg_D} {l : Launch} (hl : l.stackTraces = false) {M : mg_M} {c₀ : Nat} {r₀ s₀ : Int} (h₀ : mg_cL M c₀) (hs : mg_cS M c₀) : mg_Mt D l 32 [.inr (.inl c₀), .inl r₀, .inl s₀] M (fun v₀ M' => v₀ = some (.inl (mh_pr (∃ i₀ : Nat, (i₀ : Int) < gi M c₀ 0 ∧ 1 < gi M (gr M (c₀ + 1) i₀) 2 ∧ gi M (gr M (c₀ + 1) i₀) 0 ≤ s₀ ∧ r₀ ≤ gi M (gr M (c₀ + 1) i₀) 0 + gi M (gr M (c₀ + 1) i₀) 2 - 1))) ∧ M' = M) mg_no := by
  have z₀ := h₀.2.2.2.2.2.2.1
  refine mg_MtN (cX3_hasTall hl h₀ hs) ?_
  rintro v₀ N ⟨rfl, rfl⟩
  refine ⟨?_, rfl⟩
  rw [mh_or_pr _ (fun i₀ _ => by (repeat' split) <;> simp)]
  congr 2
  refine mh_prc ⟨?_, ?_⟩
  · rintro ⟨i₀, hi, x₀⟩
    refine ⟨i₀, by omega, ?_⟩
    (repeat' split at x₀) <;> omega
  · rintro ⟨i₀, hi, x₀⟩
    refine ⟨i₀, by omega, ?_⟩
    rw [if_neg (by omega), if_neg (by omega), if_neg (by omega)]
set_option maxRecDepth 100000 in
theorem cX1_isAcross {D : mg_D} {l : Launch} (hl : l.stackTraces = false) {M : mg_M} {k₀ : Nat} {bd r₀ x₀ U₀ : Int} (hk : kd M k₀ = 2 ∧ gr M k₀ 2 = k₀ + 1) (h₀ : mg_cL M (k₀ + 1)) (hs : mg_cS M (k₀ + 1)) (hU : gi M k₀ 0 = U₀ ∧ 0 ≤ U₀ ∧ U₀ ≤ 12) (hx : 1 ≤ x₀ ∧ x₀ ≤ 4) (hb₀ : (0 ≤ bd ∧ bd ≤ 12) ∧ (0 ≤ r₀ ∧ r₀ ≤ 12)) : mg_Mt D l 37 [.inr (.inl k₀), .inl bd, .inl r₀, .inl x₀] M (fun v₀ N => v₀ = some (.inl (mh_pr (∃ i₀ : Int, (0 ≤ i₀ ∧ i₀ < x₀) ∧ ∃ j₀ : Nat, (j₀ : Int) < gi M (k₀ + 1) 0 ∧ gi M (gr M (k₀ + 1 + 1) j₀) 0 < bd - r₀ - i₀ * U₀ ∧ bd - r₀ - i₀ * U₀ ≤ gi M (gr M (k₀ + 1 + 1) j₀) 0 + gi M (gr M (k₀ + 1 + 1) j₀) 2 - 1))) ∧ N = M) mg_no := by
  refine mg_of2 hl ok_X1_isAcross al_X1_isAcross rfl (fun K hK₀ => ?_)
  have k2₀ := hk.1
  have kg := hk.2
  have kgn : gr M k₀ 2 ≠ 0 := by omega
  have kc₀ : kd M (gr M k₀ 2) = 4 := by rw [kg]; exact h₀.1
  have e0₀ := hU.1
  have LP₀ : K 3 [(0, Sum.inr (Sum.inl k₀)), (1, Sum.inl bd), (2, Sum.inl r₀), (3, Sum.inl x₀), (4, Sum.inl 0)] [] M 0 := by
    refine mh_for (P := fun i₀ (_ : Unit) => ¬ ∃ i' : Int, (0 ≤ i' ∧ i' < i₀) ∧ ∃ j₀ : Nat, (j₀ : Int) < gi M (k₀ + 1) 0 ∧ gi M (gr M (k₀ + 1 + 1) j₀) 0 < bd - r₀ - i' * U₀ ∧ bd - r₀ - i' * U₀ ≤ gi M (gr M (k₀ + 1 + 1) j₀) 0 + gi M (gr M (k₀ + 1 + 1) j₀) 2 - 1) (G := fun i₀ _ => K 3 [(0, Sum.inr (Sum.inl k₀)), (1, Sum.inl bd), (2, Sum.inl r₀), (3, Sum.inl x₀), (4, Sum.inl i₀)] [] M 0) (lo := 0) (hi := x₀) (by omega) ?_ ?_ () (fun ⟨i₀, hi, _⟩ => by omega)
    · intro _ no₀
      have Q₀ : some (Sum.inl 0 : mg_V) = some (.inl (mh_pr (∃ i₀ : Int, (0 ≤ i₀ ∧ i₀ < x₀) ∧ ∃ j₀ : Nat, (j₀ : Int) < gi M (k₀ + 1) 0 ∧ gi M (gr M (k₀ + 1 + 1) j₀) 0 < bd - r₀ - i₀ * U₀ ∧ bd - r₀ - i₀ * U₀ ≤ gi M (gr M (k₀ + 1 + 1) j₀) 0 + gi M (gr M (k₀ + 1 + 1) j₀) 2 - 1))) ∧ M = M := ⟨by rw [mh_pr0 no₀], rfl⟩
      clear no₀ h₀ hs
      refine hK₀ _ _ _ _ _ ?_
      (repeat' (((conv => whnf); first | (show (_ : Option mg_V) = _ ∧ _; assumption) | (show K _ _ _ _ _; assumption) | (show mm_th _ _ _ _; assumption) | refine And.intro (by first | assumption | omega | (simp only [true_and, kd_si, gr_si]; first | done | assumption | omega)) ?_ | (refine And.intro (fun _ => ?_) (fun _ => ?_) <;> first | (exfalso; omega) | skip) | intro _ | fail)))
    · intro i₀ _ i0₀ i1₀ no₀ nex
      have pb : 0 ≤ i₀ * U₀ ∧ i₀ * U₀ ≤ 48 := by
        have h1 := Int.mul_nonneg i0₀ hU.2.1
        have h2 : i₀ * U₀ ≤ 4 * 12 := Int.mul_le_mul (by omega) hU.2.2 hU.2.1 (by omega)
        omega
      have pm : i₀ * gi M k₀ 0 = i₀ * U₀ := by rw [e0₀]
      have ac := @cX3_acrP D l hl M (k₀ + 1) (bd - r₀ - i₀ * U₀) h₀ hs
      by_cases c₀ : ∃ j₀ : Nat, (j₀ : Int) < gi M (k₀ + 1) 0 ∧ gi M (gr M (k₀ + 1 + 1) j₀) 0 < bd - r₀ - i₀ * U₀ ∧ bd - r₀ - i₀ * U₀ ≤ gi M (gr M (k₀ + 1 + 1) j₀) 0 + gi M (gr M (k₀ + 1 + 1) j₀) 2 - 1
      · rw [mh_pr1 c₀] at ac
        have Q₀ : some (Sum.inl 1 : mg_V) = some (.inl (mh_pr (∃ i₀ : Int, (0 ≤ i₀ ∧ i₀ < x₀) ∧ ∃ j₀ : Nat, (j₀ : Int) < gi M (k₀ + 1) 0 ∧ gi M (gr M (k₀ + 1 + 1) j₀) 0 < bd - r₀ - i₀ * U₀ ∧ bd - r₀ - i₀ * U₀ ≤ gi M (gr M (k₀ + 1 + 1) j₀) 0 + gi M (gr M (k₀ + 1 + 1) j₀) 2 - 1))) ∧ M = M := ⟨by rw [mh_pr1 ⟨i₀, ⟨i0₀, i1₀⟩, c₀⟩], rfl⟩
        clear no₀ nex h₀ hs c₀
        refine hK₀ _ _ _ _ _ ?_
        (repeat' (((conv => whnf); first | (show (_ : Option mg_V) = _ ∧ _; assumption) | (show K _ _ _ _ _; assumption) | (show mm_th _ _ _ _; assumption) | refine And.intro (by first | assumption | omega | (simp only [true_and, kd_si, gr_si]; first | done | assumption | omega)) ?_ | (refine And.intro (fun _ => ?_) (fun _ => ?_) <;> first | (exfalso; omega) | skip) | intro _ | fail)))
        all_goals ((conv => whnf); try rw [kg, pm])
        (refine Exists.intro _ (Exists.intro _ (And.intro (ac) (And.intro ?_ (fun _ _ h₀ => h₀.elim)))); rintro _ _ ⟨rfl, e₀⟩; have e2₀ := e₀.symm; clear e₀; subst e2₀)
        (repeat' (((conv => whnf); first | (show (_ : Option mg_V) = _ ∧ _; assumption) | (show K _ _ _ _ _; assumption) | (show mm_th _ _ _ _; assumption) | refine And.intro (by first | assumption | omega | (simp only [true_and, kd_si, gr_si]; first | done | assumption | omega)) ?_ | (refine And.intro (fun _ => ?_) (fun _ => ?_) <;> first | (exfalso; omega) | skip) | intro _ | fail)))
      · rw [mh_pr0 c₀] at ac
        have G9 := nex () (fun ⟨i', hi', w₀⟩ => by
          by_cases y₀ : i' = i₀
          · rw [y₀] at w₀; exact c₀ w₀
          · exact no₀ ⟨i', by omega, w₀⟩)
        clear no₀ nex h₀ hs c₀
        refine hK₀ _ _ _ _ _ ?_
        (repeat' (((conv => whnf); first | (show (_ : Option mg_V) = _ ∧ _; assumption) | (show K _ _ _ _ _; assumption) | (show mm_th _ _ _ _; assumption) | refine And.intro (by first | assumption | omega | (simp only [true_and, kd_si, gr_si]; first | done | assumption | omega)) ?_ | (refine And.intro (fun _ => ?_) (fun _ => ?_) <;> first | (exfalso; omega) | skip) | intro _ | fail)))
        all_goals ((conv => whnf); try rw [kg, pm])
        (refine Exists.intro _ (Exists.intro _ (And.intro (ac) (And.intro ?_ (fun _ _ h₀ => h₀.elim)))); rintro _ _ ⟨rfl, e₀⟩; have e2₀ := e₀.symm; clear e₀; subst e2₀)
        (repeat' (((conv => whnf); first | (show (_ : Option mg_V) = _ ∧ _; assumption) | (show K _ _ _ _ _; assumption) | (show mm_th _ _ _ _; assumption) | refine And.intro (by first | assumption | omega | (simp only [true_and, kd_si, gr_si]; first | done | assumption | omega)) ?_ | (refine And.intro (fun _ => ?_) (fun _ => ?_) <;> first | (exfalso; omega) | skip) | intro _ | fail)))
  clear h₀ hs
  refine hK₀ _ _ _ _ _ ?_
  (repeat' (((conv => whnf); first | (show (_ : Option mg_V) = _ ∧ _; assumption) | (show K _ _ _ _ _; assumption) | (show mm_th _ _ _ _; assumption) | refine And.intro (by first | assumption | omega | (simp only [true_and, kd_si, gr_si]; first | done | assumption | omega)) ?_ | (refine And.intro (fun _ => ?_) (fun _ => ?_) <;> first | (exfalso; omega) | skip) | intro _ | fail)))
