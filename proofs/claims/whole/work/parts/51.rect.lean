/-! a₀ number's squares are a₀ rectangle -/
def mm_rect (M : mg_M) (m₀ : Nat) (k₀ T L₀ H₀ W₀ : Int) : Prop := (0 ≤ T ∧ 1 ≤ H₀ ∧ T + H₀ ≤ gi M m₀ 1) ∧ (0 ≤ L₀ ∧ 1 ≤ W₀ ∧ L₀ + W₀ ≤ gi M m₀ 2) ∧ ∀ r₀ c₀, 0 ≤ r₀ ∧ r₀ < gi M m₀ 1 → 0 ≤ c₀ ∧ c₀ < gi M m₀ 2 → (mi M (m₀ + 1) r₀ c₀ = k₀ ↔ (T ≤ r₀ ∧ r₀ < T + H₀) ∧ (L₀ ≤ c₀ ∧ c₀ < L₀ + W₀))
abbrev mh_mt (f₀ t₀ a₀ b₀ T L₀ H₀ W₀ : Int) : Prop := T ≤ t₀ ∧ f₀ ≤ T + H₀ - 1 ∧ L₀ ≤ b₀ ∧ a₀ ≤ L₀ + W₀ - 1
abbrev mh_wn (f₀ t₀ a₀ b₀ T L₀ H₀ W₀ : Int) : Prop := f₀ ≤ T ∧ T + H₀ - 1 ≤ t₀ ∧ a₀ ≤ L₀ ∧ L₀ + W₀ - 1 ≤ b₀
theorem cX6_isCut {D : mg_D} {l : Launch} (hl : l.stackTraces = false) {M : mg_M} {m₀ : Nat} {k₀ T L₀ H₀ W₀ : Int} (st₀ : mm_st M m₀) (rc : mm_rc M m₀) (h₀ : mm_rect M m₀ k₀ T L₀ H₀ W₀) (hf : gi M m₀ 32 ≤ gi M m₀ 33) (ha₀ : gi M m₀ 34 ≤ gi M m₀ 35) : mg_Mt D l 133 [.inr (.inl m₀), .inl k₀] M (fun v₀ N => v₀ = some (.inl (if mh_mt (gi M m₀ 32) (gi M m₀ 33) (gi M m₀ 34) (gi M m₀ 35) T L₀ H₀ W₀ ∧ ¬ mh_wn (gi M m₀ 32) (gi M m₀ 33) (gi M m₀ 34) (gi M m₀ 35) T L₀ H₀ W₀ then 1 else 0)) ∧ N = M) mg_no := by
  refine mg_of2 hl ok_X6_isCut al_X6_isCut rfl (fun K hK₀ => ?_)
  have k7₀ := st₀.1
  have rc' := rc
  unfold mm_rc at rc'
  obtain ⟨h1, h2, h3⟩ := h₀
  generalize ef : gi M m₀ 32 = f₀ at *
  generalize et : gi M m₀ 33 = t₀ at *
  generalize ea : gi M m₀ 34 = a₀ at *
  generalize eb : gi M m₀ 35 = b₀ at *
  refine hK₀ _ _ _ _ _ ?_
  (repeat' (((conv => whnf); first | assumption | refine And.intro (by first | assumption | omega | (simp only [true_and]; first | done | assumption | omega)) ?_ | (refine And.intro (fun _ => ?_) (fun _ => ?_) <;> first | (exfalso; omega) | skip) | intro _ | fail)))
  (conv => whnf)
  refine mh_for2d (P := fun r₀ c₀ (x₀ : Int × Int) => ((x₀.1 = 0 ∨ x₀.1 = 1) ∧ (x₀.1 ≠ 0 ↔ mh_ex 0 0 (gi M m₀ 2) (fun i₀ j₀ => mi M (m₀ + 1) i₀ j₀ = k₀ ∧ f₀ ≤ i₀ ∧ i₀ ≤ t₀ ∧ a₀ ≤ j₀ ∧ j₀ ≤ b₀) r₀ c₀)) ∧ ((x₀.2 = 0 ∨ x₀.2 = 1) ∧ (x₀.2 ≠ 0 ↔ mh_ex 0 0 (gi M m₀ 2) (fun i₀ j₀ => mi M (m₀ + 1) i₀ j₀ = k₀ ∧ ¬ (f₀ ≤ i₀ ∧ i₀ ≤ t₀ ∧ a₀ ≤ j₀ ∧ j₀ ≤ b₀)) r₀ c₀))) (G1 := fun r₀ x₀ => K 7 [(0, Sum.inr (Sum.inl m₀)), (1, Sum.inl k₀), (2, Sum.inl x₀.1), (3, Sum.inl x₀.2), (4, Sum.inl r₀)] [] M 0) (G2 := fun r₀ c₀ x₀ => K 19 [(0, Sum.inr (Sum.inl m₀)), (1, Sum.inl k₀), (2, Sum.inl x₀.1), (3, Sum.inl x₀.2), (4, Sum.inl r₀), (5, Sum.inl c₀)] [] M 0) (R := gi M m₀ 1) (C := gi M m₀ 2) (r0 := 0) (c0 := 0) (by omega) (by omega) ?_ ?_ ?_ ?_ (0, 0) ⟨⟨Or.inl rfl, ⟨fun q₀ => absurd rfl q₀, fun q₀ => absurd q₀ mh_ex0⟩⟩, ⟨Or.inl rfl, ⟨fun q₀ => absurd rfl q₀, fun q₀ => absurd q₀ mh_ex0⟩⟩⟩
  · rintro ⟨x₀, y₀⟩ ⟨⟨p1₀, p2₀⟩, p3₀, p4₀⟩
    dsimp only at p1₀ p2₀ p3₀ p4₀ ⊢
    rw [mh_exE] at p2₀ p4₀
    have q2₀ : (x₀ ≠ 0) ↔ mh_mt f₀ t₀ a₀ b₀ T L₀ H₀ W₀ := by
      rw [p2₀]
      constructor
      · rintro ⟨i₀, j₀, hi, hj, e₀, g₀⟩
        have := (h3 i₀ j₀ hi hj).1 e₀
        omega
      · intro g₀
        refine ⟨max T f₀, max L₀ a₀, by omega, by omega, (h3 _ _ (by omega) (by omega)).2 (by omega), by omega⟩
    have q4₀ : (y₀ ≠ 0) ↔ ¬ mh_wn f₀ t₀ a₀ b₀ T L₀ H₀ W₀ := by
      rw [p4₀]
      constructor
      · rintro ⟨i₀, j₀, hi, hj, e₀, g₀⟩
        have := (h3 i₀ j₀ hi hj).1 e₀
        omega
      · intro g₀
        by_cases g1 : T < f₀
        · exact ⟨T, L₀, by omega, by omega, (h3 _ _ (by omega) (by omega)).2 (by omega), by omega⟩
        · by_cases g2 : t₀ < T + H₀ - 1
          · exact ⟨T + H₀ - 1, L₀, by omega, by omega, (h3 _ _ (by omega) (by omega)).2 (by omega), by omega⟩
          · by_cases g3₀ : L₀ < a₀
            · exact ⟨T, L₀, by omega, by omega, (h3 _ _ (by omega) (by omega)).2 (by omega), by omega⟩
            · exact ⟨T, L₀ + W₀ - 1, by omega, by omega, (h3 _ _ (by omega) (by omega)).2 (by omega), by omega⟩
    refine hK₀ _ _ _ _ _ ?_
    (repeat' (((conv => whnf); first | assumption | refine And.intro (by first | assumption | omega | (simp only [true_and]; first | done | assumption | omega)) ?_ | (refine And.intro (fun _ => ?_) (fun _ => ?_) <;> first | (exfalso; omega) | skip) | intro _ | fail)))
    all_goals ((conv => whnf); refine And.intro ?_ rfl; split <;> first | rfl | omega)
  · rintro r₀ ⟨x₀, y₀⟩ r1₀ r2 p₀ g₀
    dsimp only at g₀ ⊢
    refine hK₀ _ _ _ _ _ ?_
    (repeat' (((conv => whnf); first | assumption | refine And.intro (by first | assumption | omega | (simp only [true_and]; first | done | assumption | omega)) ?_ | (refine And.intro (fun _ => ?_) (fun _ => ?_) <;> first | (exfalso; omega) | skip) | intro _ | fail)))
    all_goals ((conv => whnf); exact g₀)
  · rintro r₀ ⟨x₀, y₀⟩ r1₀ r2 ⟨⟨p1₀, p2₀⟩, p3₀, p4₀⟩
    dsimp only at p1₀ p2₀ p3₀ p4₀ ⊢
    rw [mh_exR] at p2₀ p4₀
    refine ⟨⟨⟨p1₀, p2₀⟩, p3₀, p4₀⟩, fun g₀ => ?_⟩
    refine hK₀ _ _ _ _ _ ?_
    (repeat' (((conv => whnf); first | assumption | refine And.intro (by first | assumption | omega | (simp only [true_and]; first | done | assumption | omega)) ?_ | (refine And.intro (fun _ => ?_) (fun _ => ?_) <;> first | (exfalso; omega) | skip) | intro _ | fail)))
    all_goals ((conv => whnf); exact g₀)
  · rintro r₀ c₀ ⟨x₀, y₀⟩ r1₀ r2 c1₀ c2₀ ⟨⟨p1₀, p2₀⟩, p3₀, p4₀⟩ nex
    dsimp only at p1₀ p2₀ p3₀ p4₀ ⊢
    have E1₀ := mh_exC (q₀ := fun i₀ j₀ => mi M (m₀ + 1) i₀ j₀ = k₀ ∧ f₀ ≤ i₀ ∧ i₀ ≤ t₀ ∧ a₀ ≤ j₀ ∧ j₀ ≤ b₀) r1₀ ⟨c1₀, c2₀⟩
    have E2 := mh_exC (q₀ := fun i₀ j₀ => mi M (m₀ + 1) i₀ j₀ = k₀ ∧ ¬ (f₀ ≤ i₀ ∧ i₀ ≤ t₀ ∧ a₀ ≤ j₀ ∧ j₀ ≤ b₀)) r1₀ ⟨c1₀, c2₀⟩
    rw [← p2₀] at E1₀
    rw [← p4₀] at E2
    clear p2₀ p4₀ h3
    refine hK₀ _ _ _ _ _ ?_
    (repeat' (((conv => whnf); first | assumption | refine And.intro (by first | assumption | omega | (simp only [true_and]; first | done | assumption | omega)) ?_ | (refine And.intro (fun _ => ?_) (fun _ => ?_) <;> first | (exfalso; omega) | skip) | intro _ | fail)))
    all_goals (try ((conv => whnf); (refine Exists.intro _ (Exists.intro _ (And.intro (cX6_id hl st₀ (by omega) (by omega)) (And.intro ?_ (fun _ _ h₀ => h₀.elim)))); rintro _ _ ⟨rfl, e₀⟩; have e2₀ := e₀.symm; clear e₀; subst e2₀); (repeat' (((conv => whnf); first | assumption | refine And.intro (by first | assumption | omega | (simp only [true_and]; first | done | assumption | omega)) ?_ | (refine And.intro (fun _ => ?_) (fun _ => ?_) <;> first | (exfalso; omega) | skip) | intro _ | fail)))))
    all_goals (try ((conv => whnf); (refine Exists.intro _ (Exists.intro _ (And.intro (cX6_isIn hl k7₀) (And.intro ?_ (fun _ _ h₀ => h₀.elim)))); rintro _ _ ⟨rfl, e₀⟩; have e2₀ := e₀.symm; clear e₀; subst e2₀); (repeat' (((conv => whnf); first | assumption | refine And.intro (by first | assumption | omega | (simp only [true_and]; first | done | assumption | omega)) ?_ | (refine And.intro (fun _ => ?_) (fun _ => ?_) <;> first | (exfalso; omega) | skip) | intro _ | fail)))))
    all_goals (try ((conv => whnf); (refine Exists.intro _ (Exists.intro _ (And.intro (cX6_id hl st₀ (by omega) (by omega)) (And.intro ?_ (fun _ _ h₀ => h₀.elim)))); rintro _ _ ⟨rfl, e₀⟩; have e2₀ := e₀.symm; clear e₀; subst e2₀); (repeat' (((conv => whnf); first | assumption | refine And.intro (by first | assumption | omega | (simp only [true_and]; first | done | assumption | omega)) ?_ | (refine And.intro (fun _ => ?_) (fun _ => ?_) <;> first | (exfalso; omega) | skip) | intro _ | fail)))))
    all_goals (try ((conv => whnf); (refine Exists.intro _ (Exists.intro _ (And.intro (cX6_isIn hl k7₀) (And.intro ?_ (fun _ _ h₀ => h₀.elim)))); rintro _ _ ⟨rfl, e₀⟩; have e2₀ := e₀.symm; clear e₀; subst e2₀); (repeat' (((conv => whnf); first | assumption | refine And.intro (by first | assumption | omega | (simp only [true_and]; first | done | assumption | omega)) ?_ | (refine And.intro (fun _ => ?_) (fun _ => ?_) <;> first | (exfalso; omega) | skip) | intro _ | fail)))))
    all_goals ((conv => whnf); exact nex (_, _) ⟨⟨by omega, by rw [E1₀]; omega⟩, ⟨by omega, by rw [E2]; omega⟩⟩)
theorem cX6_isChosen {D : mg_D} {l : Launch} (hl : l.stackTraces = false) {M : mg_M} {m₀ : Nat} {k₀ T L₀ H₀ W₀ : Int} (st₀ : mm_st M m₀) (rc : mm_rc M m₀) (h₀ : mm_rect M m₀ k₀ T L₀ H₀ W₀) (hf : 0 ≤ gi M m₀ 21 ∧ gi M m₀ 21 ≤ gi M m₀ 22 ∧ gi M m₀ 22 < gi M m₀ 1) (ha₀ : 0 ≤ gi M m₀ 23 ∧ gi M m₀ 23 ≤ gi M m₀ 24 ∧ gi M m₀ 24 < gi M m₀ 2) : mg_Mt D l 139 [.inr (.inl m₀), .inl k₀] M (fun v₀ N => v₀ = some (.inl (if mh_mt (gi M m₀ 21) (gi M m₀ 22) (gi M m₀ 23) (gi M m₀ 24) T L₀ H₀ W₀ then 1 else 0)) ∧ N = M) mg_no := by
  refine mg_of2 hl ok_X6_isChosen al_X6_isChosen rfl (fun K hK₀ => ?_)
  have k7₀ := st₀.1
  have rc' := rc
  unfold mm_rc at rc'
  obtain ⟨h1, h2, h3⟩ := h₀
  generalize ef : gi M m₀ 21 = f₀ at *
  generalize et : gi M m₀ 22 = t₀ at *
  generalize ea : gi M m₀ 23 = a₀ at *
  generalize eb : gi M m₀ 24 = b₀ at *
  refine hK₀ _ _ _ _ _ ?_
  (repeat' (((conv => whnf); first | assumption | refine And.intro (by first | assumption | omega | (simp only [true_and]; first | done | assumption | omega)) ?_ | (refine And.intro (fun _ => ?_) (fun _ => ?_) <;> first | (exfalso; omega) | skip) | intro _ | fail)))
  (conv => whnf)
  rw [ef]
  refine mh_for2d (P := fun r₀ c₀ x₀ => (x₀ = 0 ∨ x₀ = 1) ∧ (x₀ ≠ 0 ↔ mh_ex f₀ a₀ (b₀ + 1) (fun i₀ j₀ => mi M (m₀ + 1) i₀ j₀ = k₀) r₀ c₀)) (G1 := fun r₀ x₀ => K 7 [(0, Sum.inr (Sum.inl m₀)), (1, Sum.inl k₀), (2, Sum.inl x₀), (3, Sum.inl r₀)] [] M 0) (G2 := fun r₀ c₀ x₀ => K 21 [(0, Sum.inr (Sum.inl m₀)), (1, Sum.inl k₀), (2, Sum.inl x₀), (3, Sum.inl r₀), (4, Sum.inl c₀)] [] M 0) (R := t₀ + 1) (C := b₀ + 1) (r0 := f₀) (c0 := a₀) (by omega) (by omega) ?_ ?_ ?_ ?_ 0 ⟨Or.inl rfl, ⟨fun q₀ => absurd rfl q₀, fun q₀ => absurd q₀ mh_ex0⟩⟩
  · rintro x₀ ⟨p1₀, p2₀⟩
    rw [mh_exE] at p2₀
    have q2₀ : (x₀ ≠ 0) ↔ mh_mt f₀ t₀ a₀ b₀ T L₀ H₀ W₀ := by
      rw [p2₀]
      constructor
      · rintro ⟨i₀, j₀, hi, hj, e₀⟩
        have := (h3 i₀ j₀ (by omega) (by omega)).1 e₀
        omega
      · intro g₀
        refine ⟨max T f₀, max L₀ a₀, by omega, by omega, (h3 _ _ (by omega) (by omega)).2 (by omega)⟩
    clear p2₀ h3
    have q3₀ : x₀ = if mh_mt f₀ t₀ a₀ b₀ T L₀ H₀ W₀ then 1 else 0 := by split <;> omega
    refine hK₀ _ _ _ _ _ ?_
    (repeat' (((conv => whnf); first | assumption | refine And.intro (by first | assumption | omega | (simp only [true_and]; first | done | assumption | omega)) ?_ | (refine And.intro (fun _ => ?_) (fun _ => ?_) <;> first | (exfalso; omega) | skip) | intro _ | fail)))
    all_goals ((conv => whnf); refine And.intro ?_ rfl; rw [q3₀])
  · rintro r₀ x₀ r1₀ r2 p₀ g₀
    refine hK₀ _ _ _ _ _ ?_
    (repeat' (((conv => whnf); first | assumption | refine And.intro (by first | assumption | omega | (simp only [true_and]; first | done | assumption | omega)) ?_ | (refine And.intro (fun _ => ?_) (fun _ => ?_) <;> first | (exfalso; omega) | skip) | intro _ | fail)))
    (conv => whnf)
    rw [ea]
    exact g₀
  · rintro r₀ x₀ r1₀ r2 ⟨p1₀, p2₀⟩
    rw [mh_exR] at p2₀
    refine ⟨⟨p1₀, p2₀⟩, fun g₀ => ?_⟩
    refine hK₀ _ _ _ _ _ ?_
    (repeat' (((conv => whnf); first | assumption | refine And.intro (by first | assumption | omega | (simp only [true_and]; first | done | assumption | omega)) ?_ | (refine And.intro (fun _ => ?_) (fun _ => ?_) <;> first | (exfalso; omega) | skip) | intro _ | fail)))
    all_goals ((conv => whnf); exact g₀)
  · rintro r₀ c₀ x₀ r1₀ r2 c1₀ c2₀ ⟨p1₀, p2₀⟩ nex
    have E1₀ := mh_exC (q₀ := fun i₀ j₀ => mi M (m₀ + 1) i₀ j₀ = k₀) r1₀ ⟨c1₀, c2₀⟩
    rw [← p2₀] at E1₀
    clear p2₀ h3
    refine hK₀ _ _ _ _ _ ?_
    (repeat' (((conv => whnf); first | assumption | refine And.intro (by first | assumption | omega | (simp only [true_and]; first | done | assumption | omega)) ?_ | (refine And.intro (fun _ => ?_) (fun _ => ?_) <;> first | (exfalso; omega) | skip) | intro _ | fail)))
    all_goals (try ((conv => whnf); (refine Exists.intro _ (Exists.intro _ (And.intro (cX6_id hl st₀ (by omega) (by omega)) (And.intro ?_ (fun _ _ h₀ => h₀.elim)))); rintro _ _ ⟨rfl, e₀⟩; have e2₀ := e₀.symm; clear e₀; subst e2₀); (repeat' (((conv => whnf); first | assumption | refine And.intro (by first | assumption | omega | (simp only [true_and]; first | done | assumption | omega)) ?_ | (refine And.intro (fun _ => ?_) (fun _ => ?_) <;> first | (exfalso; omega) | skip) | intro _ | fail)))))
    all_goals ((conv => whnf); exact nex _ ⟨by omega, by rw [E1₀]; omega⟩)
