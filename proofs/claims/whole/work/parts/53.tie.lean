set_option maxRecDepth 100000 in
theorem cX6_isTied {D : mg_D} {l : Launch} (hl : l.stackTraces = false) {M : mg_M} {m₀ : Nat} {x₀ y₀ : Int} (st₀ : mm_st M m₀) (rc : mm_rc M m₀) (hx : 0 ≤ x₀ ∧ x₀ ≤ y₀ + 1 ∧ y₀ < gi M m₀ 1) : mg_Mt D l 150 [.inr (.inl m₀), .inl x₀, .inl y₀] M (fun v₀ N => v₀ = some (.inl (mh_pr (∃ i₀ j₀, (x₀ ≤ i₀ ∧ i₀ < y₀ + 1) ∧ (0 ≤ j₀ ∧ j₀ < gi M m₀ 2) ∧ ((0 < i₀ ∧ mi M (m₀ + 1) i₀ j₀ = mi M (m₀ + 1) (i₀ - 1) j₀) ∨ (i₀ < gi M m₀ 1 - 1 ∧ mi M (m₀ + 1) i₀ j₀ = mi M (m₀ + 1) (i₀ + 1) j₀))))) ∧ N = M) mg_no := by
  refine mg_of2 hl ok_X6_isTied al_X6_isTied rfl (fun K hK₀ => ?_)
  have k7₀ := st₀.1
  have rc' := rc
  unfold mm_rc at rc'
  have F₀ : K 5 [(0, Sum.inr (Sum.inl m₀)), (2, Sum.inl y₀), (3, Sum.inl 0), (4, Sum.inl x₀)] [] M 0 := by
    refine mh_for2d (P := fun r₀ c₀ u₀ => (u₀ = 0 ∨ u₀ = 1) ∧ (u₀ ≠ 0 ↔ mh_ex x₀ 0 (gi M m₀ 2) (fun i₀ j₀ => (0 < i₀ ∧ mi M (m₀ + 1) i₀ j₀ = mi M (m₀ + 1) (i₀ - 1) j₀) ∨ (i₀ < gi M m₀ 1 - 1 ∧ mi M (m₀ + 1) i₀ j₀ = mi M (m₀ + 1) (i₀ + 1) j₀)) r₀ c₀)) (G1 := fun r₀ u₀ => K 5 [(0, Sum.inr (Sum.inl m₀)), (2, Sum.inl y₀), (3, Sum.inl u₀), (4, Sum.inl r₀)] [] M 0) (G2 := fun r₀ c₀ u₀ => K 14 [(0, Sum.inr (Sum.inl m₀)), (2, Sum.inl y₀), (3, Sum.inl u₀), (4, Sum.inl r₀), (5, Sum.inl c₀)] [] M 0) (R := y₀ + 1) (C := gi M m₀ 2) (r0 := x₀) (c0 := 0) (by omega) (by omega) ?_ ?_ ?_ ?_ 0 ⟨Or.inl rfl, ⟨fun z₀ => absurd rfl z₀, fun z₀ => absurd z₀ mh_ex0⟩⟩
    · rintro u₀ ⟨p1₀, p2₀⟩
      rw [mh_exE] at p2₀
      have Q₀ : some (Sum.inl u₀ : mg_V) = some (.inl (mh_pr (∃ i₀ j₀, (x₀ ≤ i₀ ∧ i₀ < y₀ + 1) ∧ (0 ≤ j₀ ∧ j₀ < gi M m₀ 2) ∧ ((0 < i₀ ∧ mi M (m₀ + 1) i₀ j₀ = mi M (m₀ + 1) (i₀ - 1) j₀) ∨ (i₀ < gi M m₀ 1 - 1 ∧ mi M (m₀ + 1) i₀ j₀ = mi M (m₀ + 1) (i₀ + 1) j₀))))) ∧ M = M := by
        refine ⟨?_, rfl⟩
        congr 2
        refine mh_pre ?_
        rw [← p2₀]
        clear p2₀
        omega
      clear p2₀
      refine hK₀ _ _ _ _ _ ?_
      (repeat' (((conv => whnf); first | assumption | refine And.intro (by first | assumption | omega | (simp only [true_and]; first | done | assumption | omega)) ?_ | (refine And.intro (fun _ => ?_) (fun _ => ?_) <;> first | (exfalso; omega) | skip) | intro _ | fail)))
    · rintro r₀ u₀ r1₀ r2 p₀ g₀
      refine hK₀ _ _ _ _ _ ?_
      (repeat' (((conv => whnf); first | assumption | refine And.intro (by first | assumption | omega | (simp only [true_and]; first | done | assumption | omega)) ?_ | (refine And.intro (fun _ => ?_) (fun _ => ?_) <;> first | (exfalso; omega) | skip) | intro _ | fail)))
    · rintro r₀ u₀ r1₀ r2 ⟨p1₀, p2₀⟩
      rw [mh_exR] at p2₀
      refine ⟨⟨p1₀, p2₀⟩, fun g₀ => ?_⟩
      clear p2₀
      refine hK₀ _ _ _ _ _ ?_
      (repeat' (((conv => whnf); first | assumption | refine And.intro (by first | assumption | omega | (simp only [true_and]; first | done | assumption | omega)) ?_ | (refine And.intro (fun _ => ?_) (fun _ => ?_) <;> first | (exfalso; omega) | skip) | intro _ | fail)))
    · rintro r₀ c₀ u₀ r1₀ r2 c1₀ c2₀ ⟨p1₀, p2₀⟩ nex
      have E1₀ := mh_exC (q₀ := fun i₀ j₀ => (0 < i₀ ∧ mi M (m₀ + 1) i₀ j₀ = mi M (m₀ + 1) (i₀ - 1) j₀) ∨ (i₀ < gi M m₀ 1 - 1 ∧ mi M (m₀ + 1) i₀ j₀ = mi M (m₀ + 1) (i₀ + 1) j₀)) r1₀ ⟨c1₀, c2₀⟩
      rw [← p2₀] at E1₀
      clear p2₀
      have nex2 : ∀ z₀, (z₀ = 0 ∨ z₀ = 1) → (z₀ ≠ 0 ↔ u₀ ≠ 0 ∨ ((0 < r₀ ∧ mi M (m₀ + 1) r₀ c₀ = mi M (m₀ + 1) (r₀ - 1) c₀) ∨ (r₀ < gi M m₀ 1 - 1 ∧ mi M (m₀ + 1) r₀ c₀ = mi M (m₀ + 1) (r₀ + 1) c₀))) → K 14 [(0, Sum.inr (Sum.inl m₀)), (2, Sum.inl y₀), (3, Sum.inl z₀), (4, Sum.inl r₀), (5, Sum.inl (c₀ + 1))] [] M 0 := fun z₀ z1 z2 => nex z₀ ⟨z1, by rw [E1₀]; exact z2⟩
      clear E1₀ nex
      refine hK₀ _ _ _ _ _ ?_
      (repeat' (((conv => whnf); first | assumption | refine And.intro (by first | assumption | omega | (simp only [true_and]; first | done | assumption | omega)) ?_ | (refine And.intro (fun _ => ?_) (fun _ => ?_) <;> first | (exfalso; omega) | skip) | intro _ | fail)))
      all_goals (try ((conv => whnf); (refine Exists.intro _ (Exists.intro _ (And.intro (cX6_id hl st₀ (by omega) (by omega)) (And.intro ?_ (fun _ _ h₀ => h₀.elim)))); rintro _ _ ⟨rfl, e₀⟩; have e2₀ := e₀.symm; clear e₀; subst e2₀); (repeat' (((conv => whnf); first | assumption | refine And.intro (by first | assumption | omega | (simp only [true_and]; first | done | assumption | omega)) ?_ | (refine And.intro (fun _ => ?_) (fun _ => ?_) <;> first | (exfalso; omega) | skip) | intro _ | fail)))))
      all_goals (try ((conv => whnf); (refine Exists.intro _ (Exists.intro _ (And.intro (cX6_id hl st₀ (by omega) (by omega)) (And.intro ?_ (fun _ _ h₀ => h₀.elim)))); rintro _ _ ⟨rfl, e₀⟩; have e2₀ := e₀.symm; clear e₀; subst e2₀); (repeat' (((conv => whnf); first | assumption | refine And.intro (by first | assumption | omega | (simp only [true_and]; first | done | assumption | omega)) ?_ | (refine And.intro (fun _ => ?_) (fun _ => ?_) <;> first | (exfalso; omega) | skip) | intro _ | fail)))))
      all_goals (try ((conv => whnf); (refine Exists.intro _ (Exists.intro _ (And.intro (cX6_id hl st₀ (by omega) (by omega)) (And.intro ?_ (fun _ _ h₀ => h₀.elim)))); rintro _ _ ⟨rfl, e₀⟩; have e2₀ := e₀.symm; clear e₀; subst e2₀); (repeat' (((conv => whnf); first | assumption | refine And.intro (by first | assumption | omega | (simp only [true_and]; first | done | assumption | omega)) ?_ | (refine And.intro (fun _ => ?_) (fun _ => ?_) <;> first | (exfalso; omega) | skip) | intro _ | fail)))))
      all_goals (try ((conv => whnf); (refine Exists.intro _ (Exists.intro _ (And.intro (cX6_id hl st₀ (by omega) (by omega)) (And.intro ?_ (fun _ _ h₀ => h₀.elim)))); rintro _ _ ⟨rfl, e₀⟩; have e2₀ := e₀.symm; clear e₀; subst e2₀); (repeat' (((conv => whnf); first | assumption | refine And.intro (by first | assumption | omega | (simp only [true_and]; first | done | assumption | omega)) ?_ | (refine And.intro (fun _ => ?_) (fun _ => ?_) <;> first | (exfalso; omega) | skip) | intro _ | fail)))))
      all_goals ((conv => whnf); exact nex2 _ (by omega) (by omega))
  refine hK₀ _ _ _ _ _ ?_
  (repeat' (((conv => whnf); first | assumption | refine And.intro (by first | assumption | omega | (simp only [true_and]; first | done | assumption | omega)) ?_ | (refine And.intro (fun _ => ?_) (fun _ => ?_) <;> first | (exfalso; omega) | skip) | intro _ | fail)))
set_option maxRecDepth 100000 in
theorem cX6_isTiedAt {D : mg_D} {l : Launch} (hl : l.stackTraces = false) {M : mg_M} {m₀ : Nat} {r₀ : Int} (st₀ : mm_st M m₀) (rc : mm_rc M m₀) : mg_Mt D l 188 [.inr (.inl m₀), .inl r₀] M (fun v₀ N => v₀ = some (.inl (mh_pr ((0 < r₀ ∧ r₀ < gi M m₀ 1) ∧ ∃ j₀, (0 ≤ j₀ ∧ j₀ < gi M m₀ 2) ∧ mi M (m₀ + 1) r₀ j₀ = mi M (m₀ + 1) (r₀ - 1) j₀))) ∧ N = M) mg_no := by
  refine mg_of2 hl ok_X6_isTiedAt al_X6_isTiedAt rfl (fun K hK₀ => ?_)
  have k7₀ := st₀.1
  have rc' := rc
  unfold mm_rc at rc'
  have F₀ : K 4 [(0, Sum.inr (Sum.inl m₀)), (1, Sum.inl r₀), (2, Sum.inl 0), (3, Sum.inl 0)] [] M 0 := by
    by_cases hr : 0 < r₀ ∧ r₀ < gi M m₀ 1
    · refine mh_for (P := fun c₀ u₀ => (u₀ = 0 ∨ u₀ = 1) ∧ (u₀ ≠ 0 ↔ ∃ j₀, (0 ≤ j₀ ∧ j₀ < c₀) ∧ mi M (m₀ + 1) r₀ j₀ = mi M (m₀ + 1) (r₀ - 1) j₀)) (G := fun c₀ u₀ => K 4 [(0, Sum.inr (Sum.inl m₀)), (1, Sum.inl r₀), (2, Sum.inl u₀), (3, Sum.inl c₀)] [] M 0) (lo := 0) (hi := gi M m₀ 2) (by omega) ?_ ?_ 0 ⟨Or.inl rfl, ⟨fun z₀ => absurd rfl z₀, fun ⟨j₀, z₀, _⟩ => by omega⟩⟩
      · rintro u₀ ⟨p1₀, p2₀⟩
        have Q₀ : some (Sum.inl u₀ : mg_V) = some (.inl (mh_pr ((0 < r₀ ∧ r₀ < gi M m₀ 1) ∧ ∃ j₀, (0 ≤ j₀ ∧ j₀ < gi M m₀ 2) ∧ mi M (m₀ + 1) r₀ j₀ = mi M (m₀ + 1) (r₀ - 1) j₀))) ∧ M = M := by
          refine ⟨?_, rfl⟩
          congr 2
          refine mh_pre ?_
          rw [← p2₀]
          clear p2₀
          omega
        clear p2₀
        refine hK₀ _ _ _ _ _ ?_
        (repeat' (((conv => whnf); first | assumption | refine And.intro (by first | assumption | omega | (simp only [true_and]; first | done | assumption | omega)) ?_ | (refine And.intro (fun _ => ?_) (fun _ => ?_) <;> first | (exfalso; omega) | skip) | intro _ | fail)))
      · rintro c₀ u₀ c1₀ c2₀ ⟨p1₀, p2₀⟩ nex
        have E1₀ : (∃ j₀, (0 ≤ j₀ ∧ j₀ < c₀ + 1) ∧ mi M (m₀ + 1) r₀ j₀ = mi M (m₀ + 1) (r₀ - 1) j₀) ↔ u₀ ≠ 0 ∨ mi M (m₀ + 1) r₀ c₀ = mi M (m₀ + 1) (r₀ - 1) c₀ := by
          rw [p2₀]
          constructor
          · rintro ⟨j₀, hj, e₀⟩
            by_cases z₀ : j₀ = c₀
            · rw [z₀] at e₀; exact Or.inr e₀
            · exact Or.inl ⟨j₀, by omega, e₀⟩
          · rintro (⟨j₀, hj, e₀⟩ | e₀)
            · exact ⟨j₀, by omega, e₀⟩
            · exact ⟨c₀, by omega, e₀⟩
        have nex2 : ∀ z₀, (z₀ = 0 ∨ z₀ = 1) → (z₀ ≠ 0 ↔ u₀ ≠ 0 ∨ mi M (m₀ + 1) r₀ c₀ = mi M (m₀ + 1) (r₀ - 1) c₀) → K 4 [(0, Sum.inr (Sum.inl m₀)), (1, Sum.inl r₀), (2, Sum.inl z₀), (3, Sum.inl (c₀ + 1))] [] M 0 := fun z₀ z1 z2 => nex z₀ ⟨z1, by rw [E1₀]; exact z2⟩
        clear E1₀ nex p2₀
        refine hK₀ _ _ _ _ _ ?_
        (repeat' (((conv => whnf); first | assumption | refine And.intro (by first | assumption | omega | (simp only [true_and]; first | done | assumption | omega)) ?_ | (refine And.intro (fun _ => ?_) (fun _ => ?_) <;> first | (exfalso; omega) | skip) | intro _ | fail)))
        all_goals (try ((conv => whnf); (refine Exists.intro _ (Exists.intro _ (And.intro (cX6_id hl st₀ (by omega) (by omega)) (And.intro ?_ (fun _ _ h₀ => h₀.elim)))); rintro _ _ ⟨rfl, e₀⟩; have e2₀ := e₀.symm; clear e₀; subst e2₀); (repeat' (((conv => whnf); first | assumption | refine And.intro (by first | assumption | omega | (simp only [true_and]; first | done | assumption | omega)) ?_ | (refine And.intro (fun _ => ?_) (fun _ => ?_) <;> first | (exfalso; omega) | skip) | intro _ | fail)))))
        all_goals (try ((conv => whnf); (refine Exists.intro _ (Exists.intro _ (And.intro (cX6_id hl st₀ (by omega) (by omega)) (And.intro ?_ (fun _ _ h₀ => h₀.elim)))); rintro _ _ ⟨rfl, e₀⟩; have e2₀ := e₀.symm; clear e₀; subst e2₀); (repeat' (((conv => whnf); first | assumption | refine And.intro (by first | assumption | omega | (simp only [true_and]; first | done | assumption | omega)) ?_ | (refine And.intro (fun _ => ?_) (fun _ => ?_) <;> first | (exfalso; omega) | skip) | intro _ | fail)))))
        all_goals ((conv => whnf); exact nex2 _ (by omega) (by omega))
    · have Q₀ : some (Sum.inl 0 : mg_V) = some (.inl (mh_pr ((0 < r₀ ∧ r₀ < gi M m₀ 1) ∧ ∃ j₀, (0 ≤ j₀ ∧ j₀ < gi M m₀ 2) ∧ mi M (m₀ + 1) r₀ j₀ = mi M (m₀ + 1) (r₀ - 1) j₀))) ∧ M = M := by
        rw [mh_pr0 (fun z₀ => hr z₀.1)]
        exact ⟨rfl, rfl⟩
      refine hK₀ _ _ _ _ _ ?_
      (repeat' (((conv => whnf); first | assumption | refine And.intro (by first | assumption | omega | (simp only [true_and]; first | done | assumption | omega)) ?_ | (refine And.intro (fun _ => ?_) (fun _ => ?_) <;> first | (exfalso; omega) | skip) | intro _ | fail)))
  refine hK₀ _ _ _ _ _ ?_
  (repeat' (((conv => whnf); first | assumption | refine And.intro (by first | assumption | omega | (simp only [true_and]; first | done | assumption | omega)) ?_ | (refine And.intro (fun _ => ?_) (fun _ => ?_) <;> first | (exfalso; omega) | skip) | intro _ | fail)))
def mh_sw (r₀ i₀ : Int) : Int := if i₀ = r₀ then r₀ + 1 else if i₀ = r₀ + 1 then r₀ else i₀
set_option maxRecDepth 100000 in
theorem cX6_exchanges {D : mg_D} {l : Launch} (hl : l.stackTraces = false) {M : mg_M} {m₀ : Nat} {r₀ : Int} (st₀ : mm_st M m₀) (rc : mm_rc M m₀) (hr : 0 ≤ r₀ ∧ r₀ + 1 < gi M m₀ 1) : mg_Mt D l 151 [.inr (.inl m₀), .inl r₀] M (fun v₀ N => v₀ = none ∧ mm_f (fun b₀ _ => b₀ = m₀ + 1 ∨ b₀ = m₀ + 5) M N ∧ (∀ k₀ : Nat, gi N (m₀ + 5) k₀ = gi M (m₀ + 5) (mh_sw r₀ k₀).toNat) ∧ ∀ i₀ j₀, 0 ≤ i₀ → 0 ≤ j₀ ∧ j₀ < gi M m₀ 2 → mi N (m₀ + 1) i₀ j₀ = mi M (m₀ + 1) (mh_sw r₀ i₀) j₀) mg_no := by
  refine mg_of2 hl ok_X6_exchanges al_X6_exchanges rfl (fun K hK₀ => ?_)
  have k7₀ := st₀.1
  have rc' := rc
  unfold mm_rc at rc'
  obtain ⟨a9, b9, c9₀⟩ := st₀.2.1.2.2.2.2
  obtain ⟨a5, b5, c5₀⟩ := st₀.2.1.1
  have F₀ : ∀ M1₀, mm_f (fun b₀ _ => b₀ = m₀ + 1 ∨ b₀ = m₀ + 5) M M1₀ → (∀ k₀ : Nat, gi M1₀ (m₀ + 5) k₀ = gi M (m₀ + 5) (mh_sw r₀ k₀).toNat) → (∀ k₀, gi M1₀ (m₀ + 1) k₀ = gi M (m₀ + 1) k₀) → K 32 [(0, Sum.inr (Sum.inl m₀)), (1, Sum.inl r₀), (3, Sum.inl 0)] [] M1₀ 0 := by
    intro M1₀ f1₀ h5 h1
    refine mh_for (P := fun c₀ N => mm_f (fun b₀ _ => b₀ = m₀ + 1 ∨ b₀ = m₀ + 5) M N ∧ (∀ k₀ : Nat, gi N (m₀ + 5) k₀ = gi M (m₀ + 5) (mh_sw r₀ k₀).toNat) ∧ (∀ i₀ j₀, 0 ≤ i₀ → 0 ≤ j₀ ∧ j₀ < 10 → mi N (m₀ + 1) i₀ j₀ = if j₀ < c₀ then mi M (m₀ + 1) (mh_sw r₀ i₀) j₀ else mi M (m₀ + 1) i₀ j₀)) (G := fun c₀ N => K 32 [(0, Sum.inr (Sum.inl m₀)), (1, Sum.inl r₀), (3, Sum.inl c₀)] [] N 0) (lo := 0) (hi := gi M m₀ 2) (by omega) ?_ ?_ M1₀ ⟨f1₀, h5, fun i₀ j₀ h0 h2 => by rw [if_neg (by omega)]; exact h1 _⟩
    · rintro N ⟨f₀, p5₀, p1₀⟩
      have Q₀ : (none : Option mg_V) = none ∧ mm_f (fun b₀ _ => b₀ = m₀ + 1 ∨ b₀ = m₀ + 5) M N ∧ (∀ k₀ : Nat, gi N (m₀ + 5) k₀ = gi M (m₀ + 5) (mh_sw r₀ k₀).toNat) ∧ ∀ i₀ j₀, 0 ≤ i₀ → 0 ≤ j₀ ∧ j₀ < gi M m₀ 2 → mi N (m₀ + 1) i₀ j₀ = mi M (m₀ + 1) (mh_sw r₀ i₀) j₀ := ⟨rfl, f₀, p5₀, fun i₀ j₀ h0 h2 => by rw [p1₀ i₀ j₀ h0 (by omega), if_pos (by omega)]⟩
      have k7₀ := (mm_f_st f₀ st₀).1
      have t2₀ := mm_f_gi f₀ m₀ 2 (by omega)
      refine hK₀ _ _ _ _ _ ?_
      (repeat' (((conv => whnf); first | assumption | refine And.intro (by first | assumption | omega | (simp only [true_and, a9, b9, c9₀, a5, b5, c5₀, gr_si, kd_si, ln_si]; first | done | assumption | omega)) ?_ | (refine And.intro (fun _ => ?_) (fun _ => ?_) <;> first | (exfalso; omega) | skip) | intro _ | fail)))
    · rintro c₀ N c1₀ c2₀ ⟨f₀, p5₀, p1₀⟩ nex
      have st' := mm_f_st f₀ st₀
      have k7₀ := st'.1
      have t2₀ := mm_f_gi f₀ m₀ 2 (by omega)
      have rcN₀ : mm_rc N m₀ := by unfold mm_rc; rw [t2₀, mm_f_gi f₀ m₀ 1 (by omega)]; exact rc'
      obtain ⟨a5, b5, c5₀⟩ := st'.2.1.1
      have v0₀ := p1₀ r₀ c₀ (by omega) (by omega)
      have v1₀ := p1₀ (r₀ + 1) c₀ (by omega) (by omega)
      rw [if_neg (by omega)] at v0₀ v1₀
      have w₀ : ∀ P, P = si (si N (m₀ + 1) (10 * r₀ + c₀).toNat (mi M (m₀ + 1) (r₀ + 1) c₀)) (m₀ + 1) (10 * (r₀ + 1) + c₀).toNat (mi M (m₀ + 1) r₀ c₀) → K 32 [(0, Sum.inr (Sum.inl m₀)), (1, Sum.inl r₀), (3, Sum.inl (c₀ + 1))] [] P 0 := by
        intro P hP
        subst hP
        refine nex _ ⟨mm_f_si (mm_f_si f₀ (Or.inl rfl)) (Or.inl rfl), fun k₀ => ?_, fun i₀ j₀ h0 h2 => ?_⟩
        · rw [gi_si, if_neg (by omega), gi_si, if_neg (by omega)]; exact p5₀ k₀
        · have z₀ := p1₀ i₀ j₀ h0 h2
          unfold mi at z₀ ⊢
          rw [gi_si, gi_si, z₀]
          unfold mh_sw
          (repeat' split) <;> first | rfl | (exfalso; omega) | (congr 1; omega)
      clear nex p1₀ p5₀
      refine hK₀ _ _ _ _ _ ?_
      (repeat' (((conv => whnf); first | assumption | refine And.intro (by first | assumption | omega | (simp only [true_and, a9, b9, c9₀, a5, b5, c5₀, gr_si, kd_si, ln_si]; first | done | assumption | omega)) ?_ | (refine And.intro (fun _ => ?_) (fun _ => ?_) <;> first | (exfalso; omega) | skip) | intro _ | fail)))
      all_goals (try ((conv => whnf); (refine Exists.intro _ (Exists.intro _ (And.intro (cX6_id hl st' (by omega) (by omega)) (And.intro ?_ (fun _ _ h₀ => h₀.elim)))); rintro _ _ ⟨rfl, e₀⟩; have e2₀ := e₀.symm; clear e₀; subst e2₀); (repeat' (((conv => whnf); first | assumption | refine And.intro (by first | assumption | omega | (simp only [true_and, a9, b9, c9₀, a5, b5, c5₀, gr_si, kd_si, ln_si]; first | done | assumption | omega)) ?_ | (refine And.intro (fun _ => ?_) (fun _ => ?_) <;> first | (exfalso; omega) | skip) | intro _ | fail)))))
      all_goals (try ((conv => whnf); (refine Exists.intro _ (Exists.intro _ (And.intro (cX6_id hl st' (by omega) (by omega)) (And.intro ?_ (fun _ _ h₀ => h₀.elim)))); rintro _ _ ⟨rfl, e₀⟩; have e2₀ := e₀.symm; clear e₀; subst e2₀); (repeat' (((conv => whnf); first | assumption | refine And.intro (by first | assumption | omega | (simp only [true_and, a9, b9, c9₀, a5, b5, c5₀, gr_si, kd_si, ln_si]; first | done | assumption | omega)) ?_ | (refine And.intro (fun _ => ?_) (fun _ => ?_) <;> first | (exfalso; omega) | skip) | intro _ | fail)))))
      all_goals ((conv => whnf); refine w₀ _ ?_; simp only [gr_si, a5]; rw [v0₀, v1₀])
  have w₀ : ∀ P, P = si (si M (m₀ + 5) r₀.toNat (gi M (m₀ + 5) (r₀ + 1).toNat)) (m₀ + 5) (r₀ + 1).toNat (gi M (m₀ + 5) r₀.toNat) → K 32 [(0, Sum.inr (Sum.inl m₀)), (1, Sum.inl r₀), (3, Sum.inl 0)] [] P 0 := by
    intro P hP
    subst hP
    refine F₀ _ (mm_f_si (mm_f_si mm_f_rfl (Or.inr rfl)) (Or.inr rfl)) (fun k₀ => ?_) (fun k₀ => ?_)
    · rw [gi_si, gi_si]
      unfold mh_sw
      (repeat' split) <;> first | rfl | (exfalso; omega) | (congr 1; omega)
    · rw [gi_si, if_neg (by omega), gi_si, if_neg (by omega)]
  refine hK₀ _ _ _ _ _ ?_
  (repeat' (((conv => whnf); first | assumption | refine And.intro (by first | assumption | omega | (simp only [true_and, a9, b9, c9₀, a5, b5, c5₀, gr_si, kd_si, ln_si]; first | done | assumption | omega)) ?_ | (refine And.intro (fun _ => ?_) (fun _ => ?_) <;> first | (exfalso; omega) | skip) | intro _ | fail)))
  all_goals ((conv => whnf); refine w₀ _ ?_; simp only [gr_si, a9])
