def mm_mp (M : mg_M) (m₀ : Nat) : Prop := (0 ≤ gi M m₀ 4 ∧ gi M m₀ 4 ≤ 140) ∧ (∀ k₀ : Nat, k₀ < 140 → gi M (m₀ + 12) k₀ = -1 ∨ (0 ≤ gi M (m₀ + 12) k₀ ∧ gi M (m₀ + 12) k₀ < gi M m₀ 4)) ∧ (∀ k₀ j₀ : Nat, k₀ < 140 → j₀ < 140 → gi M (m₀ + 12) k₀ = gi M (m₀ + 12) j₀ → gi M (m₀ + 12) k₀ = -1 ∨ k₀ = j₀)
theorem cX6_renames {D : mg_D} {l : Launch} (hl : l.stackTraces = false) {M : mg_M} {m₀ a₀ : Nat} (st₀ : mm_st M m₀) (k1₀ : kd M a₀ = 8) (k2₀ : ln M a₀ = 140) (n1₀ : a₀ ≠ m₀ + 12) (n2₀ : a₀ ≠ m₀ + 16) (mpp : mm_mp M m₀) : mg_Mt D l 130 [.inr (.inl m₀), .inr (.inl a₀)] M (fun v₀ N => v₀ = none ∧ mm_f (fun b₀ _ => b₀ = a₀ ∨ b₀ = m₀ + 16) M N ∧ ∀ k₀ : Nat, k₀ < 140 → gi M (m₀ + 12) k₀ ≠ -1 → gi N a₀ (gi M (m₀ + 12) k₀).toNat = gi M a₀ k₀) mg_no := by
  refine mg_of2 hl ok_X6_renames al_X6_renames rfl (fun K hK₀ => ?_)
  obtain ⟨mp1, mp2, mp3⟩ := mpp
  obtain ⟨a20, b20, c20₀⟩ := st₀.2.2.2.2.1
  obtain ⟨a31, b31, c31₀⟩ := st₀.2.2.2.2.2.2.1
  have q1₀ := k1₀
  have q2₀ := k2₀
  have n3₀ : m₀ ≠ a₀ := fun e₀ => by rw [← e₀] at k1₀; have := st₀.1; omega
  have L2₀ : ∀ M1₀ : mg_M, mm_f (fun b₀ _ => b₀ = a₀ ∨ b₀ = m₀ + 16) M M1₀ ∧ (∀ k₀, gi M1₀ a₀ k₀ = gi M a₀ k₀) ∧ (∀ k₀ : Nat, k₀ < 140 → gi M (m₀ + 12) k₀ ≠ -1 → gi M1₀ (m₀ + 16) (gi M (m₀ + 12) k₀).toNat = gi M a₀ k₀) → K 41 [(0, Sum.inr (Sum.inl m₀)), (1, Sum.inr (Sum.inl a₀)), (2, Sum.inl 0)] [] M1₀ 0 := by
    intro M1₀ ⟨f1₀, e1₀, v1₀⟩
    refine mh_for (P := fun j₀ N => mm_f (fun b₀ _ => b₀ = a₀ ∨ b₀ = m₀ + 16) M N ∧ (∀ k₀ : Nat, (k₀ : Int) < j₀ → (k₀ : Int) < gi M m₀ 4 → gi N a₀ k₀ = gi M1₀ (m₀ + 16) k₀) ∧ (∀ k₀, gi N (m₀ + 16) k₀ = gi M1₀ (m₀ + 16) k₀)) (G := fun j₀ N => K 41 [(0, Sum.inr (Sum.inl m₀)), (1, Sum.inr (Sum.inl a₀)), (2, Sum.inl j₀)] [] N 0) (hi := 140) (by omega) ?_ ?_ M1₀ ⟨f1₀, fun k₀ h₀ => by omega, fun k₀ => rfl⟩
    · intro N ⟨f₀, v₀, w₀⟩
      have k7₀ := (mm_f_st f₀ st₀).1
      refine hK₀ _ _ _ _ _ ?_
      (repeat' (((conv => whnf); first | assumption | refine And.intro (by first | assumption | omega | (simp only [a20, b20, c20₀, a31, b31, c31₀, q1₀, q2₀, true_and]; first | done | assumption | omega)) ?_ | (refine And.intro (fun _ => ?_) (fun _ => ?_) <;> first | (exfalso; omega) | skip) | intro _ | fail)))
      (conv => whnf)
      rename_i k₀ hk hn
      have := mp2 k₀ hk
      rw [v₀ _ (by omega) (by omega)]
      exact v1₀ k₀ hk hn
    · intro j₀ N h1 h2 ⟨f₀, v₀, w₀⟩ nex
      have k7₀ := (mm_f_st f₀ st₀).1
      obtain ⟨a20, b20, c20₀⟩ := (mm_f_st f₀ st₀).2.2.2.2.1
      obtain ⟨a31, b31, c31₀⟩ := (mm_f_st f₀ st₀).2.2.2.2.2.2.1
      have q1₀ : kd N a₀ = 8 := (f₀.1 a₀).trans k1₀
      have q2₀ : ln N a₀ = 140 := (f₀.2.1 a₀).trans k2₀
      have e4₀ := mm_f_gi f₀ m₀ 4 (by omega)
      refine hK₀ _ _ _ _ _ ?_
      (repeat' (((conv => whnf); first | assumption | refine And.intro (by first | assumption | omega | (simp only [a20, b20, c20₀, a31, b31, c31₀, q1₀, q2₀, true_and]; first | done | assumption | omega)) ?_ | (refine And.intro (fun _ => ?_) (fun _ => ?_) <;> first | (exfalso; omega) | skip) | intro _ | fail)))
      all_goals ((conv => whnf); refine nex _ ⟨mm_f_si f₀ (Or.inl rfl), ?_, ?_⟩)
      · intro k₀ hk hk2
        rw [gi_si]
        by_cases e₀ : k₀ = j₀.toNat
        · omega
        · rw [if_neg (by omega)]; exact v₀ k₀ (by omega) hk2
      · intro k₀
        rw [gi_si, if_neg (by omega)]; exact w₀ k₀
      · intro k₀ hk hk2
        rw [gi_si]
        by_cases e₀ : k₀ = j₀.toNat
        · rw [if_pos (by omega), e₀, a31]; exact w₀ _
        · rw [if_neg (by omega)]; exact v₀ k₀ (by omega) hk2
      · intro k₀
        rw [gi_si, if_neg (by omega)]; exact w₀ k₀
  have k7₀ := st₀.1
  refine hK₀ _ _ _ _ _ ?_
  (repeat' (((conv => whnf); first | assumption | refine And.intro (by first | assumption | omega | (simp only [a20, b20, c20₀, a31, b31, c31₀, q1₀, q2₀, true_and]; first | done | assumption | omega)) ?_ | (refine And.intro (fun _ => ?_) (fun _ => ?_) <;> first | (exfalso; omega) | skip) | intro _ | fail)))
  (conv => whnf)
  refine mh_for (P := fun j₀ N => mm_f (fun b₀ _ => b₀ = a₀ ∨ b₀ = m₀ + 16) M N ∧ (∀ k₀, gi N a₀ k₀ = gi M a₀ k₀) ∧ (∀ k₀ : Nat, (k₀ : Int) < j₀ → gi M (m₀ + 12) k₀ ≠ -1 → gi N (m₀ + 16) (gi M (m₀ + 12) k₀).toNat = gi M a₀ k₀)) (G := fun j₀ N => K 2 [(0, Sum.inr (Sum.inl m₀)), (1, Sum.inr (Sum.inl a₀)), (2, Sum.inl j₀)] [] N 0) (hi := 140) (by omega) ?_ ?_ M ⟨mm_f_rfl, fun k₀ => rfl, fun k₀ h₀ => by omega⟩
  · intro N ⟨f₀, w₀, v₀⟩
    have k7₀ := (mm_f_st f₀ st₀).1
    refine hK₀ _ _ _ _ _ ?_
    (repeat' (((conv => whnf); first | assumption | refine And.intro (by first | assumption | omega | (simp only [a20, b20, c20₀, a31, b31, c31₀, q1₀, q2₀, true_and]; first | done | assumption | omega)) ?_ | (refine And.intro (fun _ => ?_) (fun _ => ?_) <;> first | (exfalso; omega) | skip) | intro _ | fail)))
    (conv => whnf)
    exact L2₀ N ⟨f₀, w₀, fun k₀ hk => v₀ k₀ (by omega)⟩
  · intro j₀ N h1 h2 ⟨f₀, w₀, v₀⟩ nex
    have k7₀ := (mm_f_st f₀ st₀).1
    obtain ⟨a20, b20, c20₀⟩ := (mm_f_st f₀ st₀).2.2.2.2.1
    obtain ⟨a31, b31, c31₀⟩ := (mm_f_st f₀ st₀).2.2.2.2.2.2.1
    have q1₀ : kd N a₀ = 8 := (f₀.1 a₀).trans k1₀
    have q2₀ : ln N a₀ = 140 := (f₀.2.1 a₀).trans k2₀
    have e4₀ := mm_f_gi f₀ m₀ 4 (by omega)
    have e12₀ := fun k₀ => mm_f_gi f₀ (m₀ + 12) k₀ (by omega)
    have z₀ := mp2 j₀.toNat (by omega)
    have z2 := e12₀ j₀.toNat
    have z3 : gi N (gr N m₀ 20) j₀.toNat = gi M (m₀ + 12) j₀.toNat := by rw [a20]; exact z2
    refine hK₀ _ _ _ _ _ ?_
    (repeat' (((conv => whnf); first | assumption | refine And.intro (by first | assumption | omega | (simp only [a20, b20, c20₀, a31, b31, c31₀, q1₀, q2₀, true_and]; first | done | assumption | omega)) ?_ | (refine And.intro (fun _ => ?_) (fun _ => ?_) <;> first | (exfalso; omega) | skip) | intro _ | fail)))
    all_goals ((conv => whnf); skip)
    · refine nex _ ⟨f₀, w₀, ?_⟩
      intro k₀ hk hn
      by_cases e₀ : k₀ = j₀.toNat
      · subst e₀
        omega
      · exact v₀ k₀ (by omega) hn
    · rw [a31]
      refine nex _ ⟨mm_f_si f₀ (Or.inr rfl), ?_, ?_⟩
      · intro k₀
        rw [gi_si, if_neg (by omega)]
        exact w₀ k₀
      · intro k₀ hk hn
        rw [gi_si]
        by_cases e₀ : k₀ = j₀.toNat
        · subst e₀
          rw [if_pos (by omega)]
          exact w₀ _
        · have z3 := mp3 k₀ j₀.toNat (by omega) (by omega)
          have z4 := mp2 k₀ (by omega)
          rw [if_neg (by omega)]
          exact v₀ k₀ (by omega) hn
