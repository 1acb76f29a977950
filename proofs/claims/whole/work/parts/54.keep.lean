abbrev mm_sK (m₀ : Nat) : Nat → Nat → Prop := fun b₀ k₀ => (b₀ = m₀ ∧ 10 ≤ k₀ ∧ k₀ ≤ 13) ∨ b₀ = m₀ + 6 ∨ b₀ = m₀ + 7 ∨ b₀ = m₀ + 8 ∨ b₀ = m₀ + 9 ∨ b₀ = m₀ + 10
def mm_kp (M N : mg_M) (m₀ : Nat) (n1₀ n2₀ n3₀ n4₀ : Int) : Prop := mm_f (mm_sK m₀) M N ∧ (gi N m₀ 10 = 1 ∧ gi N m₀ 11 = gi M m₀ 1 ∧ gi N m₀ 12 = gi M m₀ 2 ∧ gi N m₀ 13 = gi M m₀ 3) ∧ (∀ k₀ : Nat, (k₀ : Int) < n1₀ → gi N (m₀ + 6) k₀ = gi M (m₀ + 1) k₀) ∧ (∀ k₀ : Nat, (k₀ : Int) < n2₀ → gi N (m₀ + 7) k₀ = gi M (m₀ + 2) k₀ ∧ gi N (m₀ + 8) k₀ = gi M (m₀ + 3) k₀) ∧ (∀ k₀ : Nat, (k₀ : Int) < n3₀ → gi N (m₀ + 9) k₀ = gi M (m₀ + 4) k₀) ∧ (∀ k₀ : Nat, (k₀ : Int) < n4₀ → gi N (m₀ + 10) k₀ = gi M (m₀ + 5) k₀)
theorem mm_kp1 {M N : mg_M} {m₀ : Nat} {j₀ : Int} (hj : 0 ≤ j₀) (h₀ : mm_kp M N m₀ j₀ 0 0 0) : mm_kp M (si N (m₀ + 6) j₀.toNat (gi N (m₀ + 1) j₀.toNat)) m₀ (j₀ + 1) 0 0 0 := by
  obtain ⟨f₀, h0, h1, h2, h3, h4⟩ := h₀
  refine ⟨mm_f_si f₀ (by omega), by simpa [gi_si] using h0, fun k₀ hk => ?_, fun k₀ hk => by omega, fun k₀ hk => by omega, fun k₀ hk => by omega⟩
  rw [gi_si]
  by_cases e₀ : k₀ = j₀.toNat
  · rw [if_pos ⟨rfl, e₀⟩, e₀, mm_f_gi f₀ (m₀ + 1) _ (by omega)]
  · rw [if_neg (by omega)]; exact h1 k₀ (by omega)
theorem mm_kp2 {M N : mg_M} {m₀ : Nat} {j₀ : Int} (hj : 0 ≤ j₀) (h₀ : mm_kp M N m₀ 120 j₀ 0 0) : mm_kp M (si (si N (m₀ + 7) j₀.toNat (gi N (m₀ + 2) j₀.toNat)) (m₀ + 8) j₀.toNat (gi N (m₀ + 3) j₀.toNat)) m₀ 120 (j₀ + 1) 0 0 := by
  obtain ⟨f₀, h0, h1, h2, h3, h4⟩ := h₀
  refine ⟨mm_f_si (mm_f_si f₀ (by omega)) (by omega), by simpa [gi_si] using h0, fun k₀ hk => ?_, fun k₀ hk => ?_, fun k₀ hk => by omega, fun k₀ hk => by omega⟩
  · rw [gi_si, if_neg (by omega), gi_si, if_neg (by omega)]; exact h1 k₀ hk
  · by_cases e₀ : k₀ = j₀.toNat
    · rw [gi_si, if_neg (by omega), gi_si, if_pos ⟨rfl, e₀⟩, gi_si, if_pos ⟨rfl, e₀⟩, e₀, mm_f_gi f₀ (m₀ + 2) _ (by omega), mm_f_gi f₀ (m₀ + 3) _ (by omega)]
      exact ⟨rfl, rfl⟩
    · rw [gi_si, if_neg (by omega), gi_si, if_neg (by omega), gi_si, if_neg (by omega), gi_si, if_neg (by omega)]
      exact h2 k₀ (by omega)
theorem mm_kp3 {M N : mg_M} {m₀ : Nat} {j₀ : Int} (hj : 0 ≤ j₀) (h₀ : mm_kp M N m₀ 120 140 j₀ 0) : mm_kp M (si N (m₀ + 9) j₀.toNat (gi N (m₀ + 4) j₀.toNat)) m₀ 120 140 (j₀ + 1) 0 := by
  obtain ⟨f₀, h0, h1, h2, h3, h4⟩ := h₀
  refine ⟨mm_f_si f₀ (by omega), by simpa [gi_si] using h0, fun k₀ hk => ?_, fun k₀ hk => ?_, fun k₀ hk => ?_, fun k₀ hk => by omega⟩
  · rw [gi_si, if_neg (by omega)]; exact h1 k₀ hk
  · rw [gi_si, if_neg (by omega), gi_si, if_neg (by omega)]; exact h2 k₀ hk
  · rw [gi_si]
    by_cases e₀ : k₀ = j₀.toNat
    · rw [if_pos ⟨rfl, e₀⟩, e₀, mm_f_gi f₀ (m₀ + 4) _ (by omega)]
    · rw [if_neg (by omega)]; exact h3 k₀ (by omega)
theorem mm_kp4 {M N : mg_M} {m₀ : Nat} {j₀ : Int} (hj : 0 ≤ j₀) (h₀ : mm_kp M N m₀ 120 140 10 j₀) : mm_kp M (si N (m₀ + 10) j₀.toNat (gi N (m₀ + 5) j₀.toNat)) m₀ 120 140 10 (j₀ + 1) := by
  obtain ⟨f₀, h0, h1, h2, h3, h4⟩ := h₀
  refine ⟨mm_f_si f₀ (by omega), by simpa [gi_si] using h0, fun k₀ hk => ?_, fun k₀ hk => ?_, fun k₀ hk => ?_, fun k₀ hk => ?_⟩
  · rw [gi_si, if_neg (by omega)]; exact h1 k₀ hk
  · rw [gi_si, if_neg (by omega), gi_si, if_neg (by omega)]; exact h2 k₀ hk
  · rw [gi_si, if_neg (by omega)]; exact h3 k₀ hk
  · rw [gi_si]
    by_cases e₀ : k₀ = j₀.toNat
    · rw [if_pos ⟨rfl, e₀⟩, e₀, mm_f_gi f₀ (m₀ + 5) _ (by omega)]
    · rw [if_neg (by omega)]; exact h4 k₀ (by omega)
set_option maxRecDepth 100000 in
theorem cX6_keeps {D : mg_D} {l : Launch} (hl : l.stackTraces = false) {M : mg_M} {m₀ : Nat} (st₀ : mm_st M m₀) : mg_Mt D l 131 [.inr (.inl m₀)] M (fun v₀ N => v₀ = none ∧ mm_kp M N m₀ 120 140 10 12) mg_no := by
  refine mg_of2 hl ok_X6_keeps al_X6_keeps rfl (fun K hK₀ => ?_)
  have k7₀ := st₀.1
  obtain ⟨⟨a5, b5, c5₀⟩, ⟨a6, b6, c6₀⟩, ⟨a7, b7, c7₀⟩, ⟨a8, b8, c8₀⟩, ⟨a9, b9, c9₀⟩⟩ := st₀.2.1
  obtain ⟨⟨a14, b14, c14₀⟩, ⟨a15, b15, c15₀⟩, ⟨a16, b16₀, c16⟩, ⟨a17, b17, c17⟩, ⟨a18, b18, c18₀⟩⟩ := st₀.2.2.1
  have L4₀ : ∀ N, mm_kp M N m₀ 120 140 10 0 → K 122 [(0, Sum.inr (Sum.inl m₀)), (1, Sum.inl 0)] [] N 0 := by
    refine mh_for (P := fun j₀ N => mm_kp M N m₀ 120 140 10 j₀) (G := fun j₀ N => K 122 [(0, Sum.inr (Sum.inl m₀)), (1, Sum.inl j₀)] [] N 0) (hi := 12) (by omega) ?_ ?_
    · intro N h₀
      have Q₀ : (none : Option mg_V) = none ∧ mm_kp M N m₀ 120 140 10 12 := ⟨rfl, h₀⟩
      refine hK₀ _ _ _ _ _ ?_
      (repeat' (((conv => whnf); first | assumption | refine And.intro (by first | assumption | omega | (simp only [true_and, gr_si, kd_si, ln_si, a5, b5, c5₀, a6, b6, c6₀, a7, b7, c7₀, a8, b8, c8₀, a9, b9, c9₀, a14, b14, c14₀, a15, b15, c15₀, a16, b16₀, c16, a17, b17, c17, a18, b18, c18₀]; first | done | assumption | omega)) ?_ | (refine And.intro (fun _ => ?_) (fun _ => ?_) <;> first | (exfalso; omega) | skip) | intro _ | fail)))
    · intro j₀ N h1 h2 h₀ nex
      have w₀ := nex _ (mm_kp4 h1 h₀)
      have st' := mm_f_st h₀.1 st₀
      have k7₀ := st'.1
      obtain ⟨a9, b9, c9₀⟩ := st'.2.1.2.2.2.2
      obtain ⟨a18, b18, c18₀⟩ := st'.2.2.1.2.2.2.2
      clear nex
      refine hK₀ _ _ _ _ _ ?_
      (repeat' (((conv => whnf); first | assumption | refine And.intro (by first | assumption | omega | (simp only [true_and, gr_si, kd_si, ln_si, a5, b5, c5₀, a6, b6, c6₀, a7, b7, c7₀, a8, b8, c8₀, a9, b9, c9₀, a14, b14, c14₀, a15, b15, c15₀, a16, b16₀, c16, a17, b17, c17, a18, b18, c18₀]; first | done | assumption | omega)) ?_ | (refine And.intro (fun _ => ?_) (fun _ => ?_) <;> first | (exfalso; omega) | skip) | intro _ | fail)))
      all_goals ((conv => whnf); simp only [a9, a18]; exact w₀)
  have L3₀ : ∀ N, mm_kp M N m₀ 120 140 0 0 → K 96 [(0, Sum.inr (Sum.inl m₀)), (1, Sum.inl 0)] [] N 0 := by
    refine mh_for (P := fun j₀ N => mm_kp M N m₀ 120 140 j₀ 0) (G := fun j₀ N => K 96 [(0, Sum.inr (Sum.inl m₀)), (1, Sum.inl j₀)] [] N 0) (hi := 10) (by omega) ?_ ?_
    · intro N h₀
      have w₀ := L4₀ N h₀
      refine hK₀ _ _ _ _ _ ?_
      (repeat' (((conv => whnf); first | assumption | refine And.intro (by first | assumption | omega | (simp only [true_and, gr_si, kd_si, ln_si, a5, b5, c5₀, a6, b6, c6₀, a7, b7, c7₀, a8, b8, c8₀, a9, b9, c9₀, a14, b14, c14₀, a15, b15, c15₀, a16, b16₀, c16, a17, b17, c17, a18, b18, c18₀]; first | done | assumption | omega)) ?_ | (refine And.intro (fun _ => ?_) (fun _ => ?_) <;> first | (exfalso; omega) | skip) | intro _ | fail)))
    · intro j₀ N h1 h2 h₀ nex
      have w₀ := nex _ (mm_kp3 h1 h₀)
      have st' := mm_f_st h₀.1 st₀
      have k7₀ := st'.1
      obtain ⟨a8, b8, c8₀⟩ := st'.2.1.2.2.2.1
      obtain ⟨a17, b17, c17⟩ := st'.2.2.1.2.2.2.1
      clear nex
      refine hK₀ _ _ _ _ _ ?_
      (repeat' (((conv => whnf); first | assumption | refine And.intro (by first | assumption | omega | (simp only [true_and, gr_si, kd_si, ln_si, a5, b5, c5₀, a6, b6, c6₀, a7, b7, c7₀, a8, b8, c8₀, a9, b9, c9₀, a14, b14, c14₀, a15, b15, c15₀, a16, b16₀, c16, a17, b17, c17, a18, b18, c18₀]; first | done | assumption | omega)) ?_ | (refine And.intro (fun _ => ?_) (fun _ => ?_) <;> first | (exfalso; omega) | skip) | intro _ | fail)))
      all_goals ((conv => whnf); simp only [a8, a17]; exact w₀)
  have L2₀ : ∀ N, mm_kp M N m₀ 120 0 0 0 → K 57 [(0, Sum.inr (Sum.inl m₀)), (1, Sum.inl 0)] [] N 0 := by
    refine mh_for (P := fun j₀ N => mm_kp M N m₀ 120 j₀ 0 0) (G := fun j₀ N => K 57 [(0, Sum.inr (Sum.inl m₀)), (1, Sum.inl j₀)] [] N 0) (hi := 140) (by omega) ?_ ?_
    · intro N h₀
      have w₀ := L3₀ N h₀
      refine hK₀ _ _ _ _ _ ?_
      (repeat' (((conv => whnf); first | assumption | refine And.intro (by first | assumption | omega | (simp only [true_and, gr_si, kd_si, ln_si, a5, b5, c5₀, a6, b6, c6₀, a7, b7, c7₀, a8, b8, c8₀, a9, b9, c9₀, a14, b14, c14₀, a15, b15, c15₀, a16, b16₀, c16, a17, b17, c17, a18, b18, c18₀]; first | done | assumption | omega)) ?_ | (refine And.intro (fun _ => ?_) (fun _ => ?_) <;> first | (exfalso; omega) | skip) | intro _ | fail)))
    · intro j₀ N h1 h2 h₀ nex
      have w₀ := nex _ (mm_kp2 h1 h₀)
      have st' := mm_f_st h₀.1 st₀
      have k7₀ := st'.1
      obtain ⟨a6, b6, c6₀⟩ := st'.2.1.2.1
      obtain ⟨a7, b7, c7₀⟩ := st'.2.1.2.2.1
      obtain ⟨a15, b15, c15₀⟩ := st'.2.2.1.2.1
      obtain ⟨a16, b16₀, c16⟩ := st'.2.2.1.2.2.1
      have n1₀ : ¬ (m₀ + 3 = m₀ + 7) := by omega
      clear nex
      refine hK₀ _ _ _ _ _ ?_
      (repeat' (((conv => whnf); first | assumption | refine And.intro (by first | assumption | omega | (simp only [true_and, gr_si, kd_si, ln_si, a5, b5, c5₀, a6, b6, c6₀, a7, b7, c7₀, a8, b8, c8₀, a9, b9, c9₀, a14, b14, c14₀, a15, b15, c15₀, a16, b16₀, c16, a17, b17, c17, a18, b18, c18₀]; first | done | assumption | omega)) ?_ | (refine And.intro (fun _ => ?_) (fun _ => ?_) <;> first | (exfalso; omega) | skip) | intro _ | fail)))
      all_goals ((conv => whnf); simp only [gr_si, a6, a7, a15, a16, gi_si, n1₀, false_and, if_false]; exact w₀)
  have L1 : ∀ N, mm_kp M N m₀ 0 0 0 0 → K 31 [(0, Sum.inr (Sum.inl m₀)), (1, Sum.inl 0)] [] N 0 := by
    refine mh_for (P := fun j₀ N => mm_kp M N m₀ j₀ 0 0 0) (G := fun j₀ N => K 31 [(0, Sum.inr (Sum.inl m₀)), (1, Sum.inl j₀)] [] N 0) (hi := 120) (by omega) ?_ ?_
    · intro N h₀
      have w₀ := L2₀ N h₀
      refine hK₀ _ _ _ _ _ ?_
      (repeat' (((conv => whnf); first | assumption | refine And.intro (by first | assumption | omega | (simp only [true_and, gr_si, kd_si, ln_si, a5, b5, c5₀, a6, b6, c6₀, a7, b7, c7₀, a8, b8, c8₀, a9, b9, c9₀, a14, b14, c14₀, a15, b15, c15₀, a16, b16₀, c16, a17, b17, c17, a18, b18, c18₀]; first | done | assumption | omega)) ?_ | (refine And.intro (fun _ => ?_) (fun _ => ?_) <;> first | (exfalso; omega) | skip) | intro _ | fail)))
    · intro j₀ N h1 h2 h₀ nex
      have w₀ := nex _ (mm_kp1 h1 h₀)
      have st' := mm_f_st h₀.1 st₀
      have k7₀ := st'.1
      obtain ⟨a5, b5, c5₀⟩ := st'.2.1.1
      obtain ⟨a14, b14, c14₀⟩ := st'.2.2.1.1
      clear nex
      refine hK₀ _ _ _ _ _ ?_
      (repeat' (((conv => whnf); first | assumption | refine And.intro (by first | assumption | omega | (simp only [true_and, gr_si, kd_si, ln_si, a5, b5, c5₀, a6, b6, c6₀, a7, b7, c7₀, a8, b8, c8₀, a9, b9, c9₀, a14, b14, c14₀, a15, b15, c15₀, a16, b16₀, c16, a17, b17, c17, a18, b18, c18₀]; first | done | assumption | omega)) ?_ | (refine And.intro (fun _ => ?_) (fun _ => ?_) <;> first | (exfalso; omega) | skip) | intro _ | fail)))
      all_goals ((conv => whnf); simp only [a5, a14]; exact w₀)
  have w₀ := L1 (si (si (si (si M m₀ 10 1) m₀ 11 (gi M m₀ 1)) m₀ 12 (gi M m₀ 2)) m₀ 13 (gi M m₀ 3)) ⟨mm_f_si (mm_f_si (mm_f_si (mm_f_si mm_f_rfl (by omega)) (by omega)) (by omega)) (by omega), by simp [gi_si], fun k₀ hk => by omega, fun k₀ hk => by omega, fun k₀ hk => by omega, fun k₀ hk => by omega⟩
  have u1₀ : ∀ x₀, gi (si M m₀ 10 x₀) m₀ 1 = gi M m₀ 1 := fun x₀ => by rw [gi_si, if_neg (by omega)]
  have u2₀ : ∀ x₀ y₀, gi (si (si M m₀ 10 x₀) m₀ 11 y₀) m₀ 2 = gi M m₀ 2 := fun x₀ y₀ => by rw [gi_si, if_neg (by omega), gi_si, if_neg (by omega)]
  have u3 : ∀ x₀ y₀ z₀, gi (si (si (si M m₀ 10 x₀) m₀ 11 y₀) m₀ 12 z₀) m₀ 3 = gi M m₀ 3 := fun x₀ y₀ z₀ => by rw [gi_si, if_neg (by omega), gi_si, if_neg (by omega), gi_si, if_neg (by omega)]
  refine hK₀ _ _ _ _ _ ?_
  (repeat' (((conv => whnf); first | assumption | refine And.intro (by first | assumption | omega | (simp only [true_and, gr_si, kd_si, ln_si, a5, b5, c5₀, a6, b6, c6₀, a7, b7, c7₀, a8, b8, c8₀, a9, b9, c9₀, a14, b14, c14₀, a15, b15, c15₀, a16, b16₀, c16, a17, b17, c17, a18, b18, c18₀]; first | done | assumption | omega)) ?_ | (refine And.intro (fun _ => ?_) (fun _ => ?_) <;> first | (exfalso; omega) | skip) | intro _ | fail)))
  all_goals ((conv => whnf); simp only [u1₀, u2₀, u3]; exact w₀)
set_option maxRecDepth 100000 in
theorem cX6_putsAside {D : mg_D} {l : Launch} (hl : l.stackTraces = false) {M : mg_M} {m₀ : Nat} (st₀ : mm_st M m₀) : mg_Mt D l 144 [.inr (.inl m₀)] M (fun v₀ N => v₀ = none ∧ mm_f (fun b₀ _ => b₀ = m₀ + 11) M N ∧ ∀ k₀ : Nat, k₀ < 120 → gi N (m₀ + 11) k₀ = gi M (m₀ + 1) k₀) mg_no := by
  refine mg_of2 hl ok_X6_putsAside al_X6_putsAside rfl (fun K hK₀ => ?_)
  have k7₀ := st₀.1
  obtain ⟨a5, b5, c5₀⟩ := st₀.2.1.1
  obtain ⟨a19, b19, c19₀⟩ := st₀.2.2.2.1
  have L1 : ∀ N, mm_f (fun b₀ _ => b₀ = m₀ + 11) M N ∧ (∀ k₀ : Nat, (k₀ : Int) < 0 → gi N (m₀ + 11) k₀ = gi M (m₀ + 1) k₀) → K 2 [(0, Sum.inr (Sum.inl m₀)), (1, Sum.inl 0)] [] N 0 := by
    refine mh_for (P := fun j₀ N => mm_f (fun b₀ _ => b₀ = m₀ + 11) M N ∧ (∀ k₀ : Nat, (k₀ : Int) < j₀ → gi N (m₀ + 11) k₀ = gi M (m₀ + 1) k₀)) (G := fun j₀ N => K 2 [(0, Sum.inr (Sum.inl m₀)), (1, Sum.inl j₀)] [] N 0) (hi := 120) (by omega) ?_ ?_
    · rintro N ⟨f₀, h₀⟩
      have Q₀ : (none : Option mg_V) = none ∧ mm_f (fun b₀ _ => b₀ = m₀ + 11) M N ∧ ∀ k₀ : Nat, k₀ < 120 → gi N (m₀ + 11) k₀ = gi M (m₀ + 1) k₀ := ⟨rfl, f₀, fun k₀ hk => h₀ k₀ (by omega)⟩
      refine hK₀ _ _ _ _ _ ?_
      (repeat' (((conv => whnf); first | assumption | refine And.intro (by first | assumption | omega | (simp only [true_and, a5, b5, c5₀, a19, b19, c19₀]; first | done | assumption | omega)) ?_ | (refine And.intro (fun _ => ?_) (fun _ => ?_) <;> first | (exfalso; omega) | skip) | intro _ | fail)))
    · rintro j₀ N h1 h2 ⟨f₀, h₀⟩ nex
      have st' := mm_f_st f₀ st₀
      have k7₀ := st'.1
      obtain ⟨a5, b5, c5₀⟩ := st'.2.1.1
      obtain ⟨a19, b19, c19₀⟩ := st'.2.2.2.1
      refine hK₀ _ _ _ _ _ ?_
      (repeat' (((conv => whnf); first | assumption | refine And.intro (by first | assumption | omega | (simp only [true_and, a5, b5, c5₀, a19, b19, c19₀]; first | done | assumption | omega)) ?_ | (refine And.intro (fun _ => ?_) (fun _ => ?_) <;> first | (exfalso; omega) | skip) | intro _ | fail)))
      all_goals ((conv => whnf); rw [a5, a19, mm_f_gi f₀ (m₀ + 1) _ (by omega)])
      refine nex _ ⟨mm_f_si f₀ rfl, fun k₀ hk => ?_⟩
      rw [gi_si]
      by_cases e₀ : k₀ = j₀.toNat
      · rw [if_pos ⟨rfl, e₀⟩, e₀]
      · rw [if_neg (by omega)]; exact h₀ k₀ (by omega)
  have w₀ := L1 M ⟨mm_f_rfl, fun k₀ hk => by omega⟩
  refine hK₀ _ _ _ _ _ ?_
  (repeat' (((conv => whnf); first | assumption | refine And.intro (by first | assumption | omega | (simp only [true_and, a5, b5, c5₀, a19, b19, c19₀]; first | done | assumption | omega)) ?_ | (refine And.intro (fun _ => ?_) (fun _ => ?_) <;> first | (exfalso; omega) | skip) | intro _ | fail)))
set_option maxRecDepth 100000 in
theorem cX6_freshens {D : mg_D} {l : Launch} (hl : l.stackTraces = false) {M : mg_M} {m₀ : Nat} (st₀ : mm_st M m₀) : mg_Mt D l 145 [.inr (.inl m₀)] M (fun v₀ N => v₀ = none ∧ mm_f (fun b₀ k₀ => (b₀ = m₀ + 2 ∨ b₀ = m₀ + 3) ∧ 120 ≤ k₀) M N ∧ ∀ k₀ : Nat, 120 ≤ k₀ → k₀ < 140 → gi N (m₀ + 2) k₀ = 0 ∧ gi N (m₀ + 3) k₀ = 0) mg_no := by
  refine mg_of2 hl ok_X6_freshens al_X6_freshens rfl (fun K hK₀ => ?_)
  have k7₀ := st₀.1
  obtain ⟨a6, b6, c6₀⟩ := st₀.2.1.2.1
  obtain ⟨a7, b7, c7₀⟩ := st₀.2.1.2.2.1
  have L1 : ∀ N, mm_f (fun b₀ k₀ => (b₀ = m₀ + 2 ∨ b₀ = m₀ + 3) ∧ 120 ≤ k₀) M N ∧ (∀ k₀ : Nat, 120 ≤ k₀ → (k₀ : Int) < 120 → gi N (m₀ + 2) k₀ = 0 ∧ gi N (m₀ + 3) k₀ = 0) → K 3 [(0, Sum.inr (Sum.inl m₀)), (1, Sum.inl 120)] [] N 0 := by
    refine mh_for (P := fun j₀ N => mm_f (fun b₀ k₀ => (b₀ = m₀ + 2 ∨ b₀ = m₀ + 3) ∧ 120 ≤ k₀) M N ∧ (∀ k₀ : Nat, 120 ≤ k₀ → (k₀ : Int) < j₀ → gi N (m₀ + 2) k₀ = 0 ∧ gi N (m₀ + 3) k₀ = 0)) (G := fun j₀ N => K 3 [(0, Sum.inr (Sum.inl m₀)), (1, Sum.inl j₀)] [] N 0) (hi := 140) (by omega) ?_ ?_
    · rintro N ⟨f₀, h₀⟩
      have Q₀ : (none : Option mg_V) = none ∧ mm_f (fun b₀ k₀ => (b₀ = m₀ + 2 ∨ b₀ = m₀ + 3) ∧ 120 ≤ k₀) M N ∧ ∀ k₀ : Nat, 120 ≤ k₀ → k₀ < 140 → gi N (m₀ + 2) k₀ = 0 ∧ gi N (m₀ + 3) k₀ = 0 := ⟨rfl, f₀, fun k₀ hk hk2 => h₀ k₀ hk (by omega)⟩
      refine hK₀ _ _ _ _ _ ?_
      (repeat' (((conv => whnf); first | assumption | refine And.intro (by first | assumption | omega | (simp only [true_and, a6, b6, c6₀, a7, b7, c7₀, gr_si, kd_si, ln_si]; first | done | assumption | omega)) ?_ | (refine And.intro (fun _ => ?_) (fun _ => ?_) <;> first | (exfalso; omega) | skip) | intro _ | fail)))
    · rintro j₀ N h1 h2 ⟨f₀, h₀⟩ nex
      have st' := mm_f_st f₀ st₀
      have k7₀ := st'.1
      obtain ⟨a6, b6, c6₀⟩ := st'.2.1.2.1
      obtain ⟨a7, b7, c7₀⟩ := st'.2.1.2.2.1
      refine hK₀ _ _ _ _ _ ?_
      (repeat' (((conv => whnf); first | assumption | refine And.intro (by first | assumption | omega | (simp only [true_and, a6, b6, c6₀, a7, b7, c7₀, gr_si, kd_si, ln_si]; first | done | assumption | omega)) ?_ | (refine And.intro (fun _ => ?_) (fun _ => ?_) <;> first | (exfalso; omega) | skip) | intro _ | fail)))
      all_goals ((conv => whnf); simp only [gr_si, a6, a7])
      refine nex _ ⟨mm_f_si (mm_f_si f₀ (by omega)) (by omega), fun k₀ hk hk2 => ?_⟩
      by_cases e₀ : k₀ = j₀.toNat
      · rw [gi_si, if_neg (by omega), gi_si, if_pos ⟨rfl, e₀⟩, gi_si, if_pos ⟨rfl, e₀⟩]
        exact ⟨rfl, rfl⟩
      · rw [gi_si, if_neg (by omega), gi_si, if_neg (by omega), gi_si, if_neg (by omega), gi_si, if_neg (by omega)]
        exact h₀ k₀ hk (by omega)
  have w₀ := L1 M ⟨mm_f_rfl, fun k₀ hk => by omega⟩
  refine hK₀ _ _ _ _ _ ?_
  (repeat' (((conv => whnf); first | assumption | refine And.intro (by first | assumption | omega | (simp only [true_and, a6, b6, c6₀, a7, b7, c7₀, gr_si, kd_si, ln_si]; first | done | assumption | omega)) ?_ | (refine And.intro (fun _ => ?_) (fun _ => ?_) <;> first | (exfalso; omega) | skip) | intro _ | fail)))
set_option maxRecDepth 100000 in
theorem cX6_changes {D : mg_D} {l : Launch} (hl : l.stackTraces = false) {M : mg_M} {a₀ b₀ : Nat} {n₀ : Int} (ka : kd M a₀ = 8) (kb : kd M b₀ = 8) (na : n₀ ≤ ln M a₀) (nb : n₀ ≤ ln M b₀) (n0₀ : 0 ≤ n₀ ∧ n₀ ≤ 1000) (hab : a₀ ≠ b₀) : mg_Mt D l 201 [.inr (.inl a₀), .inr (.inl b₀), .inl n₀] M (fun v₀ N => v₀ = none ∧ mm_f (fun c₀ k₀ => (c₀ = a₀ ∨ c₀ = b₀) ∧ (k₀ : Int) < n₀) M N ∧ ∀ k₀ : Nat, (k₀ : Int) < n₀ → gi N a₀ k₀ = gi M b₀ k₀ ∧ gi N b₀ k₀ = gi M a₀ k₀) mg_no := by
  refine mg_of2 hl ok_X6_changes al_X6_changes rfl (fun K hK₀ => ?_)
  have L1 : ∀ N, mm_f (fun c₀ k₀ => (c₀ = a₀ ∨ c₀ = b₀) ∧ (k₀ : Int) < 0) M N ∧ (∀ k₀ : Nat, (k₀ : Int) < 0 → gi N a₀ k₀ = gi M b₀ k₀ ∧ gi N b₀ k₀ = gi M a₀ k₀) → K 2 [(0, Sum.inr (Sum.inl a₀)), (1, Sum.inr (Sum.inl b₀)), (2, Sum.inl n₀), (3, Sum.inl 0)] [] N 0 := by
    refine mh_for (P := fun j₀ N => mm_f (fun c₀ k₀ => (c₀ = a₀ ∨ c₀ = b₀) ∧ (k₀ : Int) < j₀) M N ∧ (∀ k₀ : Nat, (k₀ : Int) < j₀ → gi N a₀ k₀ = gi M b₀ k₀ ∧ gi N b₀ k₀ = gi M a₀ k₀)) (G := fun j₀ N => K 2 [(0, Sum.inr (Sum.inl a₀)), (1, Sum.inr (Sum.inl b₀)), (2, Sum.inl n₀), (3, Sum.inl j₀)] [] N 0) (hi := n₀) (by omega) ?_ ?_
    · rintro N ⟨f₀, h₀⟩
      have Q₀ : (none : Option mg_V) = none ∧ mm_f (fun c₀ k₀ => (c₀ = a₀ ∨ c₀ = b₀) ∧ (k₀ : Int) < n₀) M N ∧ ∀ k₀ : Nat, (k₀ : Int) < n₀ → gi N a₀ k₀ = gi M b₀ k₀ ∧ gi N b₀ k₀ = gi M a₀ k₀ := ⟨rfl, f₀, h₀⟩
      refine hK₀ _ _ _ _ _ ?_
      (repeat' (((conv => whnf); first | assumption | refine And.intro (by first | assumption | omega | (simp only [true_and, kd_si, ln_si]; first | done | assumption | omega)) ?_ | (refine And.intro (fun _ => ?_) (fun _ => ?_) <;> first | (exfalso; omega) | skip) | intro _ | fail)))
    · rintro j₀ N h1 h2 ⟨f₀, h₀⟩ nex
      have q1₀ : kd N a₀ = 8 := (f₀.1 a₀).trans ka
      have q2₀ : kd N b₀ = 8 := (f₀.1 b₀).trans kb
      have q3₀ := f₀.2.1 a₀
      have q4₀ := f₀.2.1 b₀
      have e1₀ := mm_f_gi f₀ a₀ j₀.toNat (by omega)
      have e2₀ := mm_f_gi f₀ b₀ j₀.toNat (by omega)
      have w₀ : ∀ P, P = si (si N a₀ j₀.toNat (gi M b₀ j₀.toNat)) b₀ j₀.toNat (gi M a₀ j₀.toNat) → K 2 [(0, Sum.inr (Sum.inl a₀)), (1, Sum.inr (Sum.inl b₀)), (2, Sum.inl n₀), (3, Sum.inl (j₀ + 1))] [] P 0 := by
        intro P hP
        subst hP
        refine nex _ ⟨mm_f_si (mm_f_si (mm_f_mono f₀ (fun c₀ k₀ z₀ => by omega)) (by omega)) (by omega), fun k₀ hk => ?_⟩
        by_cases e₀ : k₀ = j₀.toNat
        · rw [gi_si, if_neg (by omega), gi_si, if_pos ⟨rfl, e₀⟩, gi_si, if_pos ⟨rfl, e₀⟩, e₀]
          exact ⟨rfl, rfl⟩
        · rw [gi_si, if_neg (by omega), gi_si, if_neg (by omega), gi_si, if_neg (by omega), gi_si, if_neg (by omega)]
          exact h₀ k₀ (by omega)
      clear nex
      refine hK₀ _ _ _ _ _ ?_
      (repeat' (((conv => whnf); first | assumption | refine And.intro (by first | assumption | omega | (simp only [true_and, kd_si, ln_si]; first | done | assumption | omega)) ?_ | (refine And.intro (fun _ => ?_) (fun _ => ?_) <;> first | (exfalso; omega) | skip) | intro _ | fail)))
      all_goals ((conv => whnf); exact w₀ _ (by rw [e1₀, e2₀]))
  have w₀ := L1 M ⟨mm_f_rfl, fun k₀ hk => by omega⟩
  refine hK₀ _ _ _ _ _ ?_
  (repeat' (((conv => whnf); first | assumption | refine And.intro (by first | assumption | omega | (simp only [true_and, kd_si, ln_si]; first | done | assumption | omega)) ?_ | (refine And.intro (fun _ => ?_) (fun _ => ?_) <;> first | (exfalso; omega) | skip) | intro _ | fail)))
