abbrev mh_rg (R C r₀ c₀ : Int) : Prop := (0 ≤ r₀ ∧ r₀ < R) ∧ (0 ≤ c₀ ∧ c₀ < C)
def mm_in (M : mg_M) (m₀ : Nat) : Prop := ∀ r₀ c₀, mh_rg (gi M m₀ 1) (gi M m₀ 2) r₀ c₀ → 0 ≤ mi M (m₀ + 1) r₀ c₀ ∧ mi M (m₀ + 1) r₀ c₀ < 140
abbrev mm_sS (m₀ : Nat) : Nat → Nat → Prop := fun b₀ k₀ => b₀ = m₀ + 1 ∨ b₀ = m₀ + 2 ∨ b₀ = m₀ + 3 ∨ b₀ = m₀ + 12 ∨ b₀ = m₀ + 16 ∨ (b₀ = m₀ ∧ k₀ = 4)
def mm_set (M N : mg_M) (m₀ : Nat) : Prop := mm_f (mm_sS m₀) M N ∧ (0 ≤ gi N m₀ 4 ∧ gi N m₀ 4 ≤ 120) ∧ (∀ r₀ c₀, mh_rg (gi M m₀ 1) (gi M m₀ 2) r₀ c₀ → 0 ≤ mi N (m₀ + 1) r₀ c₀ ∧ mi N (m₀ + 1) r₀ c₀ < gi N m₀ 4) ∧ (∀ k₀, 0 ≤ k₀ → k₀ < gi N m₀ 4 → ∃ r₀ c₀, mh_rg (gi M m₀ 1) (gi M m₀ 2) r₀ c₀ ∧ mi N (m₀ + 1) r₀ c₀ = k₀) ∧ (∀ r₀ c₀ r' c', mh_rg (gi M m₀ 1) (gi M m₀ 2) r₀ c₀ → mh_rg (gi M m₀ 1) (gi M m₀ 2) r' c' → (mi N (m₀ + 1) r₀ c₀ = mi N (m₀ + 1) r' c' ↔ mi M (m₀ + 1) r₀ c₀ = mi M (m₀ + 1) r' c')) ∧ (∀ r₀ c₀, mh_rg (gi M m₀ 1) (gi M m₀ 2) r₀ c₀ → gi N (m₀ + 2) (mi N (m₀ + 1) r₀ c₀).toNat = gi M (m₀ + 2) (mi M (m₀ + 1) r₀ c₀).toNat ∧ gi N (m₀ + 3) (mi N (m₀ + 1) r₀ c₀).toNat = gi M (m₀ + 3) (mi M (m₀ + 1) r₀ c₀).toNat)
/-- the numbers₀ given to the squares in front of one -/
def mm_lp (M N : mg_M) (m₀ : Nat) (r₀ c₀ : Int) : Prop := mm_f (fun b₀ k₀ => b₀ = m₀ + 12 ∨ (b₀ = m₀ ∧ k₀ = 4)) M N ∧ (0 ≤ gi N m₀ 4 ∧ gi N m₀ 4 ≤ 10 * r₀ + c₀) ∧ (∀ k₀ : Nat, k₀ < 140 → gi N (m₀ + 12) k₀ = -1 ∨ (0 ≤ gi N (m₀ + 12) k₀ ∧ gi N (m₀ + 12) k₀ < gi N m₀ 4)) ∧ (∀ k₀ j₀ : Nat, k₀ < 140 → j₀ < 140 → gi N (m₀ + 12) k₀ = gi N (m₀ + 12) j₀ → gi N (m₀ + 12) k₀ = -1 ∨ k₀ = j₀) ∧ (∀ x₀, 0 ≤ x₀ → x₀ < gi N m₀ 4 → mh_ex 0 0 (gi M m₀ 2) (fun i₀ j₀ => gi N (m₀ + 12) (mi M (m₀ + 1) i₀ j₀).toNat = x₀) r₀ c₀) ∧ (∀ i₀ j₀, 0 ≤ i₀ ∧ 0 ≤ j₀ ∧ j₀ < gi M m₀ 2 ∧ (i₀ < r₀ ∨ (i₀ = r₀ ∧ j₀ < c₀)) → gi N (m₀ + 12) (mi M (m₀ + 1) i₀ j₀).toNat ≠ -1)
theorem mm_lp_new {M N : mg_M} {m₀ : Nat} {r₀ c₀ : Int} (hin : mm_in M m₀) (rc : mm_rc M m₀) (hr : 0 ≤ r₀ ∧ r₀ < gi M m₀ 1) (hc₀ : 0 ≤ c₀ ∧ c₀ < gi M m₀ 2) (h₀ : mm_lp M N m₀ r₀ c₀) (hn : gi N (m₀ + 12) (mi M (m₀ + 1) r₀ c₀).toNat = -1) : mm_lp M (si (si N (m₀ + 12) (mi M (m₀ + 1) r₀ c₀).toNat (gi N m₀ 4)) m₀ 4 (gi N m₀ 4 + 1)) m₀ r₀ (c₀ + 1) := by
  obtain ⟨f₀, h1, h2, h3, h4, h5⟩ := h₀
  have hi := hin r₀ c₀ ⟨hr, hc₀⟩
  unfold mm_rc at rc
  have e4₀ : gi (si (si N (m₀ + 12) (mi M (m₀ + 1) r₀ c₀).toNat (gi N m₀ 4)) m₀ 4 (gi N m₀ 4 + 1)) m₀ 4 = gi N m₀ 4 + 1 := by rw [gi_si, if_pos ⟨rfl, rfl⟩]
  have em : ∀ k₀ : Nat, gi (si (si N (m₀ + 12) (mi M (m₀ + 1) r₀ c₀).toNat (gi N m₀ 4)) m₀ 4 (gi N m₀ 4 + 1)) (m₀ + 12) k₀ = if k₀ = (mi M (m₀ + 1) r₀ c₀).toNat then gi N m₀ 4 else gi N (m₀ + 12) k₀ := by
    intro k₀
    rw [gi_si, if_neg (by omega), gi_si]
    simp only [true_and]
  refine ⟨mm_f_si (mm_f_si f₀ (Or.inl rfl)) (Or.inr ⟨rfl, rfl⟩), by omega, ?_, ?_, ?_, ?_⟩
  · intro k₀ hk
    have := h2 k₀ hk
    rw [em, e4₀]
    split <;> omega
  · intro k₀ j₀ hk hj
    have := h2 k₀ hk
    have := h2 j₀ hj
    have := h3 k₀ j₀ hk hj
    rw [em, em]
    (repeat' split) <;> omega
  · intro x₀ hx hx2
    rw [e4₀] at hx2
    rw [mh_exC hr.1 hc₀]
    by_cases e₀ : x₀ = gi N m₀ 4
    · refine Or.inr ?_
      show gi _ (m₀ + 12) _ = x₀
      rw [em, if_pos rfl, e₀]
    · refine Or.inl ?_
      obtain ⟨i₀, j₀, hij, hv⟩ := h4 x₀ hx (by omega)
      refine ⟨i₀, j₀, hij, ?_⟩
      show gi _ (m₀ + 12) _ = x₀
      have := h5 i₀ j₀ hij
      rw [em, if_neg (fun q₀ => by rw [q₀] at this; exact this hn)]
      exact hv
  · intro i₀ j₀ hij
    rw [em]
    split
    · omega
    · by_cases e₀ : i₀ = r₀ ∧ j₀ = c₀
      · exfalso
        rename_i hne
        exact hne (by rw [e₀.1, e₀.2])
      · exact h5 i₀ j₀ (by omega)
theorem mm_lp_old {M N : mg_M} {m₀ : Nat} {r₀ c₀ : Int} (hr : 0 ≤ r₀ ∧ r₀ < gi M m₀ 1) (hc₀ : 0 ≤ c₀ ∧ c₀ < gi M m₀ 2) (h₀ : mm_lp M N m₀ r₀ c₀) (hn : gi N (m₀ + 12) (mi M (m₀ + 1) r₀ c₀).toNat ≠ -1) : mm_lp M N m₀ r₀ (c₀ + 1) := by
  obtain ⟨f₀, h1, h2, h3, h4, h5⟩ := h₀
  refine ⟨f₀, by omega, h2, h3, fun x₀ hx hx2 => ?_, fun i₀ j₀ hij => ?_⟩
  · rw [mh_exC hr.1 hc₀]
    exact Or.inl (h4 x₀ hx hx2)
  · by_cases e₀ : i₀ = r₀ ∧ j₀ = c₀
    · rw [e₀.1, e₀.2]; exact hn
    · exact h5 i₀ j₀ (by omega)
theorem mm_lp_row {M N : mg_M} {m₀ : Nat} {r₀ : Int} (rc : mm_rc M m₀) (h₀ : mm_lp M N m₀ r₀ (gi M m₀ 2)) : mm_lp M N m₀ (r₀ + 1) 0 := by
  obtain ⟨f₀, h1, h2, h3, h4, h5⟩ := h₀
  unfold mm_rc at rc
  refine ⟨f₀, by omega, h2, h3, fun x₀ hx hx2 => ?_, fun i₀ j₀ hij => h5 i₀ j₀ (by omega)⟩
  rw [← mh_exR]
  exact h4 x₀ hx hx2
set_option maxRecDepth 100000 in
theorem cX6_settles {D : mg_D} {l : Launch} (hl : l.stackTraces = false) {M : mg_M} {m₀ : Nat} (st₀ : mm_st M m₀) (rc : mm_rc M m₀) (hin : mm_in M m₀) : mg_Mt D l 129 [.inr (.inl m₀)] M (fun v₀ N => v₀ = none ∧ mm_set M N m₀) mg_no := by
  refine mg_of2 hl ok_X6_settles al_X6_settles rfl (fun K hK₀ => ?_)
  have n12 : ¬ (m₀ = m₀ + 12) := by omega
  have rc' := rc
  unfold mm_rc at rc'
  obtain ⟨a5, b5, c5₀⟩ := st₀.2.1.1
  obtain ⟨a20, b20, c20₀⟩ := st₀.2.2.2.2.1
  have L3₀ : ∀ N4₀ : mg_M, mm_f (mm_sS m₀) M N4₀ → (∀ k₀, gi N4₀ (m₀ + 1) k₀ = gi M (m₀ + 1) k₀) → (0 ≤ gi N4₀ m₀ 4 ∧ gi N4₀ m₀ 4 ≤ 120) → (∀ r₀ c₀, mh_rg (gi M m₀ 1) (gi M m₀ 2) r₀ c₀ → 0 ≤ gi N4₀ (m₀ + 12) (mi M (m₀ + 1) r₀ c₀).toNat ∧ gi N4₀ (m₀ + 12) (mi M (m₀ + 1) r₀ c₀).toNat < gi N4₀ m₀ 4) → (∀ k₀, 0 ≤ k₀ → k₀ < gi N4₀ m₀ 4 → ∃ r₀ c₀, mh_rg (gi M m₀ 1) (gi M m₀ 2) r₀ c₀ ∧ gi N4₀ (m₀ + 12) (mi M (m₀ + 1) r₀ c₀).toNat = k₀) → (∀ r₀ c₀ r' c', mh_rg (gi M m₀ 1) (gi M m₀ 2) r₀ c₀ → mh_rg (gi M m₀ 1) (gi M m₀ 2) r' c' → (gi N4₀ (m₀ + 12) (mi M (m₀ + 1) r₀ c₀).toNat = gi N4₀ (m₀ + 12) (mi M (m₀ + 1) r' c').toNat ↔ mi M (m₀ + 1) r₀ c₀ = mi M (m₀ + 1) r' c')) → (∀ r₀ c₀, mh_rg (gi M m₀ 1) (gi M m₀ 2) r₀ c₀ → gi N4₀ (m₀ + 2) (gi N4₀ (m₀ + 12) (mi M (m₀ + 1) r₀ c₀).toNat).toNat = gi M (m₀ + 2) (mi M (m₀ + 1) r₀ c₀).toNat ∧ gi N4₀ (m₀ + 3) (gi N4₀ (m₀ + 12) (mi M (m₀ + 1) r₀ c₀).toNat).toNat = gi M (m₀ + 3) (mi M (m₀ + 1) r₀ c₀).toNat) → K 114 [(0, Sum.inr (Sum.inl m₀)), (1, Sum.inl 0)] [] N4₀ 0 := by
    intro N4₀ f4₀ e1₀ h4 hm₀ hs hi hcs
    refine mh_for2d (P := fun r₀ c₀ N => mm_f (fun b₀ _ => b₀ = m₀ + 1) N4₀ N ∧ ∀ i₀ j₀, mh_rg (gi M m₀ 1) (gi M m₀ 2) i₀ j₀ → mi N (m₀ + 1) i₀ j₀ = if i₀ < r₀ ∨ (i₀ = r₀ ∧ j₀ < c₀) then gi N4₀ (m₀ + 12) (mi M (m₀ + 1) i₀ j₀).toNat else mi M (m₀ + 1) i₀ j₀) (G1 := fun r₀ N => K 114 [(0, Sum.inr (Sum.inl m₀)), (1, Sum.inl r₀)] [] N 0) (G2 := fun r₀ c₀ N => K 124 [(0, Sum.inr (Sum.inl m₀)), (1, Sum.inl r₀), (2, Sum.inl c₀)] [] N 0) (R := gi M m₀ 1) (C := gi M m₀ 2) (r0 := 0) (c0 := 0) (by omega) (by omega) ?_ ?_ ?_ ?_ N4₀ ⟨mm_f_rfl, ?_⟩
    · intro N ⟨f₀, v₀⟩
      have f' : mm_f (mm_sS m₀) M N := mm_f_tr f4₀ (mm_f_mono f₀ (fun b₀ k₀ h₀ => by omega))
      have k7₀ := (mm_f_st f' st₀).1
      have t1₀ := mm_f_gi f' m₀ 1 (by omega)
      have t4₀ := mm_f_gi f₀ m₀ 4 (by omega)
      have v' : ∀ i₀ j₀, mh_rg (gi M m₀ 1) (gi M m₀ 2) i₀ j₀ → mi N (m₀ + 1) i₀ j₀ = gi N4₀ (m₀ + 12) (mi M (m₀ + 1) i₀ j₀).toNat := fun i₀ j₀ h₀ => by rw [v₀ i₀ j₀ h₀, if_pos (by omega)]
      have Q₀ : (none : Option mg_V) = none ∧ mm_set M N m₀ := by
       refine ⟨rfl, f', by omega, fun r₀ c₀ h₀ => ?_, fun k₀ h1 h2 => ?_, fun r₀ c₀ r' c' h₀ h' => ?_, fun r₀ c₀ h₀ => ?_⟩
       · rw [v' r₀ c₀ h₀, t4₀]; exact hm₀ r₀ c₀ h₀
       · obtain ⟨r₀, c₀, h₀, e₀⟩ := hs k₀ h1 (by omega)
         exact ⟨r₀, c₀, h₀, by rw [v' r₀ c₀ h₀]; exact e₀⟩
       · rw [v' r₀ c₀ h₀, v' r' c' h']; exact hi r₀ c₀ r' c' h₀ h'
       · rw [v' r₀ c₀ h₀, mm_f_gi f₀ (m₀ + 2) _ (by omega), mm_f_gi f₀ (m₀ + 3) _ (by omega)]; exact hcs r₀ c₀ h₀
      refine hK₀ _ _ _ _ _ ?_
      (repeat' (((conv => whnf); first | assumption | refine And.intro (by first | assumption | omega | (simp only [a5, b5, c5₀, a20, b20, c20₀, true_and, gr_si, kd_si, ln_si, gi_si, n12, false_and, if_false]; first | done | assumption | omega)) ?_ | (refine And.intro (fun _ => ?_) (fun _ => ?_) <;> first | (exfalso; omega) | skip) | intro _ | fail)))
    · intro r₀ N h1 h2 ⟨f₀, v₀⟩ g₀
      have f' : mm_f (mm_sS m₀) M N := mm_f_tr f4₀ (mm_f_mono f₀ (fun b₀ k₀ h₀ => by omega))
      have k7₀ := (mm_f_st f' st₀).1
      have t1₀ := mm_f_gi f' m₀ 1 (by omega)
      refine hK₀ _ _ _ _ _ ?_
      (repeat' (((conv => whnf); first | assumption | refine And.intro (by first | assumption | omega | (simp only [a5, b5, c5₀, a20, b20, c20₀, true_and, gr_si, kd_si, ln_si, gi_si, n12, false_and, if_false]; first | done | assumption | omega)) ?_ | (refine And.intro (fun _ => ?_) (fun _ => ?_) <;> first | (exfalso; omega) | skip) | intro _ | fail)))
      all_goals ((conv => whnf); exact g₀)
    · intro r₀ N h1 h2 ⟨f₀, v₀⟩
      have f' : mm_f (mm_sS m₀) M N := mm_f_tr f4₀ (mm_f_mono f₀ (fun b₀ k₀ h₀ => by omega))
      have k7₀ := (mm_f_st f' st₀).1
      have t2₀ := mm_f_gi f' m₀ 2 (by omega)
      refine ⟨⟨f₀, fun i₀ j₀ h₀ => ?_⟩, fun g₀ => ?_⟩
      · rw [v₀ i₀ j₀ h₀]
        (repeat' split) <;> first | rfl | omega
      · refine hK₀ _ _ _ _ _ ?_
        (repeat' (((conv => whnf); first | assumption | refine And.intro (by first | assumption | omega | (simp only [a5, b5, c5₀, a20, b20, c20₀, true_and, gr_si, kd_si, ln_si, gi_si, n12, false_and, if_false]; first | done | assumption | omega)) ?_ | (refine And.intro (fun _ => ?_) (fun _ => ?_) <;> first | (exfalso; omega) | skip) | intro _ | fail)))
        all_goals ((conv => whnf); exact g₀)
    · intro r₀ c₀ N h1 h2 h3 h4' ⟨f₀, v₀⟩ nex
      have f' : mm_f (mm_sS m₀) M N := mm_f_tr f4₀ (mm_f_mono f₀ (fun b₀ k₀ h₀ => by omega))
      have st' := mm_f_st f' st₀
      have k7₀ := st'.1
      have t2₀ := mm_f_gi f' m₀ 2 (by omega)
      have x0₀ := v₀ r₀ c₀ ⟨⟨h1, h2⟩, h3, h4'⟩
      rw [if_neg (by omega)] at x0₀
      have x1₀ := hin r₀ c₀ ⟨⟨h1, h2⟩, h3, h4'⟩
      have x2₀ := mm_f_gi f₀ (m₀ + 12) (mi M (m₀ + 1) r₀ c₀).toNat (by omega)
      obtain ⟨a5, b5, c5₀⟩ := st'.2.1.1
      obtain ⟨a20, b20, c20₀⟩ := st'.2.2.2.2.1
      have y0 : 0 ≤ 10 * r₀ + c₀ ∧ 10 * r₀ + c₀ < 120 := by omega
      refine hK₀ _ _ _ _ _ ?_
      (repeat' (((conv => whnf); first | assumption | refine And.intro (by first | assumption | omega | (simp only [a5, b5, c5₀, a20, b20, c20₀, true_and, gr_si, kd_si, ln_si, gi_si, n12, false_and, if_false]; first | done | assumption | omega)) ?_ | (refine And.intro (fun _ => ?_) (fun _ => ?_) <;> first | (exfalso; omega) | skip) | intro _ | fail)))
      all_goals (try ((conv => whnf); (refine Exists.intro _ (Exists.intro _ (And.intro (cX6_id hl st' (by omega) (by omega)) (And.intro ?_ (fun _ _ h₀ => h₀.elim)))); rintro _ _ ⟨rfl, e₀⟩; have e2₀ := e₀.symm; clear e₀; subst e2₀); (repeat' (((conv => whnf); first | assumption | refine And.intro (by first | assumption | omega | (simp only [a5, b5, c5₀, a20, b20, c20₀, true_and, gr_si, kd_si, ln_si, gi_si, n12, false_and, if_false]; first | done | assumption | omega)) ?_ | (refine And.intro (fun _ => ?_) (fun _ => ?_) <;> first | (exfalso; omega) | skip) | intro _ | fail)))))
      (conv => whnf)
      rw [a5, a20, x0₀, x2₀]
      refine nex _ ⟨mm_f_si f₀ rfl, ?_⟩
      intro i₀ j₀ h₀
      have := v₀ i₀ j₀ h₀
      unfold mi at this ⊢
      rw [gi_si]
      by_cases e₀ : i₀ = r₀ ∧ j₀ = c₀
      · rw [e₀.1, e₀.2, if_pos ⟨rfl, rfl⟩, if_pos (by omega)]
      · rw [if_neg (by omega), this]
        (repeat' split) <;> first | rfl | omega
    · intro i₀ j₀ h₀
      rw [if_neg (by omega)]
      exact e1₀ _
  have L2₀ : ∀ N1 : mg_M, mm_f (fun b₀ k₀ => b₀ = m₀ + 12 ∨ (b₀ = m₀ ∧ k₀ = 4)) M N1 → (∀ k₀ : Nat, k₀ < 140 → gi N1 (m₀ + 12) k₀ = -1) → gi N1 m₀ 4 = 0 → K 29 [(0, Sum.inr (Sum.inl m₀)), (1, Sum.inl 0)] [] N1 0 := by
    intro N1 f1₀ hm₀ h4
    refine mh_for2d (P := fun r₀ c₀ N => mm_lp M N m₀ r₀ c₀) (G1 := fun r₀ N => K 29 [(0, Sum.inr (Sum.inl m₀)), (1, Sum.inl r₀)] [] N 0) (G2 := fun r₀ c₀ N => K 39 [(0, Sum.inr (Sum.inl m₀)), (1, Sum.inl r₀), (2, Sum.inl c₀)] [] N 0) (R := gi M m₀ 1) (C := gi M m₀ 2) (r0 := 0) (c0 := 0) (by omega) (by omega) ?_ ?_ ?_ ?_ N1 ⟨f1₀, by omega, fun k₀ hk => Or.inl (hm₀ k₀ hk), fun k₀ j₀ hk hj _ => Or.inl (hm₀ k₀ hk), fun x₀ h1 h2 => by omega, fun i₀ j₀ h₀ => by omega⟩
    · intro N ⟨f₀, w1₀, w2₀, w3₀, w4₀, w5⟩
      have st' := mm_f_st f₀ st₀
      have k7₀ := st'.1
      have t1₀ := mm_f_gi f₀ m₀ 1 (by omega)
      obtain ⟨a6, b6, c6₀⟩ := st'.2.1.2.1
      obtain ⟨a7, b7, c7₀⟩ := st'.2.1.2.2.1
      have mpp : mm_mp N m₀ := ⟨by omega, w2₀, w3₀⟩
      refine hK₀ _ _ _ _ _ ?_
      (repeat' (((conv => whnf); first | assumption | refine And.intro (by first | assumption | omega | (simp only [a5, b5, c5₀, a20, b20, c20₀, true_and, gr_si, kd_si, ln_si, gi_si, n12, false_and, if_false]; first | done | assumption | omega)) ?_ | (refine And.intro (fun _ => ?_) (fun _ => ?_) <;> first | (exfalso; omega) | skip) | intro _ | fail)))
      (conv => whnf)
      rw [a6]
      refine Exists.intro _ (Exists.intro _ (And.intro (cX6_renames hl st' b6 c6₀ (by omega) (by omega) mpp) (And.intro ?_ (fun _ _ h₀ => h₀.elim))))
      rintro _ N3 ⟨rfl, f3₀, v3⟩
      have st3₀ := mm_f_st f3₀ st'
      have k73 := st3₀.1
      have a73 : gr N3 m₀ 7 = m₀ + 3 := (f3₀.2.2.1 m₀ 7).trans a7
      have mp3 : mm_mp N3 m₀ := by
        have z₀ := fun k₀ => mm_f_gi f3₀ (m₀ + 12) k₀ (by omega)
        have z4 := mm_f_gi f3₀ m₀ 4 (by omega)
        unfold mm_mp
        simp only [z₀, z4]
        exact mpp
      (repeat' (((conv => whnf); first | assumption | refine And.intro (by first | assumption | omega | (simp only [a5, b5, c5₀, a20, b20, c20₀, true_and, gr_si, kd_si, ln_si, gi_si, n12, false_and, if_false]; first | done | assumption | omega)) ?_ | (refine And.intro (fun _ => ?_) (fun _ => ?_) <;> first | (exfalso; omega) | skip) | intro _ | fail)))
      (conv => whnf)
      rw [a73]
      refine Exists.intro _ (Exists.intro _ (And.intro (cX6_renames hl st3₀ ((f3₀.1 _).trans b7) ((f3₀.2.1 _).trans c7₀) (by omega) (by omega) mp3) (And.intro ?_ (fun _ _ h₀ => h₀.elim))))
      rintro _ N4₀ ⟨rfl, f5₀, v5⟩
      (repeat' (((conv => whnf); first | assumption | refine And.intro (by first | assumption | omega | (simp only [a5, b5, c5₀, a20, b20, c20₀, true_and, gr_si, kd_si, ln_si, gi_si, n12, false_and, if_false]; first | done | assumption | omega)) ?_ | (refine And.intro (fun _ => ?_) (fun _ => ?_) <;> first | (exfalso; omega) | skip) | intro _ | fail)))
      (conv => whnf)
      have z12 : ∀ k₀, gi N4₀ (m₀ + 12) k₀ = gi N (m₀ + 12) k₀ := fun k₀ => (mm_f_gi f5₀ (m₀ + 12) k₀ (by omega)).trans (mm_f_gi f3₀ (m₀ + 12) k₀ (by omega))
      have z12' : ∀ k₀, gi N3 (m₀ + 12) k₀ = gi N (m₀ + 12) k₀ := fun k₀ => (mm_f_gi f3₀ (m₀ + 12) k₀ (by omega))
      have z4 : gi N4₀ m₀ 4 = gi N m₀ 4 := (mm_f_gi f5₀ m₀ 4 (by omega)).trans (mm_f_gi f3₀ m₀ 4 (by omega))
      have fA : mm_f (mm_sS m₀) M N4₀ := mm_f_tr (mm_f_tr (mm_f_mono f₀ (fun b₀ k₀ h₀ => by omega)) (mm_f_mono f3₀ (fun b₀ k₀ h₀ => by omega))) (mm_f_mono f5₀ (fun b₀ k₀ h₀ => by omega))
      refine L3₀ N4₀ fA (fun k₀ => ?_) (by omega) (fun r₀ c₀ h₀ => ?_) (fun k₀ q1₀ q2₀ => ?_) (fun r₀ c₀ r' c' h₀ h' => ?_) (fun r₀ c₀ h₀ => ?_)
      · rw [mm_f_gi f5₀ (m₀ + 1) k₀ (by omega), mm_f_gi f3₀ (m₀ + 1) k₀ (by omega), mm_f_gi f₀ (m₀ + 1) k₀ (by omega)]
      · rw [z12, z4]
        have q1₀ := w5 r₀ c₀ (by omega)
        have q2₀ := hin r₀ c₀ h₀
        have q3₀ := w2₀ (mi M (m₀ + 1) r₀ c₀).toNat (by omega)
        omega
      · obtain ⟨r₀, c₀, q3₀, q4₀⟩ := w4₀ k₀ q1₀ (by omega)
        exact ⟨r₀, c₀, by omega, by rw [z12]; exact q4₀⟩
      · rw [z12, z12]
        have q1₀ := w5 r₀ c₀ (by omega)
        have q2₀ := hin r₀ c₀ h₀
        have q3₀ := hin r' c' h'
        have q4₀ := w3₀ (mi M (m₀ + 1) r₀ c₀).toNat (mi M (m₀ + 1) r' c').toNat (by omega) (by omega)
        constructor
        · intro e₀
          have := q4₀ e₀
          omega
        · intro e₀
          rw [e₀]
      · rw [z12]
        have q1₀ := w5 r₀ c₀ (by omega)
        have q2₀ := hin r₀ c₀ h₀
        have g1 := v3 (mi M (m₀ + 1) r₀ c₀).toNat (by omega) q1₀
        have g2 := v5 (mi M (m₀ + 1) r₀ c₀).toNat (by omega) (by rw [z12']; exact q1₀)
        rw [z12'] at g2
        rw [mm_f_gi f5₀ (m₀ + 2) _ (by omega), g1, g2, mm_f_gi f3₀ (m₀ + 3) _ (by omega), mm_f_gi f₀ (m₀ + 2) _ (by omega), mm_f_gi f₀ (m₀ + 3) _ (by omega)]
        exact ⟨rfl, rfl⟩
    · intro r₀ N h1 h2 hp g₀
      have k7₀ := (mm_f_st hp.1 st₀).1
      have t1₀ := mm_f_gi hp.1 m₀ 1 (by omega)
      refine hK₀ _ _ _ _ _ ?_
      (repeat' (((conv => whnf); first | assumption | refine And.intro (by first | assumption | omega | (simp only [a5, b5, c5₀, a20, b20, c20₀, true_and, gr_si, kd_si, ln_si, gi_si, n12, false_and, if_false]; first | done | assumption | omega)) ?_ | (refine And.intro (fun _ => ?_) (fun _ => ?_) <;> first | (exfalso; omega) | skip) | intro _ | fail)))
      all_goals ((conv => whnf); exact g₀)
    · intro r₀ N h1 h2 hp
      have k7₀ := (mm_f_st hp.1 st₀).1
      have t2₀ := mm_f_gi hp.1 m₀ 2 (by omega)
      refine ⟨mm_lp_row rc hp, fun g₀ => ?_⟩
      refine hK₀ _ _ _ _ _ ?_
      (repeat' (((conv => whnf); first | assumption | refine And.intro (by first | assumption | omega | (simp only [a5, b5, c5₀, a20, b20, c20₀, true_and, gr_si, kd_si, ln_si, gi_si, n12, false_and, if_false]; first | done | assumption | omega)) ?_ | (refine And.intro (fun _ => ?_) (fun _ => ?_) <;> first | (exfalso; omega) | skip) | intro _ | fail)))
      all_goals ((conv => whnf); exact g₀)
    · intro r₀ c₀ N h1 h2 h3 h4' hp nex
      have f₀ := hp.1
      have st' := mm_f_st f₀ st₀
      have k7₀ := st'.1
      have t2₀ := mm_f_gi f₀ m₀ 2 (by omega)
      have x0₀ : mi N (m₀ + 1) r₀ c₀ = mi M (m₀ + 1) r₀ c₀ := mm_f_gi f₀ (m₀ + 1) _ (by omega)
      have x1₀ := hin r₀ c₀ ⟨⟨h1, h2⟩, h3, h4'⟩
      have x4₀ := hp.2.1
      obtain ⟨a20, b20, c20₀⟩ := st'.2.2.2.2.1
      refine hK₀ _ _ _ _ _ ?_
      (repeat' (((conv => whnf); first | assumption | refine And.intro (by first | assumption | omega | (simp only [a5, b5, c5₀, a20, b20, c20₀, true_and, gr_si, kd_si, ln_si, gi_si, n12, false_and, if_false]; first | done | assumption | omega)) ?_ | (refine And.intro (fun _ => ?_) (fun _ => ?_) <;> first | (exfalso; omega) | skip) | intro _ | fail)))
      (conv => whnf)
      (refine Exists.intro _ (Exists.intro _ (And.intro (cX6_id hl st' (by omega) (by omega)) (And.intro ?_ (fun _ _ h₀ => h₀.elim)))); rintro _ _ ⟨rfl, e₀⟩; have e2₀ := e₀.symm; clear e₀; subst e2₀)
      (conv => whnf)
      rw [x0₀]
      (repeat' (((conv => whnf); first | assumption | refine And.intro (by first | assumption | omega | (simp only [a5, b5, c5₀, a20, b20, c20₀, true_and, gr_si, kd_si, ln_si, gi_si, n12, false_and, if_false]; first | done | assumption | omega)) ?_ | (refine And.intro (fun _ => ?_) (fun _ => ?_) <;> first | (exfalso; omega) | skip) | intro _ | fail)))
      all_goals ((conv => whnf); skip)
      all_goals (try simp only [a20, gr_si, gi_si] at *)
      · exact nex _ (mm_lp_old ⟨h1, h2⟩ ⟨h3, h4'⟩ hp (by omega))
      · refine nex _ ?_
        have := mm_lp_new hin rc ⟨h1, h2⟩ ⟨h3, h4'⟩ hp (by omega)
        have e9₀ : ¬ (m₀ = m₀ + 12) := by omega
        first | exact this | (simp only [e9₀, false_and, if_false] at *; exact this)
  have k7₀ := st₀.1
  refine hK₀ _ _ _ _ _ ?_
  (repeat' (((conv => whnf); first | assumption | refine And.intro (by first | assumption | omega | (simp only [a5, b5, c5₀, a20, b20, c20₀, true_and, gr_si, kd_si, ln_si, gi_si, n12, false_and, if_false]; first | done | assumption | omega)) ?_ | (refine And.intro (fun _ => ?_) (fun _ => ?_) <;> first | (exfalso; omega) | skip) | intro _ | fail)))
  (conv => whnf)
  refine mh_for (P := fun j₀ N => mm_f (fun b₀ k₀ => b₀ = m₀ + 12 ∨ (b₀ = m₀ ∧ k₀ = 4)) M N ∧ (∀ k₀ : Nat, (k₀ : Int) < j₀ → gi N (m₀ + 12) k₀ = -1)) (G := fun j₀ N => K 2 [(0, Sum.inr (Sum.inl m₀)), (1, Sum.inl j₀)] [] N 0) (hi := 140) (by omega) ?_ ?_ M ⟨mm_f_rfl, fun k₀ h₀ => by omega⟩
  · intro N ⟨f₀, v₀⟩
    have k7₀ := (mm_f_st f₀ st₀).1
    refine hK₀ _ _ _ _ _ ?_
    (repeat' (((conv => whnf); first | assumption | refine And.intro (by first | assumption | omega | (simp only [a5, b5, c5₀, a20, b20, c20₀, true_and, gr_si, kd_si, ln_si, gi_si, n12, false_and, if_false]; first | done | assumption | omega)) ?_ | (refine And.intro (fun _ => ?_) (fun _ => ?_) <;> first | (exfalso; omega) | skip) | intro _ | fail)))
    (conv => whnf)
    exact L2₀ _ (mm_f_si f₀ (Or.inr ⟨rfl, rfl⟩)) (fun k₀ hk => by rw [gi_si, if_neg (by omega)]; exact v₀ k₀ (by omega)) (by rw [gi_si, if_pos ⟨rfl, rfl⟩])
  · intro j₀ N h1 h2 ⟨f₀, v₀⟩ nex
    have k7₀ := (mm_f_st f₀ st₀).1
    obtain ⟨a20, b20, c20₀⟩ := (mm_f_st f₀ st₀).2.2.2.2.1
    refine hK₀ _ _ _ _ _ ?_
    (repeat' (((conv => whnf); first | assumption | refine And.intro (by first | assumption | omega | (simp only [a5, b5, c5₀, a20, b20, c20₀, true_and, gr_si, kd_si, ln_si, gi_si, n12, false_and, if_false]; first | done | assumption | omega)) ?_ | (refine And.intro (fun _ => ?_) (fun _ => ?_) <;> first | (exfalso; omega) | skip) | intro _ | fail)))
    (conv => whnf)
    rw [a20]
    refine nex _ ⟨mm_f_si f₀ (Or.inl rfl), fun k₀ hk => ?_⟩
    rw [gi_si]
    by_cases e₀ : k₀ = j₀.toNat
    · rw [if_pos ⟨rfl, e₀⟩]
    · rw [if_neg (by omega)]
      exact v₀ k₀ (by omega)
