/-! what taking cells₀ out₀ of a₀ list leaves, told₀ by the cells' addresses -/
/-- all but the list's order₀ and its size₀ is₀ as₀ it was -/
def mh_cR (M N : mg_M) (c₀ : Nat) : Prop := (∀ a₀, kd N a₀ = kd M a₀) ∧ (∀ a₀, ln N a₀ = ln M a₀) ∧ (∀ a₀ k₀, a₀ ≠ c₀ + 1 → gr N a₀ k₀ = gr M a₀ k₀) ∧ nx N = nx M ∧ (∀ a₀ k₀, gl N a₀ k₀ = gl M a₀ k₀) ∧ (∀ a₀ k₀, gd N a₀ k₀ = gd M a₀ k₀) ∧ (∀ a₀ k₀, ¬ (a₀ = c₀ ∧ k₀ = 0) → gi N a₀ k₀ = gi M a₀ k₀)
theorem mh_cR_rfl {M : mg_M} {c₀ : Nat} : mh_cR M M c₀ := ⟨fun _ => rfl, fun _ => rfl, fun _ _ _ => rfl, rfl, fun _ _ => rfl, fun _ _ => rfl, fun _ _ _ => rfl⟩
theorem mh_cR_tr {M N P : mg_M} {c₀ : Nat} (f₀ : mh_cR M N c₀) (g₀ : mh_cR N P c₀) : mh_cR M P c₀ := by
  obtain ⟨a1₀, a2, a3, a4, a5, a6, a7⟩ := f₀
  obtain ⟨b1, b2, b3, b4, b5, b6, b7⟩ := g₀
  exact ⟨fun a₀ => (b1 a₀).trans (a1₀ a₀), fun a₀ => (b2 a₀).trans (a2 a₀), fun a₀ k₀ h₀ => (b3 a₀ k₀ h₀).trans (a3 a₀ k₀ h₀), b4.trans a4, fun a₀ k₀ => (b5 a₀ k₀).trans (a5 a₀ k₀), fun a₀ k₀ => (b6 a₀ k₀).trans (a6 a₀ k₀), fun a₀ k₀ h₀ => (b7 a₀ k₀ h₀).trans (a7 a₀ k₀ h₀)⟩
theorem mh_cR_rm {M : mg_M} {c₀ i₀ : Nat} : mh_cR M (mh_rm M c₀ i₀) c₀ := by
  refine ⟨fun _ => rfl, fun _ => rfl, fun a₀ k₀ h₀ => ?_, rfl, fun _ _ => rfl, fun _ _ => rfl, fun a₀ k₀ h₀ => ?_⟩
  · rw [mh_rm_gr, if_neg (fun q₀ => h₀ q₀.1), if_neg (fun q₀ => h₀ q₀.1)]
  · rw [mh_rm_gi, if_neg h₀]
theorem mh_rem {c₀ : Nat} {P : mg_M → Nat → Bool} {Q₀ : Nat → Bool} {M0 : mg_M} {F₀ : Nat → mg_M → mg_M} (h0 : ∀ M, F₀ 0 M = M) (hs : ∀ (n₀ : Nat) (M : mg_M), F₀ (n₀ + 1) M = F₀ n₀ (bif P M (gr M (c₀ + 1) n₀) then mh_rm M c₀ n₀ else M)) (hP : ∀ X₀, mh_cR M0 X₀ c₀ → ∀ a₀, c₀ < a₀ → P X₀ a₀ = Q₀ a₀) :
    ∀ (n₀ : Nat) (M : mg_M), mh_cR M0 M c₀ → mg_cL M c₀ → (n₀ : Int) ≤ gi M c₀ 0 → mh_cR M (F₀ n₀ M) c₀ ∧ mg_cL (F₀ n₀ M) c₀ ∧ (∀ i₀ : Nat, (i₀ : Int) < gi (F₀ n₀ M) c₀ 0 → ∃ j₀ : Nat, (j₀ : Int) < gi M c₀ 0 ∧ gr (F₀ n₀ M) (c₀ + 1) i₀ = gr M (c₀ + 1) j₀ ∧ (j₀ < n₀ → Q₀ (gr M (c₀ + 1) j₀) = false)) ∧ (∀ j₀ : Nat, (j₀ : Int) < gi M c₀ 0 → (j₀ < n₀ → Q₀ (gr M (c₀ + 1) j₀) = false) → ∃ i₀ : Nat, (i₀ : Int) < gi (F₀ n₀ M) c₀ 0 ∧ gr (F₀ n₀ M) (c₀ + 1) i₀ = gr M (c₀ + 1) j₀) := by
  intro n₀
  induction n₀ with
  | zero =>
    intro M _ cl₀ _
    rw [h0]
    exact ⟨mh_cR_rfl, cl₀, fun i₀ hi => ⟨i₀, hi, rfl, fun h₀ => absurd h₀ (Nat.not_lt_zero _)⟩, fun j₀ hj _ => ⟨j₀, hj, rfl⟩⟩
  | succ n₀ ih₀ =>
    intro M r₀ cl₀ hm₀
    have z₀ := cl₀.2.2.2.2.2.2.1
    have ga := (cl₀.2.2.2.2.2.2.2.1 n₀ (by omega)).2
    have p₀ := hP M r₀ (gr M (c₀ + 1) n₀) (by omega)
    rw [hs, p₀]
    cases hq : Q₀ (gr M (c₀ + 1) n₀) with
    | false =>
      obtain ⟨i1₀, i2₀, i3₀, i4₀⟩ := ih₀ M r₀ cl₀ (by omega)
      refine ⟨i1₀, i2₀, fun i₀ hi => ?_, fun j₀ hj h₀ => i4₀ j₀ hj (fun k₀ => h₀ (by omega))⟩
      obtain ⟨j₀, j1, j2₀, j3₀⟩ := i3₀ i₀ hi
      refine ⟨j₀, j1, j2₀, fun h₀ => ?_⟩
      by_cases e₀ : j₀ = n₀
      · rw [e₀]; exact hq
      · exact j3₀ (by omega)
    | true =>
      have sz₀ : gi (mh_rm M c₀ n₀) c₀ 0 = gi M c₀ 0 - 1 := by rw [mh_rm_gi, if_pos ⟨rfl, rfl⟩]
      obtain ⟨i1₀, i2₀, i3₀, i4₀⟩ := ih₀ (mh_rm M c₀ n₀) (mh_cR_tr r₀ mh_cR_rm) (mh_rm_cL cl₀ (by omega)) (by omega)
      rw [sz₀] at i3₀ i4₀
      have gm₀ : ∀ j₀ : Nat, (j₀ : Int) < gi M c₀ 0 - 1 → gr (mh_rm M c₀ n₀) (c₀ + 1) j₀ = if j₀ = n₀ then gr M (c₀ + 1) (gi M c₀ 0 - 1).toNat else gr M (c₀ + 1) j₀ := by
        intro j₀ hj
        rw [mh_rm_gr, if_neg (by omega)]
        by_cases e₀ : j₀ = n₀
        · rw [if_pos ⟨rfl, e₀⟩, if_pos e₀]
        · rw [if_neg (fun q₀ => e₀ q₀.2), if_neg e₀]
      refine ⟨mh_cR_tr mh_cR_rm i1₀, i2₀, fun i₀ hi => ?_, fun j₀ hj h₀ => ?_⟩
      · obtain ⟨j₀, j1, j2₀, j3₀⟩ := i3₀ i₀ hi
        have g₀ := gm₀ j₀ j1
        by_cases e₀ : j₀ = n₀
        · rw [if_pos e₀] at g₀
          refine ⟨(gi M c₀ 0 - 1).toNat, by omega, j2₀.trans g₀, fun h₀ => by omega⟩
        · rw [if_neg e₀] at g₀
          refine ⟨j₀, by omega, j2₀.trans g₀, fun h₀ => ?_⟩
          have k₀ := j3₀ (by omega)
          rw [g₀] at k₀
          exact k₀
      · have jn : j₀ ≠ n₀ := by
          intro e₀
          have k₀ := h₀ (by omega)
          rw [e₀, hq] at k₀
          exact Bool.noConfusion k₀
        by_cases e₀ : j₀ = (gi M c₀ 0 - 1).toNat
        · have g₀ := gm₀ n₀ (by omega)
          rw [if_pos rfl, ← e₀] at g₀
          obtain ⟨i₀, hi, k₀⟩ := i4₀ n₀ (by omega) (fun q₀ => by omega)
          exact ⟨i₀, hi, k₀.trans g₀⟩
        · have g₀ := gm₀ j₀ (by omega)
          rw [if_neg jn] at g₀
          obtain ⟨i₀, hi, k₀⟩ := i4₀ j₀ (by omega) (fun q₀ => by rw [g₀]; exact h₀ (by omega))
          exact ⟨i₀, hi, k₀.trans g₀⟩
/-- removeVanished -/
theorem mh_rv_sp {M : mg_M} {c₀ : Nat} (cl₀ : mg_cL M c₀) : mh_cR M (mh_rv c₀ (gi M c₀ 0).toNat M) c₀ ∧ mg_cL (mh_rv c₀ (gi M c₀ 0).toNat M) c₀ ∧ (∀ i₀ : Nat, (i₀ : Int) < gi (mh_rv c₀ (gi M c₀ 0).toNat M) c₀ 0 → ∃ j₀ : Nat, (j₀ : Int) < gi M c₀ 0 ∧ gr (mh_rv c₀ (gi M c₀ 0).toNat M) (c₀ + 1) i₀ = gr M (c₀ + 1) j₀ ∧ mh_va M (gr M (c₀ + 1) j₀) = false) ∧ (∀ j₀ : Nat, (j₀ : Int) < gi M c₀ 0 → mh_va M (gr M (c₀ + 1) j₀) = false → ∃ i₀ : Nat, (i₀ : Int) < gi (mh_rv c₀ (gi M c₀ 0).toNat M) c₀ 0 ∧ gr (mh_rv c₀ (gi M c₀ 0).toNat M) (c₀ + 1) i₀ = gr M (c₀ + 1) j₀) := by
  have z₀ := cl₀.2.2.2.2.2.2.1
  obtain ⟨a₀, b₀, d₀, e₀⟩ := mh_rem (c₀ := c₀) (P := mh_va) (Q₀ := mh_va M) (M0 := M) (F₀ := mh_rv c₀) (fun _ => rfl) (fun _ _ => rfl) (fun X₀ r₀ a₀ h₀ => by unfold mh_va; rw [r₀.2.2.2.2.2.2 a₀ 2 (by omega), r₀.2.2.2.2.2.2 a₀ 3 (by omega)]) (gi M c₀ 0).toNat M mh_cR_rfl cl₀ (by omega)
  refine ⟨a₀, b₀, fun i₀ hi => ?_, fun j₀ hj h₀ => e₀ j₀ hj (fun _ => h₀)⟩
  obtain ⟨j₀, j1, j2₀, j3₀⟩ := d₀ i₀ hi
  exact ⟨j₀, j1, j2₀, j3₀ (by omega)⟩
/-- removeIn -/
theorem mh_ri_sp {M : mg_M} {c₀ b₀ : Nat} (cl₀ : mg_cL M c₀) (hb₀ : b₀ ≠ c₀) : mh_cR M (mh_ri c₀ b₀ (gi M c₀ 0).toNat M) c₀ ∧ mg_cL (mh_ri c₀ b₀ (gi M c₀ 0).toNat M) c₀ ∧ (∀ i₀ : Nat, (i₀ : Int) < gi (mh_ri c₀ b₀ (gi M c₀ 0).toNat M) c₀ 0 → ∃ j₀ : Nat, (j₀ : Int) < gi M c₀ 0 ∧ gr (mh_ri c₀ b₀ (gi M c₀ 0).toNat M) (c₀ + 1) i₀ = gr M (c₀ + 1) j₀ ∧ mh_in M (gr M (c₀ + 1) j₀) b₀ = false) ∧ (∀ j₀ : Nat, (j₀ : Int) < gi M c₀ 0 → mh_in M (gr M (c₀ + 1) j₀) b₀ = false → ∃ i₀ : Nat, (i₀ : Int) < gi (mh_ri c₀ b₀ (gi M c₀ 0).toNat M) c₀ 0 ∧ gr (mh_ri c₀ b₀ (gi M c₀ 0).toNat M) (c₀ + 1) i₀ = gr M (c₀ + 1) j₀) := by
  have z₀ := cl₀.2.2.2.2.2.2.1
  obtain ⟨a₀, b', d₀, e₀⟩ := mh_rem (c₀ := c₀) (P := fun X₀ a₀ => mh_in X₀ a₀ b₀) (Q₀ := fun a₀ => mh_in M a₀ b₀) (M0 := M) (F₀ := mh_ri c₀ b₀) (fun _ => rfl) (fun _ _ => rfl) (fun X₀ r₀ a₀ h₀ => by
    have g₀ := fun a₀ k₀ h₀ => r₀.2.2.2.2.2.2 a₀ k₀ h₀
    show mh_in X₀ a₀ b₀ = mh_in M a₀ b₀
    unfold mh_in
    rw [g₀ a₀ 0 (by omega), g₀ a₀ 1 (by omega), g₀ a₀ 2 (by omega), g₀ a₀ 3 (by omega), g₀ b₀ 0 (by omega), g₀ b₀ 1 (by omega), g₀ b₀ 2 (by omega), g₀ b₀ 3 (by omega)]) (gi M c₀ 0).toNat M mh_cR_rfl cl₀ (by omega)
  refine ⟨a₀, b', fun i₀ hi => ?_, fun j₀ hj h₀ => e₀ j₀ hj (fun _ => h₀)⟩
  obtain ⟨j₀, j1, j2₀, j3₀⟩ := d₀ i₀ hi
  exact ⟨j₀, j1, j2₀, j3₀ (by omega)⟩
