/-! pasting -/
def mh_rcJ (R C : Int) (J₀ : Int → Int → Int) (k₀ T L₀ H₀ W₀ : Int) : Prop := (0 ≤ T ∧ 1 ≤ H₀ ∧ T + H₀ ≤ R) ∧ (0 ≤ L₀ ∧ 1 ≤ W₀ ∧ L₀ + W₀ ≤ C) ∧ ∀ r₀ c₀, 0 ≤ r₀ ∧ r₀ < R → 0 ≤ c₀ ∧ c₀ < C → (J₀ r₀ c₀ = k₀ ↔ (T ≤ r₀ ∧ r₀ < T + H₀) ∧ (L₀ ≤ c₀ ∧ c₀ < L₀ + W₀))
theorem mm_firstJ {M : mg_M} {x₀ : Nat} {R C i₀ T L₀ H₀ W₀ k₀ : Int} (hc₀ : C ≤ 10) (h₀ : mh_rcJ R C (mi M x₀) i₀ T L₀ H₀ W₀) (hk : 0 ≤ k₀ ∧ k₀ < 10 * T + L₀) : R ≤ k₀ / 10 ∨ C ≤ k₀ % 10 ∨ gi M x₀ k₀.toNat ≠ i₀ := by
  obtain ⟨h1, h2, h3⟩ := h₀
  refine Classical.byContradiction (fun q₀ => ?_)
  have q1₀ : k₀ / 10 < R ∧ k₀ % 10 < C := by omega
  have q2₀ : gi M x₀ k₀.toNat = i₀ := Classical.byContradiction (fun z₀ => q₀ (Or.inr (Or.inr z₀)))
  have e₀ : mi M x₀ (k₀ / 10) (k₀ % 10) = i₀ := by
    unfold mi
    rw [show 10 * (k₀ / 10) + k₀ % 10 = k₀ by omega]
    exact q2₀
  have := (h3 (k₀ / 10) (k₀ % 10) (by omega) (by omega)).1 e₀
  omega
theorem mm_firstJ1 {M : mg_M} {x₀ : Nat} {R C i₀ T L₀ H₀ W₀ : Int} (h₀ : mh_rcJ R C (mi M x₀) i₀ T L₀ H₀ W₀) : gi M x₀ (10 * T + L₀).toNat = i₀ := by
  obtain ⟨h1, h2, h3⟩ := h₀
  exact (h3 T L₀ (by omega) (by omega)).2 (by omega)
theorem mh_eml {a₀ b₀ : Int} (ha₀ : 0 ≤ a₀) (hb₀ : 0 < b₀) : a₀ % b₀ ≤ a₀ := by
  have h1 := Int.emod_add_mul_ediv a₀ b₀
  have h2 := Int.mul_nonneg (Int.le_of_lt hb₀) (Int.ediv_nonneg ha₀ (Int.le_of_lt hb₀))
  generalize b₀ * (a₀ / b₀) = z₀ at *
  omega
theorem mh_blk {x₀ d₀ n₀ l : Int} (hx : 0 ≤ x₀ ∧ x₀ < n₀ * d₀) (hd₀ : 0 < d₀) (hl : 0 ≤ l ∧ l < d₀) : 0 ≤ x₀ - x₀ % d₀ + l ∧ x₀ - x₀ % d₀ + l < n₀ * d₀ ∧ (x₀ - x₀ % d₀ + l) % d₀ = l := by
  have h1 := Int.emod_add_mul_ediv x₀ d₀
  have h2 := mh_eml hx.1 hd₀
  have h3 : x₀ / d₀ < n₀ := Int.ediv_lt_of_lt_mul hd₀ hx.2
  have h4 : d₀ * (x₀ / d₀) ≤ d₀ * (n₀ - 1) := Int.mul_le_mul_of_nonneg_left (by omega) (Int.le_of_lt hd₀)
  have h5 : d₀ * (n₀ - 1) = n₀ * d₀ - d₀ := by rw [Int.mul_sub, Int.mul_one, Int.mul_comm]
  have h6 : x₀ - x₀ % d₀ + l = l + d₀ * (x₀ / d₀) := by
    generalize d₀ * (x₀ / d₀) = z₀ at *
    omega
  refine ⟨by omega, ?_, ?_⟩
  · generalize d₀ * (x₀ / d₀) = z₀ at *
    generalize n₀ * d₀ = y₀ at *
    omega
  · rw [h6, Int.add_mul_emod_self_left, Int.emod_eq_of_lt hl.1 hl.2]
set_option maxRecDepth 100000 in
theorem cX6_oldBegin {D : mg_D} {l : Launch} (hl : l.stackTraces = false) {M N : mg_M} {m₀ : Nat} {r₀ c₀ T L₀ H₀ W₀ : Int} (stN₀ : mm_st N m₀) (rc : mm_rc M m₀) (a₀ : mm_as M N m₀) (hr : (0 ≤ r₀ ∧ r₀ < 12) ∧ (0 ≤ c₀ ∧ c₀ < 10)) (hR : mm_rect M m₀ (mi M (m₀ + 1) r₀ c₀) T L₀ H₀ W₀) : mg_Mt D l 186 [.inr (.inl m₀), .inl r₀, .inl c₀] N (fun v₀ P => v₀ = some (.inl (10 * T + L₀)) ∧ P = N) mg_no := by
  refine mg_of2 hl ok_X6_oldBegin al_X6_oldBegin rfl (fun K hK₀ => ?_)
  have k7₀ := stN₀.1
  obtain ⟨a19, b19, c19₀⟩ := stN₀.2.2.2.1
  have rc' := rc
  unfold mm_rc at rc'
  have b₀ := hR.1
  have b2 := hR.2.1
  obtain ⟨q1₀, q2₀, q3₀⟩ := a₀
  have e0₀ : gi N (gr N m₀ 19) (10 * r₀ + c₀).toNat = mi M (m₀ + 1) r₀ c₀ := by rw [a19, q3₀ _ (by omega) (by omega)]; rfl
  have F₀ : K 2 [(0, Sum.inr (Sum.inl m₀)), (1, Sum.inl r₀), (2, Sum.inl c₀), (3, Sum.inl 0)] [] N 0 := by
    refine mh_for (P := fun _ (_ : Unit) => True) (G := fun j₀ _ => K 2 [(0, Sum.inr (Sum.inl m₀)), (1, Sum.inl r₀), (2, Sum.inl c₀), (3, Sum.inl j₀)] [] N 0) (lo := 0) (hi := 10 * T + L₀) (by omega) ?_ ?_ () trivial
    · intro _ _
      have e₀ : gi N (gr N m₀ 19) (10 * T + L₀).toNat = mi M (m₀ + 1) r₀ c₀ := by rw [a19, q3₀ _ (by omega) (by omega)]; exact mm_first1 hR
      clear hR q3₀
      refine hK₀ _ _ _ _ _ ?_
      (repeat' (((conv => whnf); first | (show (_ : Option mg_V) = _ ∧ _; assumption) | (show K _ _ _ _ _; assumption) | (show mm_th _ _ _ _; assumption) | refine And.intro (by first | assumption | omega | (simp only [true_and, a19, b19, c19₀]; first | done | assumption | omega)) ?_ | (refine And.intro (fun _ => ?_) (fun _ => ?_) <;> first | (exfalso; omega) | skip) | intro _ | fail)))
      all_goals ((conv => whnf) <;> first | rfl | exact And.intro rfl rfl | (exfalso; omega))
    · intro j₀ _ j0 j1 _ nex
      have g₀ := nex () trivial
      have fi := mm_first rc hR ⟨j0, j1⟩
      have e₀ : gi N (gr N m₀ 19) j₀.toNat = gi M (m₀ + 1) j₀.toNat := by rw [a19, q3₀ _ (by omega) (by omega)]
      clear hR q3₀ nex
      refine hK₀ _ _ _ _ _ ?_
      (repeat' (((conv => whnf); first | (show (_ : Option mg_V) = _ ∧ _; assumption) | (show K _ _ _ _ _; assumption) | (show mm_th _ _ _ _; assumption) | refine And.intro (by first | assumption | omega | (simp only [true_and, a19, b19, c19₀]; first | done | assumption | omega)) ?_ | (refine And.intro (fun _ => ?_) (fun _ => ?_) <;> first | (exfalso; omega) | skip) | intro _ | fail)))
      all_goals ((conv => whnf); first | exact g₀ | (exfalso; omega))
  clear hR q3₀
  refine hK₀ _ _ _ _ _ ?_
  (repeat' (((conv => whnf); first | (show (_ : Option mg_V) = _ ∧ _; assumption) | (show K _ _ _ _ _; assumption) | (show mm_th _ _ _ _; assumption) | refine And.intro (by first | assumption | omega | (simp only [true_and, a19, b19, c19₀]; first | done | assumption | omega)) ?_ | (refine And.intro (fun _ => ?_) (fun _ => ?_) <;> first | (exfalso; omega) | skip) | intro _ | fail)))
set_option maxRecDepth 100000 in
theorem cX6_pastedBegin {D : mg_D} {l : Launch} (hl : l.stackTraces = false) {N : mg_M} {m₀ : Nat} {r₀ c₀ u₀ w₀ T L₀ H₀ W₀ : Int} (stN₀ : mm_st N m₀) (hb₀ : (1 ≤ gi N m₀ 25 ∧ gi N m₀ 25 ≤ 12) ∧ (1 ≤ gi N m₀ 26 ∧ gi N m₀ 26 ≤ 10)) (hr : (0 ≤ gi N m₀ 32 ∧ gi N m₀ 32 ≤ r₀ ∧ r₀ < 12) ∧ (0 ≤ gi N m₀ 34 ∧ gi N m₀ 34 ≤ c₀ ∧ c₀ < 10)) (hu : u₀ = (r₀ - gi N m₀ 32) % gi N m₀ 25) (hw : w₀ = (c₀ - gi N m₀ 34) % gi N m₀ 26) (hR : mh_rcJ (gi N m₀ 25) (gi N m₀ 26) (mi N (m₀ + 13)) (mi N (m₀ + 13) u₀ w₀) T L₀ H₀ W₀) : mg_Mt D l 187 [.inr (.inl m₀), .inl r₀, .inl c₀] N (fun v₀ P => v₀ = some (.inl (10 * (r₀ - u₀ + T) + (c₀ - w₀ + L₀))) ∧ P = N) mg_no := by
  refine mg_of2 hl ok_X6_pastedBegin al_X6_pastedBegin rfl (fun K hK₀ => ?_)
  have k7₀ := stN₀.1
  obtain ⟨⟨a28, b28, c28₀⟩, -⟩ := stN₀.2.2.2.2.2.1
  have u0 : 0 ≤ u₀ ∧ u₀ < gi N m₀ 25 := by rw [hu]; exact ⟨Int.emod_nonneg _ (by omega), Int.emod_lt_of_pos _ (by omega)⟩
  have w0₀ : 0 ≤ w₀ ∧ w₀ < gi N m₀ 26 := by rw [hw]; exact ⟨Int.emod_nonneg _ (by omega), Int.emod_lt_of_pos _ (by omega)⟩
  have ul₀ : u₀ ≤ r₀ - gi N m₀ 32 := by rw [hu]; exact mh_eml (by omega) (by omega)
  have wl : w₀ ≤ c₀ - gi N m₀ 34 := by rw [hw]; exact mh_eml (by omega) (by omega)
  have b₀ := hR.1
  have b2 := hR.2.1
  have e0₀ : gi N (gr N m₀ 28) (10 * u₀ + w₀).toNat = mi N (m₀ + 13) u₀ w₀ := by rw [a28]; rfl
  have F₀ : K 28 [(0, Sum.inr (Sum.inl m₀)), (1, Sum.inl r₀), (2, Sum.inl c₀), (3, Sum.inl u₀), (4, Sum.inl w₀), (5, Sum.inl 0)] [] N 0 := by
    refine mh_for (P := fun _ (_ : Unit) => True) (G := fun j₀ _ => K 28 [(0, Sum.inr (Sum.inl m₀)), (1, Sum.inl r₀), (2, Sum.inl c₀), (3, Sum.inl u₀), (4, Sum.inl w₀), (5, Sum.inl j₀)] [] N 0) (lo := 0) (hi := 10 * T + L₀) (by omega) ?_ ?_ () trivial
    · intro _ _
      have e₀ : gi N (gr N m₀ 28) (10 * T + L₀).toNat = mi N (m₀ + 13) u₀ w₀ := by rw [a28]; exact mm_firstJ1 hR
      have d1₀ : (10 * T + L₀) / 10 = T := by omega
      have d2₀ : (10 * T + L₀) % 10 = L₀ := by omega
      clear hR hu hw
      refine hK₀ _ _ _ _ _ ?_
      (repeat' (((conv => whnf); first | (show (_ : Option mg_V) = _ ∧ _; assumption) | (show K _ _ _ _ _; assumption) | (show mm_th _ _ _ _; assumption) | refine And.intro (by first | assumption | omega | (simp only [true_and, a28, b28, c28₀]; first | done | assumption | omega)) ?_ | (refine And.intro (fun _ => ?_) (fun _ => ?_) <;> first | (exfalso; omega) | skip) | intro _ | fail)))
      all_goals ((conv => whnf) <;> first | (refine And.intro ?_ rfl; congr 2; omega) | (exfalso; omega))
    · intro j₀ _ j0 j1 _ nex
      have g₀ := nex () trivial
      have fi := mm_firstJ (by omega) hR ⟨j0, j1⟩
      have e₀ : gi N (gr N m₀ 28) j₀.toNat = gi N (m₀ + 13) j₀.toNat := by rw [a28]
      clear hR nex hu hw
      refine hK₀ _ _ _ _ _ ?_
      (repeat' (((conv => whnf); first | (show (_ : Option mg_V) = _ ∧ _; assumption) | (show K _ _ _ _ _; assumption) | (show mm_th _ _ _ _; assumption) | refine And.intro (by first | assumption | omega | (simp only [true_and, a28, b28, c28₀]; first | done | assumption | omega)) ?_ | (refine And.intro (fun _ => ?_) (fun _ => ?_) <;> first | (exfalso; omega) | skip) | intro _ | fail)))
      all_goals ((conv => whnf); first | exact g₀ | (exfalso; omega))
  clear hR
  refine hK₀ _ _ _ _ _ ?_
  (repeat' (((conv => whnf); first | (show (_ : Option mg_V) = _ ∧ _; assumption) | (show K _ _ _ _ _; assumption) | (show mm_th _ _ _ _; assumption) | refine And.intro (by first | assumption | omega | (simp only [true_and, a28, b28, c28₀]; first | done | assumption | omega)) ?_ | (refine And.intro (fun _ => ?_) (fun _ => ?_) <;> first | (exfalso; omega) | skip) | intro _ | fail)))
  all_goals ((conv => whnf); rw [← hu, ← hw]; exact F₀)
