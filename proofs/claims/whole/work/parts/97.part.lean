/-! Table₀.part: a₀ cell₀ split into₀ parts₀ -/
theorem mh_dvs {i₀ a₀ : Int} (hi : 0 ≤ i₀) (ha₀ : 0 < a₀) : ((i₀ + 1) / a₀ = i₀ / a₀ ∧ (i₀ + 1) % a₀ = i₀ % a₀ + 1 ∧ i₀ % a₀ + 1 < a₀) ∨ ((i₀ + 1) / a₀ = i₀ / a₀ + 1 ∧ (i₀ + 1) % a₀ = 0 ∧ i₀ % a₀ + 1 = a₀) := by
  have h1 := Int.emod_add_mul_ediv i₀ a₀
  have h2 := Int.emod_lt_of_pos i₀ ha₀
  have h3 := Int.emod_nonneg i₀ (show a₀ ≠ 0 by omega)
  by_cases c₀ : i₀ % a₀ + 1 < a₀
  · have e₀ : i₀ + 1 = (i₀ % a₀ + 1) + a₀ * (i₀ / a₀) := by omega
    refine Or.inl ⟨?_, ?_, c₀⟩
    · rw [e₀, Int.add_mul_ediv_left _ _ (show a₀ ≠ 0 by omega), Int.ediv_eq_zero_of_lt (by omega) c₀, Int.zero_add]
    · rw [e₀, Int.add_mul_emod_self_left, Int.emod_eq_of_lt (by omega) c₀]
  · have e₀ : i₀ + 1 = 0 + a₀ * (i₀ / a₀ + 1) := by rw [Int.mul_add, Int.mul_one]; omega
    refine Or.inr ⟨?_, ?_, by omega⟩
    · rw [e₀, Int.add_mul_ediv_left _ _ (show a₀ ≠ 0 by omega), Int.zero_ediv, Int.zero_add]
    · rw [e₀, Int.add_mul_emod_self_left, Int.zero_emod]
abbrev mh_iq (T L₀ H₀ W₀ p₀ q₀ : Int) : Prop := (T ≤ p₀ ∧ p₀ < T + H₀) ∧ (L₀ ≤ q₀ ∧ q₀ < L₀ + W₀)
def mh_qA (k₀ T L₀ H₀ W₀ e₀ f₀ p₀ q₀ : Int) : Prop := ¬ mh_iq T L₀ H₀ W₀ p₀ q₀ ∨ (if k₀ = 99 then 0 else p₀ - T) < e₀ ∨ ((if k₀ = 99 then 0 else p₀ - T) = e₀ ∧ (if k₀ = 114 then 0 else q₀ - L₀) < f₀)
def mh_q0 (M : mg_M) (t₀ : Nat) (k₀ T L₀ H₀ W₀ p₀ q₀ : Int) : Int := if mh_iq T L₀ H₀ W₀ p₀ q₀ then (if k₀ = 99 then T else p₀) else gi M (mh_co M t₀ p₀ q₀) 0
def mh_q1 (M : mg_M) (t₀ : Nat) (k₀ T L₀ H₀ W₀ p₀ q₀ : Int) : Int := if mh_iq T L₀ H₀ W₀ p₀ q₀ then (if k₀ = 114 then L₀ else q₀) else gi M (mh_co M t₀ p₀ q₀) 1
def mh_q2 (M : mg_M) (t₀ : Nat) (k₀ T L₀ H₀ W₀ p₀ q₀ : Int) : Int := if mh_iq T L₀ H₀ W₀ p₀ q₀ then (if k₀ = 99 then H₀ else 1) else gi M (mh_co M t₀ p₀ q₀) 2
def mh_q3 (M : mg_M) (t₀ : Nat) (k₀ T L₀ H₀ W₀ p₀ q₀ : Int) : Int := if mh_iq T L₀ H₀ W₀ p₀ q₀ then (if k₀ = 114 then W₀ else 1) else gi M (mh_co M t₀ p₀ q₀) 3
def mh_q4 (M : mg_M) (t₀ : Nat) (k₀ c₀ T L₀ H₀ W₀ p₀ q₀ : Int) : Int := if mh_iq T L₀ H₀ W₀ p₀ q₀ then (if (k₀ = 99 ∨ p₀ = T) ∧ (k₀ = 114 ∨ q₀ = L₀) then c₀ else 0) else gi M (mh_co M t₀ p₀ q₀) 4
def mh_q5 (M : mg_M) (t₀ : Nat) (y₀ T L₀ H₀ W₀ p₀ q₀ : Int) : Int := if mh_iq T L₀ H₀ W₀ p₀ q₀ then y₀ else gi M (mh_co M t₀ p₀ q₀) 5
/-- the list behind₀ the cell₀ itself₀ became the first part₀ -/
theorem mh_lz_pt {M Z₀ : mg_M} {t₀ a₀ i0₀ : Nat} {k₀ T L₀ H₀ W₀ c₀ y₀ hg wd ax : Int} (tl : mh_tl M t₀) (nb : mh_nb M t₀) (hi : (i0₀ : Int) < gi M (t₀ + 3) 0) (ha₀ : gr M (t₀ + 3 + 1) i0₀ = a₀) (e0₀ : gi M a₀ 0 = T ∧ gi M a₀ 1 = L₀ ∧ gi M a₀ 2 = H₀ ∧ gi M a₀ 3 = W₀ ∧ gi M a₀ 4 = c₀ ∧ gi M a₀ 5 = y₀) (hax : ax = if k₀ = 114 then 1 else W₀) (hhg : hg = if k₀ = 99 then H₀ else 1) (hwd : wd = if k₀ = 114 then W₀ else 1) (f₀ : mm_f (fun b₀ k₀ => b₀ = a₀ ∧ k₀ < 4) M Z₀) (v₀ : gi Z₀ a₀ 0 = T ∧ gi Z₀ a₀ 1 = L₀ ∧ gi Z₀ a₀ 2 = hg ∧ gi Z₀ a₀ 3 = wd) : mh_lz M Z₀ t₀ (mh_qA k₀ T L₀ H₀ W₀ (1 / ax) (1 % ax)) (mh_q0 M t₀ k₀ T L₀ H₀ W₀) (mh_q1 M t₀ k₀ T L₀ H₀ W₀) (mh_q2 M t₀ k₀ T L₀ H₀ W₀) (mh_q3 M t₀ k₀ T L₀ H₀ W₀) (mh_q4 M t₀ k₀ c₀ T L₀ H₀ W₀) (mh_q5 M t₀ y₀ T L₀ H₀ W₀) := by
  have cl₀ := tl.2.1
  have ok₀ := tl.2.2.1
  have own₀ := tl.2.2.2.1
  have z₀ := cl₀.2.2.2.2.2.2.1
  have ca : ∀ i₀ : Nat, i₀ < 120 → t₀ + 6 ≤ gr M (t₀ + 3 + 1) i₀ ∧ gr M (t₀ + 3 + 1) i₀ < t₀ + 126 := fun i₀ hi => by have := cl₀.2.2.2.2.2.2.2.1 i₀ hi; omega
  have ci := cl₀.2.2.2.2.2.2.2.2
  have aa : t₀ + 6 ≤ a₀ ∧ a₀ < t₀ + 126 := by have := ca i0₀ (by omega); omega
  have o := ok₀ i0₀ hi
  unfold mh_ok at o
  rw [ha₀, e0₀.1, e0₀.2.1, e0₀.2.2.1, e0₀.2.2.2.1] at o
  have dv := @mh_dvs 0 ax (by omega) (by split at hax <;> omega)
  rw [Int.zero_ediv, Int.zero_emod, Int.zero_add] at dv
  have sz₀ := mm_f_gi f₀ (t₀ + 3) 0 (by omega)
  have rr := f₀.2.2.1
  have ne₀ : ∀ i₀ : Nat, i₀ < 120 → i₀ ≠ i0₀ → ∀ j₀, gi Z₀ (gr M (t₀ + 3 + 1) i₀) j₀ = gi M (gr M (t₀ + 3 + 1) i₀) j₀ := fun i₀ h1 h2 j₀ => mm_f_gi f₀ _ j₀ (fun w₀ => h2 (ci i₀ i0₀ h1 (by omega) (w₀.1.trans ha₀.symm)))
  have cv0 : ∀ p₀ q₀, mh_cv M t₀ i0₀ p₀ q₀ ↔ mh_iq T L₀ H₀ W₀ p₀ q₀ := by
    intro p₀ q₀
    unfold mh_cv
    rw [ha₀, e0₀.1, e0₀.2.1, e0₀.2.2.1, e0₀.2.2.2.1]
    constructor <;> (intro w₀; omega)
  have cz0 : ∀ p₀ q₀, mh_cv Z₀ t₀ i0₀ p₀ q₀ ↔ mh_iq T L₀ hg wd p₀ q₀ := by
    intro p₀ q₀
    unfold mh_cv
    rw [rr, ha₀, v₀.1, v₀.2.1, v₀.2.2.1, v₀.2.2.2]
    constructor <;> (intro w₀; omega)
  have cvi : ∀ i₀ : Nat, i₀ < 120 → i₀ ≠ i0₀ → ∀ p₀ q₀, mh_cv Z₀ t₀ i₀ p₀ q₀ ↔ mh_cv M t₀ i₀ p₀ q₀ := by
    intro i₀ h1 h2 p₀ q₀
    unfold mh_cv
    rw [rr, ne₀ i₀ h1 h2, ne₀ i₀ h1 h2, ne₀ i₀ h1 h2, ne₀ i₀ h1 h2]
  have cz : ∀ i₀ : Nat, i₀ < 120 → ∀ p₀ q₀, mh_cv Z₀ t₀ i₀ p₀ q₀ → mh_cv M t₀ i₀ p₀ q₀ := by
    intro i₀ h1 p₀ q₀ w₀
    by_cases x₀ : i₀ = i0₀
    · rw [x₀] at w₀ ⊢
      have w2₀ := (cz0 p₀ q₀).1 w₀
      refine (cv0 p₀ q₀).2 ?_
      split at hhg <;> split at hwd <;> omega
    · exact (cvi i₀ h1 x₀ p₀ q₀).1 w₀
  refine ⟨⟨mh_fw_of f₀ (fun b₀ k₀ w₀ => by omega), mh_fr_cL cl₀ f₀.1 f₀.2.1 f₀.2.2.1 sz₀⟩, ⟨fun k₀ => mm_f_gi f₀ _ k₀ (by omega), fun k₀ => mm_f_gi f₀ _ k₀ (by omega), fun k₀ => mm_f_gi f₀ _ k₀ (by omega)⟩, fun i₀ hi => ?_, fun i₀ j₀ hi hj p₀ q₀ h1 h2 => ?_, fun i₀ hi p₀ q₀ h1 => ?_, fun p₀ q₀ hr hp => ?_⟩
  · rw [sz₀] at hi
    by_cases x₀ : i₀ = i0₀
    · unfold mh_ok
      rw [x₀, rr, ha₀, v₀.1, v₀.2.1, v₀.2.2.1, v₀.2.2.2, mm_f_gi f₀ t₀ 0 (by omega), mm_f_gi f₀ t₀ 1 (by omega)]
      split at hhg <;> split at hwd <;> omega
    · have o2 := ok₀ i₀ hi
      unfold mh_ok at o2 ⊢
      rw [rr, ne₀ i₀ (by omega) x₀, ne₀ i₀ (by omega) x₀, ne₀ i₀ (by omega) x₀, ne₀ i₀ (by omega) x₀, mm_f_gi f₀ t₀ 0 (by omega), mm_f_gi f₀ t₀ 1 (by omega)]
      exact o2
  · rw [sz₀] at hi hj
    have w1₀ := own₀ i₀ hi p₀ q₀ (cz i₀ (by omega) p₀ q₀ h1)
    have w2₀ := own₀ j₀ hj p₀ q₀ (cz j₀ (by omega) p₀ q₀ h2)
    omega
  · rw [sz₀] at hi
    unfold mh_qA
    by_cases x₀ : i₀ = i0₀
    · rw [x₀] at h1
      have w₀ := (cz0 p₀ q₀).1 h1
      refine Or.inr ?_
      generalize 1 / ax = e1₀ at *
      generalize 1 % ax = f1₀ at *
      clear own₀ ok₀ ca ci ne₀ cv0 cz0 cvi cz
      split at hhg <;> split at hwd <;> omega
    · refine Or.inl (fun w₀ => x₀ ?_)
      have w1₀ := own₀ i₀ hi p₀ q₀ (cz i₀ (by omega) p₀ q₀ h1)
      have w2₀ := own₀ i0₀ (by omega) p₀ q₀ ((cv0 p₀ q₀).2 w₀)
      omega
  · have wa := hp
    unfold mh_qA at wa
    by_cases x₀ : mh_iq T L₀ H₀ W₀ p₀ q₀
    · have w₀ : mh_iq T L₀ hg wd p₀ q₀ ∧ (k₀ = 99 ∨ p₀ = T) ∧ (k₀ = 114 ∨ q₀ = L₀) := by
        have y1 := wa.resolve_left (fun n₀ => n₀ x₀)
        generalize 1 / ax = e1₀ at *
        generalize 1 % ax = f1₀ at *
        clear own₀ ok₀ ca ci ne₀ cv0 cz0 cvi cz wa
        split at hhg <;> split at hwd <;> omega
      refine ⟨i0₀, by omega, (cz0 p₀ q₀).2 w₀.1, ?_⟩
      unfold mh_q0 mh_q1 mh_q2 mh_q3 mh_q4 mh_q5
      rw [rr, ha₀, v₀.1, v₀.2.1, v₀.2.2.1, v₀.2.2.2, if_pos x₀, if_pos x₀, if_pos x₀, if_pos x₀, if_pos x₀, if_pos x₀, if_pos w₀.2, mm_f_gi f₀ a₀ 4 (by omega), mm_f_gi f₀ a₀ 5 (by omega)]
      refine ⟨⟨?_, ?_, hhg, hwd⟩, e0₀.2.2.2.2.1, e0₀.2.2.2.2.2⟩ <;> split <;> omega
    · obtain ⟨j₀, hj, w₀, eo⟩ := mh_tl_ow tl hr.1 hr.2 (nb p₀ q₀ hr.1.1 hr.1.2 hr.2.1 hr.2.2)
      have jn : j₀ ≠ i0₀ := fun n₀ => x₀ ((cv0 p₀ q₀).1 (n₀ ▸ w₀))
      refine ⟨j₀, by omega, (cvi j₀ (by omega) jn p₀ q₀).2 w₀, ?_⟩
      unfold mh_q0 mh_q1 mh_q2 mh_q3 mh_q4 mh_q5
      rw [if_neg x₀, if_neg x₀, if_neg x₀, if_neg x₀, if_neg x₀, if_neg x₀, mh_co_at hr (own₀ j₀ hj p₀ q₀ w₀), rr, ne₀ j₀ (by omega) jn, ne₀ j₀ (by omega) jn, ne₀ j₀ (by omega) jn, ne₀ j₀ (by omega) jn, ne₀ j₀ (by omega) jn, ne₀ j₀ (by omega) jn]
      exact ⟨⟨rfl, rfl, rfl, rfl⟩, rfl, rfl⟩
