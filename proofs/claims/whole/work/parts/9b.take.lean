/-! Block₀.take, Block₀.isAcross -/
theorem mh_ad6 {Z₀ Z' : mg_M} {c₀ a₀ : Nat} {r₀ s₀ u₀ v₀ x₀ y₀ : Int} (cl₀ : mg_cL Z₀ c₀) (hs : gi Z₀ c₀ 0 < 120) (ha₀ : gr Z₀ (c₀ + 1) (gi Z₀ c₀ 0).toNat = a₀) (hZ : Z' = si (si (mh_ad Z₀ c₀ r₀ s₀ u₀ v₀) a₀ 4 x₀) a₀ 5 y₀) : mm_f (fun b₀ k₀ => b₀ = a₀ ∨ (b₀ = c₀ ∧ k₀ = 0)) Z₀ Z' ∧ gi Z' c₀ 0 = gi Z₀ c₀ 0 + 1 ∧ (gi Z' a₀ 0 = r₀ ∧ gi Z' a₀ 1 = s₀ ∧ gi Z' a₀ 2 = u₀ ∧ gi Z' a₀ 3 = v₀ ∧ gi Z' a₀ 4 = x₀ ∧ gi Z' a₀ 5 = y₀) ∧ mg_cL Z' c₀ := by
  have z₀ := cl₀.2.2.2.2.2.2.1
  have ca := cl₀.2.2.2.2.2.2.2.1 (gi Z₀ c₀ 0).toNat (by omega)
  rw [ha₀] at ca
  have ad := @mh_ad_at Z₀ c₀ r₀ s₀ u₀ v₀
  have sz₀ := @mh_ad_sz Z₀ c₀ r₀ s₀ u₀ v₀ cl₀ (by omega)
  have clY := @mh_ad_cL Z₀ c₀ r₀ s₀ u₀ v₀ cl₀ (by omega)
  have ne₀ := fun b₀ k₀ => @mh_ad_ne Z₀ c₀ b₀ k₀ r₀ s₀ u₀ v₀
  rw [ha₀] at ad
  simp only [ha₀] at ne₀
  have e0₀ : gi Z' c₀ 0 = gi Z₀ c₀ 0 + 1 := by rw [hZ, gi_si, if_neg (by omega), gi_si, if_neg (by omega)]; exact sz₀
  refine ⟨⟨fun b₀ => by rw [hZ]; rfl, fun b₀ => by rw [hZ]; rfl, fun b₀ k₀ => by rw [hZ]; rfl, by rw [hZ]; rfl, fun b₀ k₀ => by rw [hZ]; rfl, fun b₀ k₀ => by rw [hZ]; rfl, fun b₀ k₀ => ?_⟩, e0₀, ?_, ?_⟩
  · by_cases x1₀ : b₀ = a₀ ∨ (b₀ = c₀ ∧ k₀ = 0)
    · exact Or.inl x1₀
    · refine Or.inr ?_
      rw [hZ, gi_si, if_neg (fun w₀ => x1₀ (Or.inl w₀.1)), gi_si, if_neg (fun w₀ => x1₀ (Or.inl w₀.1))]
      exact ne₀ b₀ k₀ (fun w₀ => x1₀ (Or.inl w₀)) (fun w₀ => x1₀ (Or.inr w₀))
  · refine ⟨?_, ?_, ?_, ?_, ?_, ?_⟩
    · rw [hZ, gi_si, if_neg (by omega), gi_si, if_neg (by omega)]; exact ad.1
    · rw [hZ, gi_si, if_neg (by omega), gi_si, if_neg (by omega)]; exact ad.2.1
    · rw [hZ, gi_si, if_neg (by omega), gi_si, if_neg (by omega)]; exact ad.2.2.1
    · rw [hZ, gi_si, if_neg (by omega), gi_si, if_neg (by omega)]; exact ad.2.2.2.1
    · rw [hZ, gi_si, if_neg (by omega), gi_si, if_pos ⟨rfl, rfl⟩]
    · rw [hZ, gi_si, if_pos ⟨rfl, rfl⟩]
  · unfold mg_cL at cl₀ ⊢
    rw [e0₀]
    have kk : ∀ b₀, kd Z' b₀ = kd Z₀ b₀ := fun b₀ => by rw [hZ]; rfl
    have ll : ∀ b₀, ln Z' b₀ = ln Z₀ b₀ := fun b₀ => by rw [hZ]; rfl
    have rr : ∀ b₀ k₀, gr Z' b₀ k₀ = gr Z₀ b₀ k₀ := fun b₀ k₀ => by rw [hZ]; rfl
    simp only [kk, ll, rr]
    exact ⟨cl₀.1, cl₀.2.1, cl₀.2.2.1, cl₀.2.2.2.1, cl₀.2.2.2.2.1, cl₀.2.2.2.2.2.1, by omega, cl₀.2.2.2.2.2.2.2.1, cl₀.2.2.2.2.2.2.2.2⟩
def mh_tv (M Z₀ : mg_M) (b₀ c₀ a₀ : Nat) : Prop := gi Z₀ a₀ 0 = gi M c₀ 0 - gi M b₀ 0 ∧ gi Z₀ a₀ 1 = gi M c₀ 1 - gi M b₀ 1 ∧ gi Z₀ a₀ 2 = gi M c₀ 2 ∧ gi Z₀ a₀ 3 = gi M c₀ 3 ∧ gi Z₀ a₀ 4 = gi M c₀ 4 ∧ gi Z₀ a₀ 5 = gi M c₀ 5
def mh_cnt (M : mg_M) (t₀ b₀ n₀ : Nat) : Int := mh_sum (fun i₀ => mh_bi (mh_in M (gr M (t₀ + 3 + 1) i₀) b₀)) n₀
def mh_tf (k₀ a₀ x₀ : Nat) : Prop := (a₀ = k₀ ∧ x₀ < 2) ∨ (a₀ = k₀ + 1 ∧ x₀ = 0) ∨ (k₀ + 4 ≤ a₀ ∧ a₀ < k₀ + 124)
/-- what take₀ leaves: the block's cells₀ are the area's, counted from its own₀ corner -/
def mh_tK (M N : mg_M) (t₀ b₀ k₀ : Nat) (U₀ V : Int) : Prop := mm_f (mh_tf k₀) M N ∧ (gi N k₀ 0 = U₀ ∧ gi N k₀ 1 = V) ∧ gi N (k₀ + 1) 0 = mh_cnt M t₀ b₀ (gi M (t₀ + 3) 0).toNat ∧ mh_bl N (k₀ + 1) U₀ V ∧ ∀ i₀ : Nat, (i₀ : Int) < gi N (k₀ + 1) 0 → ∀ u₀ v₀, mh_cb N (k₀ + 1) i₀ u₀ v₀ → mh_tv M N b₀ (mh_co M t₀ (gi M b₀ 0 + u₀) (gi M b₀ 1 + v₀)) (gr N (k₀ + 1 + 1) i₀)
theorem mh_bi9 (p₀ : Bool) : 0 ≤ mh_bi p₀ ∧ mh_bi p₀ ≤ 1 := by unfold mh_bi; split <;> omega
/-- the semantic part₀: the loop's last₀ state₀ -/
theorem mh_tK_of {M N : mg_M} {t₀ b₀ k₀ n₀ : Nat} {U₀ V : Int} (tl : mh_tl M t₀) (nb : mh_nb M t₀) (har : mh_ar M t₀ b₀) (hkt : k₀ + 124 ≤ t₀ ∨ t₀ + 129 ≤ k₀) (hcl : ∀ i₀ : Nat, (i₀ : Int) < gi M (t₀ + 3) 0 → ∀ p₀ q₀, mh_cv M t₀ i₀ p₀ q₀ → (gi M b₀ 0 ≤ p₀ ∧ p₀ ≤ gi M b₀ 2) ∧ (gi M b₀ 1 ≤ q₀ ∧ q₀ ≤ gi M b₀ 3) → mh_in M (gr M (t₀ + 3 + 1) i₀) b₀ = true) (hn : gi M (t₀ + 3) 0 = n₀) (hU : U₀ = gi M b₀ 2 - gi M b₀ 0 + 1) (hV : V = gi M b₀ 3 - gi M b₀ 1 + 1) (f₀ : mm_f (mh_tf k₀) M N) (clN : mg_cL N (k₀ + 1)) (e0₀ : gi N k₀ 0 = U₀ ∧ gi N k₀ 1 = V) (es : gi N (k₀ + 1) 0 = mh_cnt M t₀ b₀ n₀) (h1 : ∀ j₀ : Nat, j₀ < n₀ → mh_in M (gr M (t₀ + 3 + 1) j₀) b₀ = true → mh_cnt M t₀ b₀ j₀ < mh_cnt M t₀ b₀ n₀ ∧ mh_tv M N b₀ (gr M (t₀ + 3 + 1) j₀) (gr N (k₀ + 1 + 1) (mh_cnt M t₀ b₀ j₀).toNat)) (h2 : ∀ i₀ : Nat, (i₀ : Int) < mh_cnt M t₀ b₀ n₀ → ∃ j₀ : Nat, j₀ < n₀ ∧ mh_in M (gr M (t₀ + 3 + 1) j₀) b₀ = true ∧ mh_cnt M t₀ b₀ j₀ = i₀) : mh_tK M N t₀ b₀ k₀ U₀ V := by
  have own₀ := tl.2.2.2.1
  have ar := har
  unfold mh_ar at ar
  have inq : ∀ j₀ : Nat, mh_in M (gr M (t₀ + 3 + 1) j₀) b₀ = true → gi M b₀ 0 ≤ gi M (gr M (t₀ + 3 + 1) j₀) 0 ∧ gi M (gr M (t₀ + 3 + 1) j₀) 0 + gi M (gr M (t₀ + 3 + 1) j₀) 2 - 1 ≤ gi M b₀ 2 ∧ gi M b₀ 1 ≤ gi M (gr M (t₀ + 3 + 1) j₀) 1 ∧ gi M (gr M (t₀ + 3 + 1) j₀) 1 + gi M (gr M (t₀ + 3 + 1) j₀) 3 - 1 ≤ gi M b₀ 3 := by
    intro j₀ h₀
    unfold mh_in at h₀
    exact of_decide_eq_true h₀
  have X₀ : ∀ i₀ : Nat, (i₀ : Int) < gi N (k₀ + 1) 0 → ∃ j₀ : Nat, j₀ < n₀ ∧ mh_in M (gr M (t₀ + 3 + 1) j₀) b₀ = true ∧ mh_cnt M t₀ b₀ j₀ = i₀ ∧ mh_tv M N b₀ (gr M (t₀ + 3 + 1) j₀) (gr N (k₀ + 1 + 1) i₀) ∧ ∀ u₀ v₀, mh_cb N (k₀ + 1) i₀ u₀ v₀ ↔ mh_cv M t₀ j₀ (gi M b₀ 0 + u₀) (gi M b₀ 1 + v₀) := by
    intro i₀ hi
    obtain ⟨j₀, a₀, c₀, d₀⟩ := h2 i₀ (by omega)
    have w₀ := (h1 j₀ a₀ c₀).2
    rw [d₀, Int.toNat_natCast] at w₀
    refine ⟨j₀, a₀, c₀, d₀, w₀, fun u₀ v₀ => ?_⟩
    unfold mh_cb mh_cv
    unfold mh_tv at w₀
    rw [w₀.1, w₀.2.1, w₀.2.2.1, w₀.2.2.2.1]
    constructor <;> (intro z₀; omega)
  refine ⟨f₀, e0₀, by rw [hn, Int.toNat_natCast]; exact es, ⟨clN, fun i₀ hi => ?_, fun i₀ i' hi hi' u₀ v₀ w1₀ w2₀ => ?_, fun u₀ v₀ h₀ => ?_⟩, fun i₀ hi u₀ v₀ w₀ => ?_⟩
  · obtain ⟨j₀, a₀, c₀, d₀, w₀, _⟩ := X₀ i₀ hi
    have o := tl.2.2.1 j₀ (by omega)
    have q₀ := inq j₀ c₀
    unfold mh_ok at o
    unfold mh_tv at w₀
    rw [w₀.1, w₀.2.1, w₀.2.2.1, w₀.2.2.2.1]
    omega
  · obtain ⟨j₀, a₀, c₀, d₀, _, w₀⟩ := X₀ i₀ hi
    obtain ⟨j', a', c', d', _, w'⟩ := X₀ i' hi'
    have y₀ := own₀ j₀ (by omega) _ _ ((w₀ u₀ v₀).1 w1₀)
    have y' := own₀ j' (by omega) _ _ ((w' u₀ v₀).1 w2₀)
    have e₀ : j₀ = j' := by omega
    rw [e₀] at d₀
    omega
  · obtain ⟨j₀, hj, w₀, eo⟩ := @mh_tl_ow M t₀ (gi M b₀ 0 + u₀) (gi M b₀ 1 + v₀) tl (by omega) (by omega) (nb _ _ (by omega) (by omega) (by omega) (by omega))
    have ij := hcl j₀ hj _ _ w₀ (by omega)
    obtain ⟨lt₀, tv⟩ := h1 j₀ (by omega) ij
    have c0 : 0 ≤ mh_cnt M t₀ b₀ j₀ := (mh_suml (fun i₀ => mh_bi (mh_in M (gr M (t₀ + 3 + 1) i₀) b₀)) 1 j₀ (fun i₀ _ => mh_bi9 _)).1
    refine ⟨(mh_cnt M t₀ b₀ j₀).toNat, by omega, ?_⟩
    unfold mh_cb
    unfold mh_tv at tv
    unfold mh_cv at w₀
    rw [tv.1, tv.2.1, tv.2.2.1, tv.2.2.2.1]
    omega
  · obtain ⟨j₀, a₀, c₀, d₀, tv, cv⟩ := X₀ i₀ hi
    have w' := (cv u₀ v₀).1 w₀
    have o := tl.2.2.1 j₀ (by omega)
    have w2₀ := w'
    unfold mh_cv at w2₀
    unfold mh_ok at o
    rw [mh_co_at (by omega) (own₀ j₀ (by omega) _ _ w')]
    exact tv
