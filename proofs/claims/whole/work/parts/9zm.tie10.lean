/-! mean, mergedShare tied₀ -/
def mh_opE (D : mg_D) (l : Launch) (yc ym : Nat) (as₀ : List mg_V) (M : mg_M) (g₀ m₀ : Nat) : Prop := ∃ N : UInt64 → mg_M → Prop, mg_Mt D l yc (.inr (.inl g₀) :: as₀) M (fun v₀ P => ∃ z₀, v₀ = some (.inr (.inr (.inr (.inl z₀)))) ∧ N z₀ P) mg_no ∧ ∀ z₀ P, N z₀ P → vf_n64 z₀ ∧ mh_far M P g₀ ∧ ∀ o, mg_Mt D l ym (.inr (.inl m₀) :: as₀) (sd P o 0 z₀) (fun w₀ Q₀ => w₀ = some (.inr (.inr (.inr (.inl z₀)))) ∧ gi Q₀ m₀ 0 = 0 ∧ mh_far (sd P o 0 z₀) Q₀ g₀ ∧ ∃ t₀ u₀, mh_INV Q₀ g₀ m₀ t₀ u₀) mg_no
def mh_opU (D : mg_D) (l : Launch) (yc ym : Nat) (as₀ : List mg_V) (M : mg_M) (g₀ m₀ : Nat) (kind : Nat) (j₀ : Int) : Prop := mg_Mt D l yc (.inr (.inl g₀) :: as₀) M mh_nN (fun k₀ P => k₀ = kind ∧ mh_same M P g₀ m₀ ∧ mh_far M P g₀) ∧ ∀ P, mh_same M P g₀ m₀ → mg_Mt D l ym (.inr (.inl m₀) :: as₀) P (fun w₀ Q₀ => (∃ z₀, w₀ = some (.inr (.inr (.inr (.inl z₀))))) ∧ gi Q₀ m₀ 0 = j₀ ∧ mh_far P Q₀ g₀ ∧ ∃ t₀ u₀, mh_INV Q₀ g₀ m₀ t₀ u₀) mg_no
def mh_opF (D : mg_D) (l : Launch) (yc ym : Nat) (as₀ : List mg_V) (M : mg_M) (g₀ m₀ : Nat) : Prop := ∃ z₀, vf_n32 z₀ ∧ mg_Mt D l yc (.inr (.inl g₀) :: as₀) M (fun v₀ P => v₀ = some (.inr (.inr (.inr (.inr z₀)))) ∧ P = M) mg_no ∧ mg_Mt D l ym (.inr (.inl m₀) :: as₀) M (fun w₀ Q₀ => w₀ = some (.inr (.inr (.inr (.inr z₀)))) ∧ gi Q₀ m₀ 0 = 0 ∧ mh_far M Q₀ g₀ ∧ ∃ t₀ u₀, mh_INV Q₀ g₀ m₀ t₀ u₀) mg_no
theorem mh_INV_sd {M : mg_M} {g₀ m₀ t₀ u₀ o : Nat} {z₀ : UInt64} (I₀ : mh_INV M g₀ m₀ t₀ u₀) : mh_INV (sd M o 0 z₀) g₀ m₀ t₀ u₀ := mh_INV_same I₀ ⟨fun _ => rfl, fun _ => rfl, fun _ _ => rfl, fun _ _ _ _ _ => rfl⟩
theorem ti_mean0 {D : mg_D} {l : Launch} (hl : l.stackTraces = false) {M : mg_M} {g₀ m₀ t₀ u₀ : Nat} (I₀ : mh_INV M g₀ m₀ t₀ u₀) (h₀ : mh_sum (fun i₀ => (if mh_bi (mh_in M (gr M (t₀ + 3 + 1) i₀) (g₀ + 259)) = 0 then (0 : Int) else if gi M (gr M (t₀ + 3 + 1) i₀) 4 = 0 then (0 : Int) else 1)) (gi M (t₀ + 3) 0).toNat ≠ 0) (hq : vf_n64 (FP.ddiv (FP.i2d (Int32.ofInt (mh_sum (fun i₀ => (if mh_bi (mh_in M (gr M (t₀ + 3 + 1) i₀) (g₀ + 259)) = 0 then (0 : Int) else gi M (gr M (t₀ + 3 + 1) i₀) 4)) (gi M (t₀ + 3) 0).toNat))) (FP.i2d (Int32.ofInt (mh_sum (fun i₀ => (if mh_bi (mh_in M (gr M (t₀ + 3 + 1) i₀) (g₀ + 259)) = 0 then (0 : Int) else if gi M (gr M (t₀ + 3 + 1) i₀) 4 = 0 then (0 : Int) else 1)) (gi M (t₀ + 3) 0).toNat))))) : mh_opE D l 111 204 [] M g₀ m₀ := by
  obtain ⟨st₀, rc, h4, si9, rts, hid₀, cnt₀, hco, hw, hh, hb₀, hd₀⟩ := mh_INV_m I₀
  have K9 := I₀.1
  have V9 := I₀.2.1
  have zf := I₀.2.2.2.1
  have sq := I₀.2.2.2.2.1
  have pm := I₀.2.2.1.2
  have pl := I₀.1.2.2.1
  have bb := K9.2.2.2.1.1.1.2.2
  obtain ⟨tp, lf₀, hg, wd, rt, ch₀, _⟩ := mh_INV_ch I₀
  have sm₀ := mh_INV_cnt I₀ ch₀
  refine ⟨fun z₀ P => z₀ = FP.ddiv (FP.i2d (Int32.ofInt (mh_sum (fun i₀ => (if mh_bi (mh_in M (gr M (t₀ + 3 + 1) i₀) (g₀ + 259)) = 0 then (0 : Int) else gi M (gr M (t₀ + 3 + 1) i₀) 4)) (gi M (t₀ + 3) 0).toNat))) (FP.i2d (Int32.ofInt (mh_sum (fun i₀ => (if mh_bi (mh_in M (gr M (t₀ + 3 + 1) i₀) (g₀ + 259)) = 0 then (0 : Int) else if gi M (gr M (t₀ + 3 + 1) i₀) 4 = 0 then (0 : Int) else 1)) (gi M (t₀ + 3) 0).toNat))) ∧ P = M, mg_MtN (cX5_mean0 hl K9 V9 rfl rfl h₀ hq) (fun v₀ P h₀ => ⟨_, h₀.1, rfl, h₀.2⟩), ?_⟩
  rintro z9 P ⟨hz, rfl⟩
  refine ⟨by rw [hz]; exact hq, mh_far_rfl, fun o => ?_⟩
  have e0₀ : ∀ a₀ k₀, gi (sd P o 0 z9) a₀ k₀ = gi P a₀ k₀ := fun _ _ => rfl
  have IS : mh_INV (sd P o 0 z9) g₀ m₀ t₀ u₀ := mh_INV_sd I₀
  have ms := mh_INV_m IS
  have R := @cX6_mean0 D l hl (sd P o 0 z9) m₀ tp lf₀ hg wd ms.1 ms.2.1 ms.2.2.1 ms.2.2.2.1 (fun k₀ k0₀ k1₀ => by
    rw [e0₀] at k1₀
    exact mm_rect_f (e0₀ m₀ 1) (e0₀ m₀ 2) (fun j₀ => e0₀ (m₀ + 1) j₀) (rt k₀ k0₀ k1₀)) (fun k₀ hk => by rw [e0₀] at hk; rw [e0₀]; exact hco k₀ hk) _ _ (by simp only [mm_ch, e0₀]; exact sm₀.2.2) (by simp only [mm_ch, e0₀]; exact sm₀.2.1) h₀ hq
  refine mg_MtN R ?_
  rintro w₀ Q₀ ⟨e₀, hQ⟩
  exact ⟨by rw [e₀, hz], mh_INV_q IS hQ⟩
theorem ti_mean1 {D : mg_D} {l : Launch} (hl : l.stackTraces = false) {M : mg_M} {g₀ m₀ t₀ u₀ : Nat} (I₀ : mh_INV M g₀ m₀ t₀ u₀) (hb9 : mh_sum (fun i₀ => (if mh_bi (mh_in M (gr M (t₀ + 3 + 1) i₀) (g₀ + 259)) = 0 then (0 : Int) else if gi M (gr M (t₀ + 3 + 1) i₀) 4 = 0 then (0 : Int) else 1)) (gi M (t₀ + 3) 0).toNat = 0) : mh_opU D l 111 204 [] M g₀ m₀ 6 1 := by
  refine ⟨mg_MtX (cX5_mean1 hl I₀.1 hb9) ?_, fun P s₀ => ?_⟩
  · rintro k₀ P ⟨rfl, n₀, hn, rfl⟩
    exact ⟨rfl, mh_same_nx, fun _ => rfl, fun _ => rfl, fun _ _ => rfl, fun _ _ => rfl, fun _ _ _ => rfl⟩
  have IP := mh_INV_same I₀ s₀
  obtain ⟨v1₀, v2, v3⟩ := mh_same_v I₀ s₀
  have z₀ := I₀.2.2.2.1
  have e1₀ := v2 1 (by omega) (by omega)
  have e2₀ := v2 2 (by omega) (by omega)
  have e3₀ := v2 3 (by omega) (by omega)
  obtain ⟨st₀, rc, h4, si9, rts, hid₀, cnt₀, hco, hw, hh, hb₀, hd₀⟩ := mh_INV_m IP
  have pl := I₀.1.2.2.1
  have pm := I₀.2.2.1.2
  obtain ⟨tp, lf₀, hg, wd, rt, ch₀, ecl⟩ := mh_INV_ch IP
  have sm₀ := mh_INV_cnt IP ch₀
  have eP : mh_eq M P t₀ := fun a₀ h1 h2 => ⟨s₀.1 a₀, s₀.2.1 a₀, s₀.2.2.1 a₀, fun k₀ => s₀.2.2.2 a₀ k₀ (by omega) (by omega) (by omega)⟩
  have tlM := I₀.1.2.2.2.1.1
  have zz := tlM.2.1.2.2.2.2.2.2.1
  have e3' := (eP (t₀ + 3) (by omega) (by omega)).2.2.2 0
  have e9₀ : ∀ k₀, gi P (g₀ + 259) k₀ = gi M (g₀ + 259) k₀ := fun k₀ => s₀.2.2.2 _ k₀ (by omega) (by omega) (by omega)
  have ein : ∀ i₀ : Nat, i₀ < 120 → mh_in P (gr P (t₀ + 3 + 1) i₀) (g₀ + 259) = mh_in M (gr M (t₀ + 3 + 1) i₀) (g₀ + 259) := fun i₀ hi => mh_eq_in eP e9₀ tlM.2.1 hi
  have ecn : ∀ i₀ : Nat, i₀ < 120 → gi P (gr P (t₀ + 3 + 1) i₀) 4 = gi M (gr M (t₀ + 3 + 1) i₀) 4 := fun i₀ hi => by
    obtain ⟨x1₀, x2₀⟩ := mh_eq_cells eP tlM.2.1 hi
    rw [x1₀, x2₀]
  have ef : mh_sum (fun i₀ => (if mh_bi (mh_in P (gr P (t₀ + 3 + 1) i₀) (g₀ + 259)) = 0 then (0 : Int) else if gi P (gr P (t₀ + 3 + 1) i₀) 4 = 0 then (0 : Int) else 1)) (gi P (t₀ + 3) 0).toNat = mh_sum (fun i₀ => (if mh_bi (mh_in M (gr M (t₀ + 3 + 1) i₀) (g₀ + 259)) = 0 then (0 : Int) else if gi M (gr M (t₀ + 3 + 1) i₀) 4 = 0 then (0 : Int) else 1)) (gi M (t₀ + 3) 0).toNat := by
    rw [e3']
    exact mh_sum_cg _ (fun i₀ hi => by rw [ein i₀ (by omega), ecn i₀ (by omega)])
  refine mg_MtN (cX6_mean1 hl st₀ rc h4 si9 rt (by rw [sm₀.2.2, ef]; exact hb9)) ?_
  rintro w₀ Q₀ ⟨e₀, hQ⟩
  exact ⟨⟨_, e₀⟩, mh_INV_q IP hQ⟩
theorem mh_arM {M : mg_M} {t₀ : Nat} (tl : mh_tl M t₀) (nb : mh_nb M t₀) : mh_sum (fun i₀ => (if gi M (gr M (t₀ + 3 + 1) i₀) 2 * gi M (gr M (t₀ + 3 + 1) i₀) 3 ≤ 1 then (0 : Int) else gi M (gr M (t₀ + 3 + 1) i₀) 2 * gi M (gr M (t₀ + 3 + 1) i₀) 3)) (gi M (t₀ + 3) 0).toNat = mh_sum (fun r₀ => mh_sum (mh_ms (mh_fT M t₀ 2) (mh_fT M t₀ 3) r₀) (gi M t₀ 1).toNat) (gi M t₀ 0).toNat := by
  have bb := tl.1.2.2
  have own₀ := tl.2.2.2.1
  have z₀ := tl.2.1.2.2.2.2.2.2.1
  have e1₀ : mh_sum (fun i₀ => (if gi M (gr M (t₀ + 3 + 1) i₀) 2 * gi M (gr M (t₀ + 3 + 1) i₀) 3 ≤ 1 then (0 : Int) else gi M (gr M (t₀ + 3 + 1) i₀) 2 * gi M (gr M (t₀ + 3 + 1) i₀) 3)) (gi M (t₀ + 3) 0).toNat = mh_sum (fun i₀ => mh_sum (fun p₀ => mh_sum (fun q₀ => if gi M (gr M (t₀ + 3 + 1) i₀) 0 ≤ (p₀ : Int) ∧ (p₀ : Int) < gi M (gr M (t₀ + 3 + 1) i₀) 0 + gi M (gr M (t₀ + 3 + 1) i₀) 2 then (if gi M (gr M (t₀ + 3 + 1) i₀) 1 ≤ (q₀ : Int) ∧ (q₀ : Int) < gi M (gr M (t₀ + 3 + 1) i₀) 1 + gi M (gr M (t₀ + 3 + 1) i₀) 3 then (if gi M (gr M (t₀ + 3 + 1) i₀) 2 * gi M (gr M (t₀ + 3 + 1) i₀) 3 ≤ 1 then (0 : Int) else 1) else 0) else 0) (gi M t₀ 1).toNat) (gi M t₀ 0).toNat) (gi M (t₀ + 3) 0).toNat := by
    refine mh_sum_cg _ (fun i₀ hi => ?_)
    have o := tl.2.2.1 i₀ (by omega)
    unfold mh_ok at o
    obtain ⟨w9, hw9⟩ : ∃ w9, w9 = (if gi M (gr M (t₀ + 3 + 1) i₀) 2 * gi M (gr M (t₀ + 3 + 1) i₀) 3 ≤ 1 then (0 : Int) else 1) := ⟨_, rfl⟩
    rw [← hw9]
    have h1 := @mh_sum_iv (gi M (gr M (t₀ + 3 + 1) i₀) 1) (gi M (gr M (t₀ + 3 + 1) i₀) 1 + gi M (gr M (t₀ + 3 + 1) i₀) 3) w9 (by omega) (gi M t₀ 1).toNat (by omega)
    have h2 := @mh_sum_iv (gi M (gr M (t₀ + 3 + 1) i₀) 0) (gi M (gr M (t₀ + 3 + 1) i₀) 0 + gi M (gr M (t₀ + 3 + 1) i₀) 2) (gi M (gr M (t₀ + 3 + 1) i₀) 3 * w9) (by omega) (gi M t₀ 0).toNat (by omega)
    rw [show gi M (gr M (t₀ + 3 + 1) i₀) 0 + gi M (gr M (t₀ + 3 + 1) i₀) 2 - gi M (gr M (t₀ + 3 + 1) i₀) 0 = gi M (gr M (t₀ + 3 + 1) i₀) 2 by omega] at h2
    rw [show gi M (gr M (t₀ + 3 + 1) i₀) 1 + gi M (gr M (t₀ + 3 + 1) i₀) 3 - gi M (gr M (t₀ + 3 + 1) i₀) 1 = gi M (gr M (t₀ + 3 + 1) i₀) 3 by omega] at h1
    have h3 : (if gi M (gr M (t₀ + 3 + 1) i₀) 2 * gi M (gr M (t₀ + 3 + 1) i₀) 3 ≤ 1 then (0 : Int) else gi M (gr M (t₀ + 3 + 1) i₀) 2 * gi M (gr M (t₀ + 3 + 1) i₀) 3) = gi M (gr M (t₀ + 3 + 1) i₀) 2 * (gi M (gr M (t₀ + 3 + 1) i₀) 3 * w9) := by
      by_cases y₀ : gi M (gr M (t₀ + 3 + 1) i₀) 2 * gi M (gr M (t₀ + 3 + 1) i₀) 3 ≤ 1
      · rw [if_pos y₀] at hw9
        rw [if_pos y₀, hw9, Int.mul_zero, Int.mul_zero]
      · rw [if_neg y₀] at hw9
        rw [if_neg y₀, hw9, Int.mul_one]
    rw [h3, ← h2]
    refine mh_sum_cg _ (fun p₀ hp => ?_)
    by_cases x₀ : gi M (gr M (t₀ + 3 + 1) i₀) 0 ≤ (p₀ : Int) ∧ (p₀ : Int) < gi M (gr M (t₀ + 3 + 1) i₀) 0 + gi M (gr M (t₀ + 3 + 1) i₀) 2
    · simp only [if_pos x₀]
      rw [h1]
    · simp only [if_neg x₀]
      exact (mh_sum_z _).symm
  rw [e1₀, mh_sum_sw]
  refine mh_sum_cg _ (fun p₀ hp => ?_)
  rw [mh_sum_sw]
  refine mh_sum_cg _ (fun q₀ hq => ?_)
  obtain ⟨j₀, hj, j1, w₀, ej, ec⟩ := mh_sqc tl nb (p₀ := p₀) (q₀ := q₀) (by omega)
  have e4₀ : ∀ i₀ : Nat, i₀ < (gi M (t₀ + 3) 0).toNat → (if gi M (gr M (t₀ + 3 + 1) i₀) 0 ≤ (p₀ : Int) ∧ (p₀ : Int) < gi M (gr M (t₀ + 3 + 1) i₀) 0 + gi M (gr M (t₀ + 3 + 1) i₀) 2 then (if gi M (gr M (t₀ + 3 + 1) i₀) 1 ≤ (q₀ : Int) ∧ (q₀ : Int) < gi M (gr M (t₀ + 3 + 1) i₀) 1 + gi M (gr M (t₀ + 3 + 1) i₀) 3 then (if gi M (gr M (t₀ + 3 + 1) i₀) 2 * gi M (gr M (t₀ + 3 + 1) i₀) 3 ≤ 1 then (0 : Int) else 1) else 0) else 0) = if i₀ = j₀ then (if gi M (gr M (t₀ + 3 + 1) j₀) 2 * gi M (gr M (t₀ + 3 + 1) j₀) 3 ≤ 1 then (0 : Int) else 1) else 0 := by
    intro i₀ hi
    by_cases x₀ : i₀ = j₀
    · rw [x₀, if_pos rfl]
      unfold mh_cv at w₀
      rw [if_pos (by omega), if_pos (by omega)]
    · rw [if_neg x₀]
      have nw : ¬ mh_cv M t₀ i₀ p₀ q₀ := by
        intro w2₀
        have h1 := own₀ i₀ (by omega) p₀ q₀ w2₀
        omega
      unfold mh_cv at nw
      by_cases y₀ : gi M (gr M (t₀ + 3 + 1) i₀) 0 ≤ (p₀ : Int) ∧ (p₀ : Int) < gi M (gr M (t₀ + 3 + 1) i₀) 0 + gi M (gr M (t₀ + 3 + 1) i₀) 2
      · rw [if_pos y₀, if_neg (by omega)]
      · rw [if_neg y₀]
  rw [mh_sum_cg _ e4₀]
  refine (mh_sum_pt _ (by omega)).trans ?_
  unfold mh_ms mh_fT
  rw [ec]
  by_cases y₀ : gi M (gr M (t₀ + 3 + 1) j₀) 2 * gi M (gr M (t₀ + 3 + 1) j₀) 3 ≤ 1
  · rw [if_pos y₀, if_neg (by omega)]
  · rw [if_neg y₀, if_pos (by omega)]
theorem ti_mergedShare {D : mg_D} {l : Launch} (hl : l.stackTraces = false) {M : mg_M} {g₀ m₀ t₀ u₀ : Nat} (I₀ : mh_INV M g₀ m₀ t₀ u₀) (hq : vf_n32 (FP.fdiv (FP.i2f (Int32.ofInt (mh_sum (fun i₀ => (if gi M (gr M (t₀ + 3 + 1) i₀) 2 * gi M (gr M (t₀ + 3 + 1) i₀) 3 ≤ 1 then (0 : Int) else gi M (gr M (t₀ + 3 + 1) i₀) 2 * gi M (gr M (t₀ + 3 + 1) i₀) 3)) (gi M (t₀ + 3) 0).toNat))) (FP.i2f (Int32.ofInt (gi M t₀ 0 * gi M t₀ 1))))) : mh_opF D l 112 205 [] M g₀ m₀ := by
  obtain ⟨st₀, rc, h4, si9, rts, hid₀, cnt₀, hco, hw, hh, hb₀, hd₀⟩ := mh_INV_m I₀
  have K9 := I₀.1
  have V9 := I₀.2.1
  have zf := I₀.2.2.2.1
  have sq := I₀.2.2.2.2.1
  have pm := I₀.2.2.1.2
  have pl := I₀.1.2.2.1
  have bb := K9.2.2.2.1.1.1.2.2
  obtain ⟨tl, nb⟩ := K9.2.2.2.1
  refine ⟨_, hq, cX5_mergedShare hl K9 rfl hq, ?_⟩
  have en : mh_sum (fun r₀ => mh_sum (mh_ms (mh_fT M t₀ 2) (mh_fT M t₀ 3) r₀) (gi M m₀ 2).toNat) (gi M m₀ 1).toNat = mh_sum (fun i₀ => (if gi M (gr M (t₀ + 3 + 1) i₀) 2 * gi M (gr M (t₀ + 3 + 1) i₀) 3 ≤ 1 then (0 : Int) else gi M (gr M (t₀ + 3 + 1) i₀) 2 * gi M (gr M (t₀ + 3 + 1) i₀) 3)) (gi M (t₀ + 3) 0).toNat := by rw [zf.1, zf.2.1]; exact (mh_arM tl nb).symm
  have R := @cX6_mergedShare D l hl M m₀ (mh_fT M t₀ 0) (mh_fT M t₀ 1) (mh_fT M t₀ 2) (mh_fT M t₀ 3) _ st₀ rc (by omega) rts en (by rw [zf.1, zf.2.1]; exact hq)
  rw [zf.1, zf.2.1] at R
  refine mg_MtN R ?_
  rintro w₀ Q₀ ⟨e₀, hQ⟩
  exact ⟨e₀, mh_INV_q I₀ hQ⟩
