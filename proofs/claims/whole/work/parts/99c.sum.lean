/-! sums: swapped, counted, carried₀ over by a₀ bijection -/
theorem mh_sum_add (n₀ : Nat) (f₀ g₀ : Nat → Int) : mh_sum (fun k₀ => f₀ k₀ + g₀ k₀) n₀ = mh_sum f₀ n₀ + mh_sum g₀ n₀ := by
  induction n₀ with
  | zero => rfl
  | succ n₀ ih₀ =>
    show mh_sum (fun k₀ => f₀ k₀ + g₀ k₀) n₀ + (f₀ n₀ + g₀ n₀) = (mh_sum f₀ n₀ + f₀ n₀) + (mh_sum g₀ n₀ + g₀ n₀)
    rw [ih₀]
    omega
theorem mh_sum_z (n₀ : Nat) : mh_sum (fun _ => 0) n₀ = 0 := by
  induction n₀ with
  | zero => rfl
  | succ n₀ ih₀ =>
    show mh_sum (fun _ => 0) n₀ + 0 = 0
    rw [ih₀]
    rfl
theorem mh_sum_sw (m₀ n₀ : Nat) (f₀ : Nat → Nat → Int) : mh_sum (fun i₀ => mh_sum (fun j₀ => f₀ i₀ j₀) n₀) m₀ = mh_sum (fun j₀ => mh_sum (fun i₀ => f₀ i₀ j₀) m₀) n₀ := by
  induction m₀ with
  | zero => exact (mh_sum_z n₀).symm
  | succ m₀ ih₀ =>
    show mh_sum (fun i₀ => mh_sum (fun j₀ => f₀ i₀ j₀) n₀) m₀ + mh_sum (fun j₀ => f₀ m₀ j₀) n₀ = mh_sum (fun j₀ => mh_sum (fun i₀ => f₀ i₀ j₀) m₀ + f₀ m₀ j₀) n₀
    rw [ih₀, mh_sum_add]
theorem mh_sum_cm (n₀ : Nat) (c₀ : Int) : mh_sum (fun _ => c₀) n₀ = n₀ * c₀ := by
  induction n₀ with
  | zero => exact (Int.zero_mul c₀).symm
  | succ n₀ ih₀ =>
    show mh_sum (fun _ => c₀) n₀ + c₀ = ((n₀ + 1 : Nat) : Int) * c₀
    rw [ih₀, Int.natCast_add, Int.add_mul]
    show _ = _ + 1 * c₀
    rw [Int.one_mul]
theorem mh_sum_iv {a₀ b₀ c₀ : Int} (h₀ : 0 ≤ a₀ ∧ a₀ ≤ b₀) (n₀ : Nat) (hb₀ : b₀ ≤ n₀) : mh_sum (fun k₀ => if a₀ ≤ (k₀ : Int) ∧ (k₀ : Int) < b₀ then c₀ else 0) n₀ = (b₀ - a₀) * c₀ := by
  have L₀ : ∀ m₀ : Nat, mh_sum (fun k₀ => if a₀ ≤ (k₀ : Int) ∧ (k₀ : Int) < b₀ then c₀ else 0) m₀ = (if (m₀ : Int) ≤ a₀ then 0 else if (m₀ : Int) ≤ b₀ then m₀ - a₀ else b₀ - a₀) * c₀ := by
    intro m₀
    induction m₀ with
    | zero => rw [if_pos (by omega), Int.zero_mul]; rfl
    | succ m₀ ih₀ =>
      show mh_sum (fun k₀ => if a₀ ≤ (k₀ : Int) ∧ (k₀ : Int) < b₀ then c₀ else 0) m₀ + (if a₀ ≤ (m₀ : Int) ∧ (m₀ : Int) < b₀ then c₀ else 0) = _
      rw [ih₀]
      by_cases x₀ : a₀ ≤ (m₀ : Int) ∧ (m₀ : Int) < b₀
      · have e₀ : (if ((m₀ + 1 : Nat) : Int) ≤ a₀ then (0 : Int) else if ((m₀ + 1 : Nat) : Int) ≤ b₀ then ((m₀ + 1 : Nat) : Int) - a₀ else b₀ - a₀) = (if (m₀ : Int) ≤ a₀ then 0 else if (m₀ : Int) ≤ b₀ then m₀ - a₀ else b₀ - a₀) + 1 := by
          (repeat' split) <;> omega
        rw [e₀, if_pos x₀, Int.add_mul, Int.one_mul]
      · have e₀ : (if ((m₀ + 1 : Nat) : Int) ≤ a₀ then (0 : Int) else if ((m₀ + 1 : Nat) : Int) ≤ b₀ then ((m₀ + 1 : Nat) : Int) - a₀ else b₀ - a₀) = (if (m₀ : Int) ≤ a₀ then 0 else if (m₀ : Int) ≤ b₀ then m₀ - a₀ else b₀ - a₀) := by
          (repeat' split) <;> omega
        rw [e₀, if_neg x₀, Int.add_zero]
  rw [L₀ n₀]
  by_cases x₀ : (n₀ : Int) ≤ a₀
  · rw [if_pos x₀, show b₀ - a₀ = 0 by omega]
  · rw [if_neg x₀]
    by_cases y₀ : (n₀ : Int) ≤ b₀
    · rw [if_pos y₀, show (n₀ : Int) - a₀ = b₀ - a₀ by omega]
    · rw [if_neg y₀]
theorem mh_sum_pt {c₀ : Int} {j₀ : Nat} (n₀ : Nat) (hj : j₀ < n₀) : mh_sum (fun k₀ => if k₀ = j₀ then c₀ else 0) n₀ = c₀ := by
  have h₀ := @mh_sum_iv j₀ (j₀ + 1) c₀ (by omega) n₀ (by omega)
  rw [show (j₀ : Int) + 1 - j₀ = 1 by omega, Int.one_mul] at h₀
  refine (mh_sum_cg n₀ (fun k₀ hk => ?_)).trans h₀
  by_cases x₀ : k₀ = j₀
  · rw [if_pos x₀, if_pos (by omega)]
  · rw [if_neg x₀, if_neg (by omega)]
/-- s₀ carries the places₀ below₀ n₀ to those below₀ m₀, each₀ of them once -/
theorem mh_sum_bij {n₀ m₀ : Nat} {f₀ g₀ : Nat → Int} (s₀ : Nat → Nat) (h1 : ∀ i₀, i₀ < n₀ → s₀ i₀ < m₀) (h2 : ∀ i₀ j₀, i₀ < n₀ → j₀ < n₀ → s₀ i₀ = s₀ j₀ → i₀ = j₀) (h3 : ∀ k₀, k₀ < m₀ → ∃ i₀, i₀ < n₀ ∧ s₀ i₀ = k₀) (h₀ : ∀ i₀, i₀ < n₀ → g₀ (s₀ i₀) = f₀ i₀) : mh_sum g₀ m₀ = mh_sum f₀ n₀ := by
  have e1₀ : mh_sum f₀ n₀ = mh_sum (fun i₀ => mh_sum (fun k₀ => if k₀ = s₀ i₀ then g₀ k₀ else 0) m₀) n₀ := by
    refine mh_sum_cg n₀ (fun i₀ hi => ?_)
    have e₀ : mh_sum (fun k₀ => if k₀ = s₀ i₀ then g₀ k₀ else 0) m₀ = mh_sum (fun k₀ => if k₀ = s₀ i₀ then g₀ (s₀ i₀) else 0) m₀ := by
      refine mh_sum_cg m₀ (fun k₀ _ => ?_)
      by_cases x₀ : k₀ = s₀ i₀
      · rw [if_pos x₀, if_pos x₀, x₀]
      · rw [if_neg x₀, if_neg x₀]
    rw [e₀, mh_sum_pt m₀ (h1 i₀ hi), h₀ i₀ hi]
  rw [e1₀, mh_sum_sw]
  refine mh_sum_cg m₀ (fun k₀ hk => ?_)
  obtain ⟨i₀, hi, e₀⟩ := h3 k₀ hk
  have e2₀ : mh_sum (fun j₀ => if k₀ = s₀ j₀ then g₀ k₀ else 0) n₀ = mh_sum (fun j₀ => if j₀ = i₀ then g₀ k₀ else 0) n₀ := by
    refine mh_sum_cg n₀ (fun j₀ hj => ?_)
    by_cases x₀ : j₀ = i₀
    · rw [if_pos x₀, if_pos (by rw [x₀, e₀])]
    · rw [if_neg x₀, if_neg (fun y₀ => x₀ (h2 j₀ i₀ hj hi (by omega)))]
  rw [e2₀, mh_sum_pt n₀ hi]
/-- the squares of the cells₀ of a₀ tiled table₀ are all its squares -/
theorem mh_arT {M : mg_M} {t₀ : Nat} (tl : mh_tl M t₀) (nb : mh_nb M t₀) : mh_sum (fun i₀ => gi M (gr M (t₀ + 3 + 1) i₀) 2 * gi M (gr M (t₀ + 3 + 1) i₀) 3) (gi M (t₀ + 3) 0).toNat = gi M t₀ 0 * gi M t₀ 1 := by
  have bb := tl.1.2.2
  have own₀ := tl.2.2.2.1
  have z₀ := tl.2.1.2.2.2.2.2.2.1
  have e1₀ : mh_sum (fun i₀ => gi M (gr M (t₀ + 3 + 1) i₀) 2 * gi M (gr M (t₀ + 3 + 1) i₀) 3) (gi M (t₀ + 3) 0).toNat = mh_sum (fun i₀ => mh_sum (fun p₀ => mh_sum (fun q₀ => if gi M (gr M (t₀ + 3 + 1) i₀) 0 ≤ (p₀ : Int) ∧ (p₀ : Int) < gi M (gr M (t₀ + 3 + 1) i₀) 0 + gi M (gr M (t₀ + 3 + 1) i₀) 2 then (if gi M (gr M (t₀ + 3 + 1) i₀) 1 ≤ (q₀ : Int) ∧ (q₀ : Int) < gi M (gr M (t₀ + 3 + 1) i₀) 1 + gi M (gr M (t₀ + 3 + 1) i₀) 3 then 1 else 0) else 0) (gi M t₀ 1).toNat) (gi M t₀ 0).toNat) (gi M (t₀ + 3) 0).toNat := by
    refine mh_sum_cg _ (fun i₀ hi => ?_)
    have o := tl.2.2.1 i₀ (by omega)
    unfold mh_ok at o
    have h1 := @mh_sum_iv (gi M (gr M (t₀ + 3 + 1) i₀) 1) (gi M (gr M (t₀ + 3 + 1) i₀) 1 + gi M (gr M (t₀ + 3 + 1) i₀) 3) 1 (by omega) (gi M t₀ 1).toNat (by omega)
    have h2 := @mh_sum_iv (gi M (gr M (t₀ + 3 + 1) i₀) 0) (gi M (gr M (t₀ + 3 + 1) i₀) 0 + gi M (gr M (t₀ + 3 + 1) i₀) 2) (gi M (gr M (t₀ + 3 + 1) i₀) 3) (by omega) (gi M t₀ 0).toNat (by omega)
    rw [show gi M (gr M (t₀ + 3 + 1) i₀) 0 + gi M (gr M (t₀ + 3 + 1) i₀) 2 - gi M (gr M (t₀ + 3 + 1) i₀) 0 = gi M (gr M (t₀ + 3 + 1) i₀) 2 by omega] at h2
    rw [← h2]
    refine mh_sum_cg _ (fun p₀ hp => ?_)
    by_cases x₀ : gi M (gr M (t₀ + 3 + 1) i₀) 0 ≤ (p₀ : Int) ∧ (p₀ : Int) < gi M (gr M (t₀ + 3 + 1) i₀) 0 + gi M (gr M (t₀ + 3 + 1) i₀) 2
    · simp only [if_pos x₀]
      rw [h1]
      omega
    · simp only [if_neg x₀]
      exact (mh_sum_z _).symm
  rw [e1₀, mh_sum_sw]
  have e2₀ : mh_sum (fun _ => gi M t₀ 1) (gi M t₀ 0).toNat = gi M t₀ 0 * gi M t₀ 1 := by
    rw [mh_sum_cm, Int.toNat_of_nonneg (by omega)]
  rw [← e2₀]
  refine mh_sum_cg _ (fun p₀ hp => ?_)
  rw [mh_sum_sw]
  have e3₀ : mh_sum (fun _ => 1) (gi M t₀ 1).toNat = gi M t₀ 1 := by
    rw [mh_sum_cm, Int.mul_one, Int.toNat_of_nonneg (by omega)]
  refine (mh_sum_cg _ (fun q₀ hq => ?_)).trans e3₀
  obtain ⟨j₀, hj, w₀, eo⟩ := @mh_tl_ow M t₀ p₀ q₀ tl (by omega) (by omega) (nb p₀ q₀ (by omega) (by omega) (by omega) (by omega))
  have e4₀ : ∀ i₀ : Nat, i₀ < (gi M (t₀ + 3) 0).toNat → (if gi M (gr M (t₀ + 3 + 1) i₀) 0 ≤ (p₀ : Int) ∧ (p₀ : Int) < gi M (gr M (t₀ + 3 + 1) i₀) 0 + gi M (gr M (t₀ + 3 + 1) i₀) 2 then (if gi M (gr M (t₀ + 3 + 1) i₀) 1 ≤ (q₀ : Int) ∧ (q₀ : Int) < gi M (gr M (t₀ + 3 + 1) i₀) 1 + gi M (gr M (t₀ + 3 + 1) i₀) 3 then (1 : Int) else 0) else 0) = if i₀ = j₀ then 1 else 0 := by
    intro i₀ hi
    by_cases x₀ : i₀ = j₀
    · rw [x₀, if_pos rfl]
      unfold mh_cv at w₀
      rw [if_pos (by omega), if_pos (by omega)]
    · rw [if_neg x₀]
      have nw : ¬ mh_cv M t₀ i₀ p₀ q₀ := by
        intro w2₀
        have h1 := own₀ i₀ (by omega) p₀ q₀ w2₀
        have h2 := own₀ j₀ hj p₀ q₀ w₀
        omega
      unfold mh_cv at nw
      (repeat' split) <;> omega
  rw [mh_sum_cg _ e4₀]
  exact mh_sum_pt _ (by omega)
set_option maxRecDepth 100000 in
theorem cX4_isCoveredOnce {D : mg_D} {l : Launch} (hl : l.stackTraces = false) {M : mg_M} {t₀ : Nat} (tl : mh_tl M t₀) (nb : mh_nb M t₀) : mg_Mt D l 68 [.inr (.inl t₀)] M (fun v₀ N => v₀ = some (.inl 1) ∧ N = M) mg_no := by
  refine mg_of2 hl ok_X4_isCoveredOnce al_X4_isCoveredOnce rfl (fun K hK₀ => ?_)
  have tb₀ := tl.1
  have cl₀ := tl.2.1
  have bb := tb₀.2.2
  have z₀ := cl₀.2.2.2.2.2.2.1
  have ar := mh_arT tl nb
  obtain ⟨n₀, hn⟩ : ∃ n₀ : Nat, gi M (t₀ + 3) 0 = n₀ := ⟨(gi M (t₀ + 3) 0).toNat, by omega⟩
  rw [hn, Int.toNat_natCast] at ar
  have k5₀ := tb₀.1.1
  have g5₀ : gr M t₀ 5 = t₀ + 3 := tb₀.1.2.2.2.1
  have g5n : gr M t₀ 5 ≠ 0 := by omega
  have kc₀ : kd M (gr M t₀ 5) = 4 := by rw [g5₀]; exact cl₀.1
  have sz₀ : gi M (gr M t₀ 5) 0 = n₀ := by rw [g5₀]; exact hn
  have arb : 0 ≤ gi M t₀ 0 * gi M t₀ 1 ∧ gi M t₀ 0 * gi M t₀ 1 ≤ 120 := by
    have h1 := Int.mul_nonneg (show 0 ≤ gi M t₀ 0 by omega) (show 0 ≤ gi M t₀ 1 by omega)
    have h2 : gi M t₀ 0 * gi M t₀ 1 ≤ 12 * 10 := Int.mul_le_mul (by omega) (by omega) (by omega) (by omega)
    omega
  have cb : ∀ i₀ : Nat, i₀ < n₀ → 0 ≤ gi M (gr M (t₀ + 3 + 1) i₀) 2 * gi M (gr M (t₀ + 3 + 1) i₀) 3 ∧ gi M (gr M (t₀ + 3 + 1) i₀) 2 * gi M (gr M (t₀ + 3 + 1) i₀) 3 ≤ 120 := by
    intro i₀ hi
    have o := tl.2.2.1 i₀ (by omega)
    unfold mh_ok at o
    have h1 := Int.mul_nonneg (show 0 ≤ gi M (gr M (t₀ + 3 + 1) i₀) 2 by omega) (show 0 ≤ gi M (gr M (t₀ + 3 + 1) i₀) 3 by omega)
    have h2 : gi M (gr M (t₀ + 3 + 1) i₀) 2 * gi M (gr M (t₀ + 3 + 1) i₀) 3 ≤ 12 * 10 := Int.mul_le_mul (by omega) (by omega) (by omega) (by omega)
    omega
  have LP₀ : K 4 [(0, Sum.inr (Sum.inl t₀)), (1, Sum.inl 0), (2, Sum.inl 0)] [] M 0 := by
    refine mh_for (P := fun j₀ s₀ => s₀ = mh_sum (fun i₀ => gi M (gr M (t₀ + 3 + 1) i₀) 2 * gi M (gr M (t₀ + 3 + 1) i₀) 3) j₀.toNat) (G := fun j₀ s₀ => K 4 [(0, Sum.inr (Sum.inl t₀)), (1, Sum.inl s₀), (2, Sum.inl j₀)] [] M 0) (lo := 0) (hi := n₀) (by omega) ?_ ?_ 0 rfl
    · intro s₀ hs
      rw [Int.toNat_natCast, ar] at hs
      have Q₀ : some (Sum.inl 1 : mg_V) = some (.inl 1) ∧ M = M := ⟨rfl, rfl⟩
      clear tl nb tb₀ cl₀ cb ar
      subst hs
      refine hK₀ _ _ _ _ _ ?_
      (repeat' (((conv => whnf); first | (show (_ : Option mg_V) = _ ∧ _; assumption) | (show K _ _ _ _ _; assumption) | (show mm_th _ _ _ _; assumption) | refine And.intro (by first | assumption | omega | (simp only [true_and, kd_si, gr_si]; first | done | assumption | omega)) ?_ | (refine And.intro (fun _ => ?_) (fun _ => ?_) <;> first | (exfalso; omega) | skip) | intro _ | fail)))
      all_goals ((conv => whnf); first | exact Q₀ | (exfalso; omega))
    · intro j₀ s₀ j0 j1 hs nex
      have sb₀ := mh_suml (fun i₀ => gi M (gr M (t₀ + 3 + 1) i₀) 2 * gi M (gr M (t₀ + 3 + 1) i₀) 3) 120 j₀.toNat (fun i₀ hi => cb i₀ (by omega))
      rw [← hs] at sb₀
      have cj := cb j₀.toNat (by omega)
      have nex2 : ∀ z₀, z₀ = s₀ + gi M (gr M (t₀ + 3 + 1) j₀.toNat) 2 * gi M (gr M (t₀ + 3 + 1) j₀.toNat) 3 → K 4 [(0, Sum.inr (Sum.inl t₀)), (1, Sum.inl z₀), (2, Sum.inl (j₀ + 1))] [] M 0 := by
        intro z₀ hz
        refine nex z₀ ?_
        rw [mh_sumI j0, ← hs]
        exact hz
      have ow := @cX4_ownsIts0 D l hl M t₀ j₀.toNat j₀ (by omega) tl (by omega)
      have gt := @cX3_get D l hl M (t₀ + 3) j₀ cl₀ (by omega)
      have ka := (cl₀.2.2.2.2.2.2.2.1 j₀.toNat (by omega)).1
      clear tl nb tb₀ cl₀ cb ar nex hs
      refine hK₀ _ _ _ _ _ ?_
      (repeat' (((conv => whnf); first | (show (_ : Option mg_V) = _ ∧ _; assumption) | (show K _ _ _ _ _; assumption) | (show mm_th _ _ _ _; assumption) | refine And.intro (by first | assumption | omega | (simp only [true_and, kd_si, gr_si]; first | done | assumption | omega)) ?_ | (refine And.intro (fun _ => ?_) (fun _ => ?_) <;> first | (exfalso; omega) | skip) | intro _ | fail)))
      all_goals (try ((conv => whnf); (refine Exists.intro _ (Exists.intro _ (And.intro (ow) (And.intro ?_ (fun _ _ h₀ => h₀.elim)))); rintro _ _ ⟨rfl, e₀⟩; have e2₀ := e₀.symm; clear e₀; subst e2₀); (repeat' (((conv => whnf); first | (show (_ : Option mg_V) = _ ∧ _; assumption) | (show K _ _ _ _ _; assumption) | (show mm_th _ _ _ _; assumption) | refine And.intro (by first | assumption | omega | (simp only [true_and, kd_si, gr_si]; first | done | assumption | omega)) ?_ | (refine And.intro (fun _ => ?_) (fun _ => ?_) <;> first | (exfalso; omega) | skip) | intro _ | fail)))))
      all_goals ((conv => whnf); try rw [g5₀])
      (refine Exists.intro _ (Exists.intro _ (And.intro (gt) (And.intro ?_ (fun _ _ h₀ => h₀.elim)))); rintro _ _ ⟨rfl, e₀⟩; have e2₀ := e₀.symm; clear e₀; subst e2₀)
      (repeat' (((conv => whnf); first | (show (_ : Option mg_V) = _ ∧ _; assumption) | (show K _ _ _ _ _; assumption) | (show mm_th _ _ _ _; assumption) | refine And.intro (by first | assumption | omega | (simp only [true_and, kd_si, gr_si]; first | done | assumption | omega)) ?_ | (refine And.intro (fun _ => ?_) (fun _ => ?_) <;> first | (exfalso; omega) | skip) | intro _ | fail)))
      all_goals ((conv => whnf); try rw [g5₀])
      (refine Exists.intro _ (Exists.intro _ (And.intro (gt) (And.intro ?_ (fun _ _ h₀ => h₀.elim)))); rintro _ _ ⟨rfl, e₀⟩; have e2₀ := e₀.symm; clear e₀; subst e2₀)
      (repeat' (((conv => whnf); first | (show (_ : Option mg_V) = _ ∧ _; assumption) | (show K _ _ _ _ _; assumption) | (show mm_th _ _ _ _; assumption) | refine And.intro (by first | assumption | omega | (simp only [true_and, kd_si, gr_si]; first | done | assumption | omega)) ?_ | (refine And.intro (fun _ => ?_) (fun _ => ?_) <;> first | (exfalso; omega) | skip) | intro _ | fail)))
      all_goals ((conv => whnf); exact nex2 _ rfl)
  clear tl nb cl₀ cb ar
  refine hK₀ _ _ _ _ _ ?_
  (repeat' (((conv => whnf); first | (show (_ : Option mg_V) = _ ∧ _; assumption) | (show K _ _ _ _ _; assumption) | (show mm_th _ _ _ _; assumption) | refine And.intro (by first | assumption | omega | (simp only [true_and, kd_si, gr_si]; first | done | assumption | omega)) ?_ | (refine And.intro (fun _ => ?_) (fun _ => ?_) <;> first | (exfalso; omega) | skip) | intro _ | fail)))
