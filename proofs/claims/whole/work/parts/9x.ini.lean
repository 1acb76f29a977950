/-! MergeGrid's constructor -/
def mh_lg (M N : mg_M) (g₀ m₀ : Nat) : Prop := ∀ a₀, a₀ < m₀ → kd N a₀ = kd M a₀ ∧ ln N a₀ = ln M a₀ ∧ (∀ k₀, gi N a₀ k₀ = gi M a₀ k₀) ∧ (a₀ ≠ g₀ → ∀ k₀, gr N a₀ k₀ = gr M a₀ k₀)
theorem mh_lg_tr {M N P : mg_M} {g₀ m₀ : Nat} (h₀ : mh_lg M N g₀ m₀) (k₀ : mh_lg N P g₀ m₀) : mh_lg M P g₀ m₀ := by
  intro a₀ ha₀
  obtain ⟨h1, h2, h3, h4⟩ := h₀ a₀ ha₀
  obtain ⟨k1₀, k2₀, k3₀, k4₀⟩ := k₀ a₀ ha₀
  exact ⟨k1₀.trans h1, k2₀.trans h2, fun j₀ => (k3₀ j₀).trans (h3 j₀), fun n₀ j₀ => (k4₀ n₀ j₀).trans (h4 n₀ j₀)⟩
theorem mh_lg_lo {M N : mg_M} {g₀ m₀ n₀ : Nat} (h₀ : mm_lo M N n₀) (hm₀ : m₀ ≤ n₀) : mh_lg M N g₀ m₀ := fun a₀ ha₀ => by
  obtain ⟨h1, h2, h3, h4, _, _⟩ := h₀ a₀ (by omega)
  exact ⟨h1, h2, h4, fun _ => h3⟩
theorem mh_lg_sr {M N : mg_M} {g₀ m₀ s₀ x₀ : Nat} (h₀ : mh_lg M N g₀ m₀) : mh_lg M (sr N g₀ s₀ x₀) g₀ m₀ := by
  intro a₀ ha₀
  obtain ⟨h1, h2, h3, h4⟩ := h₀ a₀ ha₀
  exact ⟨h1, h2, h3, fun n₀ k₀ => by rw [gr_sr, if_neg (fun w₀ => n₀ w₀.1)]; exact h4 n₀ k₀⟩
theorem mh_lg_le {M N : mg_M} {g₀ m₀ n₀ : Nat} (h₀ : mh_lg M N g₀ n₀) (hm₀ : m₀ ≤ n₀) : mh_lg M N g₀ m₀ := fun a₀ ha₀ => h₀ a₀ (by omega)
def mh_N0 (M N : mg_M) (g₀ : Nat) : Prop := (nx N = g₀ + 385 ∧ mm_lo M N g₀) ∧ mh_K N g₀ (g₀ + 1) (g₀ + 130) ∧ gi N g₀ 2 = 0 ∧ (gi N (g₀ + 259) 0 = 0 ∧ gi N (g₀ + 259) 1 = 0 ∧ gi N (g₀ + 259) 2 = 0 ∧ gi N (g₀ + 259) 3 = 0) ∧ gi N (g₀ + 261) 0 = 0 ∧ (gi N (g₀ + 1) 0 = 4 ∧ gi N (g₀ + 1) 1 = 4 ∧ gi N (g₀ + 1) 2 = 0) ∧ (∀ p₀ q₀, mh_rg 4 4 p₀ q₀ → (gi N (mh_co N (g₀ + 1) p₀ q₀) 0 = p₀ ∧ gi N (mh_co N (g₀ + 1) p₀ q₀) 1 = q₀ ∧ gi N (mh_co N (g₀ + 1) p₀ q₀) 2 = 1 ∧ gi N (mh_co N (g₀ + 1) p₀ q₀) 3 = 1) ∧ gi N (mh_co N (g₀ + 1) p₀ q₀) 4 = 0 ∧ gi N (mh_co N (g₀ + 1) p₀ q₀) 5 = 0) ∧ (∀ k₀ : Int, 0 ≤ k₀ → k₀ < 4 → gi N (g₀ + 1 + 2) k₀.toNat = 50) ∧ ∀ k₀ : Int, 0 ≤ k₀ → k₀ < 4 → gi N (g₀ + 1 + 1) k₀.toNat = 20
theorem mh_N0_of {M N1 Z1 N2 Z2 Z3 Z4 N5 Z5 : mg_M} {g₀ : Nat} (k6₀ : kd M g₀ = 6) (hn : nx M = g₀ + 1) (hz : ∀ k₀, gi M g₀ k₀ = 0) (t1₀ : mh_T0 (al M 5 0) N1 (g₀ + 1)) (e1₀ : Z1 = sr N1 g₀ 0 (g₀ + 1)) (t2₀ : mh_T0 (al Z1 5 0) N2 (g₀ + 130)) (e2₀ : Z2 = sr N2 g₀ 1 (g₀ + 130)) (e3₀ : Z3 = sr (al Z2 1 0) g₀ 3 (g₀ + 259)) (e4₀ : Z4 = sr (al Z3 1 0) g₀ 4 (g₀ + 260)) (t5₀ : mh_B0 (al Z4 2 0) N5 (g₀ + 261)) (e5₀ : Z5 = sr N5 g₀ 5 (g₀ + 261)) : mh_N0 M Z5 g₀ := by
  have n1₀ := t1₀.1.1
  have x1₀ : nx Z1 = g₀ + 130 := by rw [e1₀, nx_sr]; omega
  have n2₀ := t2₀.1.1
  have x2₀ : nx Z2 = g₀ + 259 := by rw [e2₀, nx_sr]; omega
  have x3 : nx Z3 = g₀ + 260 := by rw [e3₀, nx_sr, nx_al]; omega
  have x4₀ : nx Z4 = g₀ + 261 := by rw [e4₀, nx_sr, nx_al]; omega
  have n5₀ := t5₀.1.1
  have A1 : mh_lg N1 Z1 g₀ (g₀ + 130) := by rw [e1₀]; exact mh_lg_sr (mh_lg_lo mm_lo_rfl (Nat.le_refl _))
  have A2 : mh_lg Z1 Z2 g₀ (g₀ + 130) := by rw [e2₀]; exact mh_lg_sr (mh_lg_tr (mh_lg_lo mm_lo_al (by omega)) (mh_lg_lo t2₀.1.2 (by omega)))
  have A2' : mh_lg N2 Z2 g₀ (g₀ + 259) := by rw [e2₀]; exact mh_lg_sr (mh_lg_lo mm_lo_rfl (Nat.le_refl _))
  have A3 : mh_lg Z2 Z3 g₀ (g₀ + 259) := by rw [e3₀]; exact mh_lg_sr (mh_lg_lo mm_lo_al (by omega))
  have A4 : mh_lg Z3 Z4 g₀ (g₀ + 260) := by rw [e4₀]; exact mh_lg_sr (mh_lg_lo mm_lo_al (by omega))
  have A5 : mh_lg Z4 Z5 g₀ (g₀ + 261) := by rw [e5₀]; exact mh_lg_sr (mh_lg_tr (mh_lg_lo mm_lo_al (by omega)) (mh_lg_lo t5₀.1.2 (by omega)))
  have A5' : mh_lg N5 Z5 g₀ (g₀ + 385) := by rw [e5₀]; exact mh_lg_sr (mh_lg_lo mm_lo_rfl (Nat.le_refl _))
  have B1 : mh_lg N1 Z5 g₀ (g₀ + 130) := mh_lg_tr A1 (mh_lg_tr A2 (mh_lg_tr (mh_lg_le A3 (by omega)) (mh_lg_tr (mh_lg_le A4 (by omega)) (mh_lg_le A5 (by omega)))))
  have B2 : mh_lg N2 Z5 g₀ (g₀ + 259) := mh_lg_tr A2' (mh_lg_tr A3 (mh_lg_tr (mh_lg_le A4 (by omega)) (mh_lg_le A5 (by omega))))
  have B3 : mh_lg Z3 Z5 g₀ (g₀ + 260) := mh_lg_tr A4 (mh_lg_le A5 (by omega))
  have E1₀ : mh_eq N1 Z5 (g₀ + 1) := fun a₀ h1 h2 => by
    obtain ⟨c1₀, c2₀, c3₀, c4₀⟩ := B1 a₀ (by omega)
    exact ⟨c1₀, c2₀, c4₀ (by omega), c3₀⟩
  have E2 : mh_eq N2 Z5 (g₀ + 130) := fun a₀ h1 h2 => by
    obtain ⟨c1₀, c2₀, c3₀, c4₀⟩ := B2 a₀ (by omega)
    exact ⟨c1₀, c2₀, c4₀ (by omega), c3₀⟩
  have kg1 : kd N1 g₀ = 6 := ((t1₀.1.2 g₀ (by omega)).1).trans (by rw [kd_al, if_neg (by omega)]; exact k6₀)
  have kg5 : kd Z5 g₀ = 6 := (B1 g₀ (by omega)).1.trans kg1
  have vg : ∀ k₀, gi Z5 g₀ k₀ = 0 := fun k₀ => ((B1 g₀ (by omega)).2.2.1 k₀).trans (((t1₀.1.2 g₀ (by omega)).2.2.2.1 k₀).trans (by rw [gi_al, if_neg (by omega)]; exact hz k₀))
  -- the references₀ of the object itself₀
  have r5₀ : ∀ k₀, gr Z5 g₀ k₀ = if k₀ = 5 then g₀ + 261 else gr Z4 g₀ k₀ := by
    intro k₀
    rw [e5₀, gr_sr]
    by_cases c₀ : k₀ = 5
    · rw [if_pos ⟨rfl, c₀⟩, if_pos c₀]
    · rw [if_neg (fun w₀ => c₀ w₀.2), if_neg c₀, (t5₀.1.2 g₀ (by omega)).2.2.1, gr_al, if_neg (by omega)]
  have r4 : ∀ k₀, gr Z4 g₀ k₀ = if k₀ = 4 then g₀ + 260 else gr Z3 g₀ k₀ := by
    intro k₀
    rw [e4₀, gr_sr]
    by_cases c₀ : k₀ = 4
    · rw [if_pos ⟨rfl, c₀⟩, if_pos c₀]
    · rw [if_neg (fun w₀ => c₀ w₀.2), if_neg c₀, gr_al, if_neg (by omega)]
  have r3 : ∀ k₀, gr Z3 g₀ k₀ = if k₀ = 3 then g₀ + 259 else gr Z2 g₀ k₀ := by
    intro k₀
    rw [e3₀, gr_sr]
    by_cases c₀ : k₀ = 3
    · rw [if_pos ⟨rfl, c₀⟩, if_pos c₀]
    · rw [if_neg (fun w₀ => c₀ w₀.2), if_neg c₀, gr_al, if_neg (by omega)]
  have r2 : ∀ k₀, gr Z2 g₀ k₀ = if k₀ = 1 then g₀ + 130 else gr Z1 g₀ k₀ := by
    intro k₀
    rw [e2₀, gr_sr]
    by_cases c₀ : k₀ = 1
    · rw [if_pos ⟨rfl, c₀⟩, if_pos c₀]
    · rw [if_neg (fun w₀ => c₀ w₀.2), if_neg c₀, (t2₀.1.2 g₀ (by omega)).2.2.1, gr_al, if_neg (by omega)]
  have r1₀ : gr Z1 g₀ 0 = g₀ + 1 := by rw [e1₀, gr_sr, if_pos ⟨rfl, rfl⟩]
  have g0 : gr Z5 g₀ 0 = g₀ + 1 := by rw [r5₀, if_neg (by omega), r4, if_neg (by omega), r3, if_neg (by omega), r2, if_neg (by omega)]; exact r1₀
  have g1 : gr Z5 g₀ 1 = g₀ + 130 := by rw [r5₀, if_neg (by omega), r4, if_neg (by omega), r3, if_neg (by omega), r2, if_pos rfl]
  have g3₀ : gr Z5 g₀ 3 = g₀ + 259 := by rw [r5₀, if_neg (by omega), r4, if_neg (by omega), r3, if_pos rfl]
  have g4 : gr Z5 g₀ 4 = g₀ + 260 := by rw [r5₀, if_neg (by omega), r4, if_pos rfl]
  have g5₀ : gr Z5 g₀ 5 = g₀ + 261 := by rw [r5₀, if_pos rfl]
  have a259 : kd Z5 (g₀ + 259) = 1 ∧ ∀ k₀, gi Z5 (g₀ + 259) k₀ = 0 := by
    obtain ⟨c1₀, _, c3₀, _⟩ := B3 (g₀ + 259) (by omega)
    refine ⟨c1₀.trans ?_, fun k₀ => (c3₀ k₀).trans ?_⟩
    · rw [e3₀, kd_sr, kd_al, if_pos x2₀.symm]
    · rw [e3₀, gi_sr, gi_al, if_pos x2₀.symm]
  have a260 : kd Z5 (g₀ + 260) = 1 := by
    obtain ⟨c1₀, _, c3₀, _⟩ := A5 (g₀ + 260) (by omega)
    refine c1₀.trans ?_
    rw [e4₀, kd_sr, kd_al, if_pos x3.symm]
  obtain ⟨b1, _, b3, b4⟩ := A5' (g₀ + 261) (by omega)
  have clb : mg_cL Z5 (g₀ + 261 + 1) := mh_cL_lo t5₀.2.1.2.2 (fun a₀ h1 h2 => by
    obtain ⟨c1₀, c2₀, c3₀, c4₀⟩ := A5' a₀ (by omega)
    exact ⟨c1₀, c2₀, c4₀ (by omega), c3₀⟩)
  have tl := mh_eq_tl E1₀ t1₀.2.1.1 t1₀.2.1.2
  have tu := mh_eq_tl E2 t2₀.2.1.1 t2₀.2.1.2
  have v1₀ := (E1₀ (g₀ + 1) (by omega) (by omega)).2.2.2
  have s0₀ := t1₀.2.2.1
  refine ⟨⟨by rw [e5₀, nx_sr]; exact n5₀, ?_⟩, ⟨⟨⟨kg5, g0, (B1 (g₀ + 1) (by omega)).1.trans t1₀.2.1.1.1.1.1, by omega⟩, g1, g3₀, g4, g5₀⟩, ⟨a259.1, a260, b1.trans t5₀.2.1.1, (b4 (by omega) 2).trans t5₀.2.1.2.1, clb⟩, Or.inl ⟨rfl, rfl⟩, tl, ⟨tu.1.1, tu.1.2.1⟩, by rw [v1₀, v1₀]; omega, by rw [v1₀, v1₀]; omega, ?_⟩, vg 2, ⟨a259.2 0, a259.2 1, a259.2 2, a259.2 3⟩, (b3 0).trans t5₀.2.2.1, ⟨(v1₀ 0).trans s0₀.1, (v1₀ 1).trans s0₀.2.1, (v1₀ 2).trans s0₀.2.2⟩, fun p₀ q₀ h₀ => ?_, fun k₀ k0₀ k1₀ => ?_, fun k₀ k0₀ k1₀ => ?_⟩
  · rw [e5₀]
    refine mm_lo_sr (mm_lo_tr ?_ (mm_lo_tr (mm_lo_le mm_lo_al (by omega)) (mm_lo_le t5₀.1.2 (by omega)))) (Nat.le_refl _)
    rw [e4₀]
    refine mm_lo_sr (mm_lo_tr ?_ (mm_lo_le mm_lo_al (by omega))) (Nat.le_refl _)
    rw [e3₀]
    refine mm_lo_sr (mm_lo_tr ?_ (mm_lo_le mm_lo_al (by omega))) (Nat.le_refl _)
    rw [e2₀]
    refine mm_lo_sr (mm_lo_tr ?_ (mm_lo_tr (mm_lo_le mm_lo_al (by omega)) (mm_lo_le t2₀.1.2 (by omega)))) (Nat.le_refl _)
    rw [e1₀]
    exact mm_lo_sr (mm_lo_tr (mm_lo_le mm_lo_al (by omega)) (mm_lo_le t1₀.1.2 (by omega))) (Nat.le_refl _)
  · unfold mh_ar
    rw [a259.2 0, a259.2 1, a259.2 2, a259.2 3, v1₀, v1₀]
    omega
  · have h' : mh_rg (gi N1 (g₀ + 1) 0) (gi N1 (g₀ + 1) 1) p₀ q₀ := by rw [s0₀.1, s0₀.2.1]; exact h₀
    have c₀ := fun k₀ => mh_eq_ct E1₀ t1₀.2.1.1 t1₀.2.1.2 h' k₀
    simp only [c₀]
    exact t1₀.2.2.2.1 p₀ q₀ h₀
  · rw [(E1₀ (g₀ + 1 + 2) (by omega) (by omega)).2.2.2]
    exact t1₀.2.2.2.2.1 k₀ k0₀ k1₀
  · rw [(E1₀ (g₀ + 1 + 1) (by omega) (by omega)).2.2.2]
    exact t1₀.2.2.2.2.2 k₀ k0₀ k1₀
set_option maxRecDepth 100000 in
theorem cX5_init {D : mg_D} {l : Launch} (hl : l.stackTraces = false) {M : mg_M} {g₀ : Nat} (k6₀ : kd M g₀ = 6) (hn : nx M = g₀ + 1) (hz : ∀ k₀, gi M g₀ k₀ = 0) : mg_Mt D l 71 [.inr (.inl g₀)] M (fun v₀ N => v₀ = none ∧ mh_N0 M N g₀) mg_no := by
  refine mg_of2 hl ok_X5_init al_X5_init rfl (fun K hK₀ => ?_)
  have T1 := @cX4_init D l hl (al M 5 0) (g₀ + 1) (by rw [kd_al, if_pos hn.symm]) (by rw [nx_al, hn]) (fun k₀ => by rw [gi_al, if_pos hn.symm])
  refine hK₀ _ _ _ _ _ ?_
  (repeat' (((conv => whnf); first | (show (_ : Option mg_V) = _ ∧ _; assumption) | (show K _ _ _ _ _; assumption) | (show mm_th _ _ _ _; assumption) | refine And.intro (by first | assumption | omega | (simp only [true_and, kd_si, ln_si, gr_si]; first | done | assumption | omega)) ?_ | (refine And.intro (fun _ => ?_) (fun _ => ?_) <;> first | (exfalso; omega) | skip) | intro _ | fail)))
  all_goals ((conv => whnf); rw [hn])
  refine Exists.intro _ (Exists.intro _ (And.intro (T1) (And.intro ?_ (fun _ _ h₀ => h₀.elim))))
  rintro _ N1 ⟨rfl, t1₀⟩
  clear T1
  have n1₀ := t1₀.1.1
  have k1₀ : kd N1 g₀ = 6 := ((t1₀.1.2 g₀ (by omega)).1).trans (by rw [kd_al, if_neg (by omega)]; exact k6₀)
  (repeat' (((conv => whnf); first | (show (_ : Option mg_V) = _ ∧ _; assumption) | (show K _ _ _ _ _; assumption) | (show mm_th _ _ _ _; assumption) | refine And.intro (by first | assumption | omega | (simp only [true_and, kd_si, ln_si, gr_si]; first | done | assumption | omega)) ?_ | (refine And.intro (fun _ => ?_) (fun _ => ?_) <;> first | (exfalso; omega) | skip) | intro _ | fail)))
  all_goals ((conv => whnf); generalize e1₀ : sr N1 g₀ 0 (g₀ + 1) = Z1)
  have x1₀ : nx Z1 = g₀ + 130 := by rw [← e1₀, nx_sr]; omega
  have T2 := @cX4_init D l hl (al Z1 5 0) (g₀ + 130) (by rw [kd_al, if_pos x1₀.symm]) (by rw [nx_al, x1₀]) (fun k₀ => by rw [gi_al, if_pos x1₀.symm])
  (repeat' (((conv => whnf); first | (show (_ : Option mg_V) = _ ∧ _; assumption) | (show K _ _ _ _ _; assumption) | (show mm_th _ _ _ _; assumption) | refine And.intro (by first | assumption | omega | (simp only [true_and, kd_si, ln_si, gr_si]; first | done | assumption | omega)) ?_ | (refine And.intro (fun _ => ?_) (fun _ => ?_) <;> first | (exfalso; omega) | skip) | intro _ | fail)))
  all_goals ((conv => whnf); rw [x1₀])
  refine Exists.intro _ (Exists.intro _ (And.intro (T2) (And.intro ?_ (fun _ _ h₀ => h₀.elim))))
  rintro _ N2 ⟨rfl, t2₀⟩
  clear T2
  have n2₀ := t2₀.1.1
  have k2₀ : kd N2 g₀ = 6 := ((t2₀.1.2 g₀ (by omega)).1).trans (by rw [kd_al, if_neg (by omega), ← e1₀, kd_sr]; exact k1₀)
  (repeat' (((conv => whnf); first | (show (_ : Option mg_V) = _ ∧ _; assumption) | (show K _ _ _ _ _; assumption) | (show mm_th _ _ _ _; assumption) | refine And.intro (by first | assumption | omega | (simp only [true_and, kd_si, ln_si, gr_si]; first | done | assumption | omega)) ?_ | (refine And.intro (fun _ => ?_) (fun _ => ?_) <;> first | (exfalso; omega) | skip) | intro _ | fail)))
  all_goals ((conv => whnf); generalize e2₀ : sr N2 g₀ 1 (g₀ + 130) = Z2)
  have x2₀ : nx Z2 = g₀ + 259 := by rw [← e2₀, nx_sr]; omega
  have T3 := @cX0_init D l hl (al Z2 1 0) (g₀ + 259)
  have k3₀ : kd (al Z2 1 0) g₀ = 6 := by rw [kd_al, if_neg (by omega), ← e2₀, kd_sr]; exact k2₀
  (repeat' (((conv => whnf); first | (show (_ : Option mg_V) = _ ∧ _; assumption) | (show K _ _ _ _ _; assumption) | (show mm_th _ _ _ _; assumption) | refine And.intro (by first | assumption | omega | (simp only [true_and, kd_si, ln_si, gr_si]; first | done | assumption | omega)) ?_ | (refine And.intro (fun _ => ?_) (fun _ => ?_) <;> first | (exfalso; omega) | skip) | intro _ | fail)))
  all_goals ((conv => whnf); rw [x2₀])
  (refine Exists.intro _ (Exists.intro _ (And.intro (T3) (And.intro ?_ (fun _ _ h₀ => h₀.elim)))); rintro _ _ ⟨rfl, e₀⟩; have e2₀ := e₀.symm; clear e₀; subst e2₀)
  (repeat' (((conv => whnf); first | (show (_ : Option mg_V) = _ ∧ _; assumption) | (show K _ _ _ _ _; assumption) | (show mm_th _ _ _ _; assumption) | refine And.intro (by first | assumption | omega | (simp only [true_and, kd_si, ln_si, gr_si]; first | done | assumption | omega)) ?_ | (refine And.intro (fun _ => ?_) (fun _ => ?_) <;> first | (exfalso; omega) | skip) | intro _ | fail)))
  all_goals ((conv => whnf); generalize e3₀ : sr (al Z2 1 0) g₀ 3 (g₀ + 259) = Z3)
  have x3 : nx Z3 = g₀ + 260 := by rw [← e3₀, nx_sr, nx_al]; omega
  have T4 := @cX0_init D l hl (al Z3 1 0) (g₀ + 260)
  have k4₀ : kd (al Z3 1 0) g₀ = 6 := by rw [kd_al, if_neg (by omega), ← e3₀, kd_sr]; exact k3₀
  (repeat' (((conv => whnf); first | (show (_ : Option mg_V) = _ ∧ _; assumption) | (show K _ _ _ _ _; assumption) | (show mm_th _ _ _ _; assumption) | refine And.intro (by first | assumption | omega | (simp only [true_and, kd_si, ln_si, gr_si]; first | done | assumption | omega)) ?_ | (refine And.intro (fun _ => ?_) (fun _ => ?_) <;> first | (exfalso; omega) | skip) | intro _ | fail)))
  all_goals ((conv => whnf); rw [x3])
  (refine Exists.intro _ (Exists.intro _ (And.intro (T4) (And.intro ?_ (fun _ _ h₀ => h₀.elim)))); rintro _ _ ⟨rfl, e₀⟩; have e2₀ := e₀.symm; clear e₀; subst e2₀)
  (repeat' (((conv => whnf); first | (show (_ : Option mg_V) = _ ∧ _; assumption) | (show K _ _ _ _ _; assumption) | (show mm_th _ _ _ _; assumption) | refine And.intro (by first | assumption | omega | (simp only [true_and, kd_si, ln_si, gr_si]; first | done | assumption | omega)) ?_ | (refine And.intro (fun _ => ?_) (fun _ => ?_) <;> first | (exfalso; omega) | skip) | intro _ | fail)))
  all_goals ((conv => whnf); generalize e4₀ : sr (al Z3 1 0) g₀ 4 (g₀ + 260) = Z4)
  have x4₀ : nx Z4 = g₀ + 261 := by rw [← e4₀, nx_sr, nx_al]; omega
  have T5 := @cX1_init D l hl (al Z4 2 0) (g₀ + 261) (by rw [kd_al, if_pos x4₀.symm]) (by rw [nx_al, x4₀]) (fun k₀ => by rw [gi_al, if_pos x4₀.symm])
  (repeat' (((conv => whnf); first | (show (_ : Option mg_V) = _ ∧ _; assumption) | (show K _ _ _ _ _; assumption) | (show mm_th _ _ _ _; assumption) | refine And.intro (by first | assumption | omega | (simp only [true_and, kd_si, ln_si, gr_si]; first | done | assumption | omega)) ?_ | (refine And.intro (fun _ => ?_) (fun _ => ?_) <;> first | (exfalso; omega) | skip) | intro _ | fail)))
  all_goals ((conv => whnf); rw [x4₀])
  refine Exists.intro _ (Exists.intro _ (And.intro (T5) (And.intro ?_ (fun _ _ h₀ => h₀.elim))))
  rintro _ N5 ⟨rfl, t5₀⟩
  clear T5
  have k5₀ : kd N5 g₀ = 6 := ((t5₀.1.2 g₀ (by omega)).1).trans (by rw [kd_al, if_neg (by omega), ← e4₀, kd_sr]; exact k4₀)
  have Q₀ : (none : Option mg_V) = none ∧ mh_N0 M (sr N5 g₀ 5 (g₀ + 261)) g₀ := ⟨rfl, mh_N0_of k6₀ hn hz t1₀ e1₀.symm t2₀ e2₀.symm e3₀.symm e4₀.symm t5₀ rfl⟩
  clear t1₀ t2₀ t5₀ hz
  (repeat' (((conv => whnf); first | (show (_ : Option mg_V) = _ ∧ _; assumption) | (show K _ _ _ _ _; assumption) | (show mm_th _ _ _ _; assumption) | refine And.intro (by first | assumption | omega | (simp only [true_and, kd_si, ln_si, gr_si]; first | done | assumption | omega)) ?_ | (refine And.intro (fun _ => ?_) (fun _ => ?_) <;> first | (exfalso; omega) | skip) | intro _ | fail)))
