/-! the constructors of Cell₀, Area, CellList, Table₀, Block₀ -/
set_option maxRecDepth 100000 in
theorem cX2_init {D : mg_D} {l : Launch} (hl : l.stackTraces = false) {M : mg_M} {a₀ : Nat} : mg_Mt D l 1 [.inr (.inl a₀)] M (fun v₀ N => v₀ = none ∧ N = M) mg_no := by
  refine mg_of2 hl ok_X2_init al_X2_init rfl (fun K hK₀ => ?_)
  have Q₀ : (none : Option mg_V) = none ∧ M = M := ⟨rfl, rfl⟩
  refine hK₀ _ _ _ _ _ ?_
  (repeat' (((conv => whnf); first | (show (_ : Option mg_V) = _ ∧ _; assumption) | (show K _ _ _ _ _; assumption) | (show mm_th _ _ _ _; assumption) | refine And.intro (by first | assumption | omega) ?_ | (refine And.intro (fun _ => ?_) (fun _ => ?_) <;> first | (exfalso; omega) | skip) | intro _ | fail)))
set_option maxRecDepth 100000 in
theorem cX0_init {D : mg_D} {l : Launch} (hl : l.stackTraces = false) {M : mg_M} {a₀ : Nat} : mg_Mt D l 14 [.inr (.inl a₀)] M (fun v₀ N => v₀ = none ∧ N = M) mg_no := by
  refine mg_of2 hl ok_X0_init al_X0_init rfl (fun K hK₀ => ?_)
  have Q₀ : (none : Option mg_V) = none ∧ M = M := ⟨rfl, rfl⟩
  refine hK₀ _ _ _ _ _ ?_
  (repeat' (((conv => whnf); first | (show (_ : Option mg_V) = _ ∧ _; assumption) | (show K _ _ _ _ _; assumption) | (show mm_th _ _ _ _; assumption) | refine And.intro (by first | assumption | omega) ?_ | (refine And.intro (fun _ => ?_) (fun _ => ?_) <;> first | (exfalso; omega) | skip) | intro _ | fail)))
theorem mm_lo_tr {M N P : mg_M} {m₀ : Nat} (h₀ : mm_lo M N m₀) (g₀ : mm_lo N P m₀) : mm_lo M P m₀ := by
  intro a₀ ha₀
  obtain ⟨g1, g2, g3₀, g4, g5₀, g6⟩ := g₀ a₀ ha₀
  obtain ⟨f1₀, f2₀, f3₀, f4₀, f5₀, f6₀⟩ := h₀ a₀ ha₀
  exact ⟨g1.trans f1₀, g2.trans f2₀, fun k₀ => (g3₀ k₀).trans (f3₀ k₀), fun k₀ => (g4 k₀).trans (f4₀ k₀), fun k₀ => (g5₀ k₀).trans (f5₀ k₀), fun k₀ => (g6 k₀).trans (f6₀ k₀)⟩
theorem mm_lo_le {M N : mg_M} {m₀ n₀ : Nat} (h₀ : mm_lo M N m₀) (hn : n₀ ≤ m₀) : mm_lo M N n₀ := fun a₀ ha₀ => h₀ a₀ (by omega)
theorem mm_lo_rfl {M : mg_M} {m₀ : Nat} : mm_lo M M m₀ := fun a₀ _ => ⟨rfl, rfl, fun _ => rfl, fun _ => rfl, fun _ => rfl, fun _ => rfl⟩
theorem mm_lo_al {M : mg_M} {c₀ n₀ : Nat} : mm_lo M (al M c₀ n₀) (nx M) := by
  intro a₀ ha₀
  refine ⟨?_, ?_, fun k₀ => ?_, fun k₀ => ?_, fun k₀ => ?_, fun k₀ => ?_⟩
  · rw [kd_al, if_neg (by omega)]
  · rw [ln_al, if_neg (by omega)]
  · rw [gr_al, if_neg (by omega)]
  · rw [gi_al, if_neg (by omega)]
  · rw [gl_al, if_neg (by omega)]
  · rw [gd_al, if_neg (by omega)]
theorem mm_lo_sr {M N : mg_M} {m₀ a₀ s₀ x₀ : Nat} (h₀ : mm_lo M N m₀) (ha₀ : m₀ ≤ a₀) : mm_lo M (sr N a₀ s₀ x₀) m₀ := by
  intro b₀ hb₀
  obtain ⟨f1₀, f2₀, f3₀, f4₀, f5₀, f6₀⟩ := h₀ b₀ hb₀
  exact ⟨f1₀, f2₀, fun k₀ => by rw [gr_sr, if_neg (by omega)]; exact f3₀ k₀, f4₀, f5₀, f6₀⟩
theorem mm_lo_si {M N : mg_M} {m₀ a₀ s₀ : Nat} {x₀ : Int} (h₀ : mm_lo M N m₀) (ha₀ : m₀ ≤ a₀) : mm_lo M (si N a₀ s₀ x₀) m₀ := by
  intro b₀ hb₀
  obtain ⟨f1₀, f2₀, f3₀, f4₀, f5₀, f6₀⟩ := h₀ b₀ hb₀
  exact ⟨f1₀, f2₀, f3₀, fun k₀ => by rw [gi_si, if_neg (by omega)]; exact f4₀ k₀, f5₀, f6₀⟩
def mh_li (M Z₀ : mg_M) (c₀ j₀ : Nat) : Prop := (nx Z₀ = c₀ + 3 + j₀ ∧ mm_lo M Z₀ c₀) ∧ (kd Z₀ c₀ = 4 ∧ gr Z₀ c₀ 1 = c₀ + 1 ∧ gr Z₀ c₀ 2 = c₀ + 2 ∧ kd Z₀ (c₀ + 1) = 9 ∧ ln Z₀ (c₀ + 1) = 120 ∧ kd Z₀ (c₀ + 2) = 3) ∧ (∀ k₀, gi Z₀ c₀ k₀ = 0) ∧ ∀ i₀ : Nat, i₀ < j₀ → gr Z₀ (c₀ + 1) i₀ = c₀ + 3 + i₀ ∧ kd Z₀ (c₀ + 3 + i₀) = 3 ∧ ∀ k₀, gi Z₀ (c₀ + 3 + i₀) k₀ = 0
theorem mh_li_cL {M Z₀ : mg_M} {c₀ : Nat} (h₀ : mh_li M Z₀ c₀ 120) : mg_cL Z₀ c₀ := by
  obtain ⟨_, h2, h3, h4⟩ := h₀
  refine ⟨h2.1, h2.2.1, h2.2.2.1, h2.2.2.2.1, h2.2.2.2.2.1, h2.2.2.2.2.2, by rw [h3]; omega, fun i₀ hi => ?_, fun i₀ j₀ hi hj e₀ => ?_⟩
  · have g₀ := h4 i₀ hi
    rw [g₀.1]
    exact ⟨g₀.2.1, by omega, by omega⟩
  · have g₀ := h4 i₀ hi
    have g' := h4 j₀ hj
    omega
theorem mh_li1 {M Z₀ : mg_M} {c₀ j₀ : Nat} (h₀ : mh_li M Z₀ c₀ j₀) : mh_li M (sr (al Z₀ 3 0) (c₀ + 1) j₀ (nx Z₀)) c₀ (j₀ + 1) := by
  obtain ⟨⟨h0, h1⟩, h2, h3, h4⟩ := h₀
  have lo := @mm_lo_al Z₀ 3 0
  have e₀ : ∀ a₀, a₀ < nx Z₀ → a₀ ≠ c₀ + 1 → (∀ k₀, gr (sr (al Z₀ 3 0) (c₀ + 1) j₀ (nx Z₀)) a₀ k₀ = gr Z₀ a₀ k₀) := by
    intro a₀ ha₀ hn k₀
    rw [gr_sr, if_neg (by omega)]
    exact (lo a₀ ha₀).2.2.1 k₀
  have kk : ∀ a₀, a₀ < nx Z₀ → kd (sr (al Z₀ 3 0) (c₀ + 1) j₀ (nx Z₀)) a₀ = kd Z₀ a₀ := fun a₀ ha₀ => (lo a₀ ha₀).1
  have vv : ∀ a₀, a₀ < nx Z₀ → ∀ k₀, gi (sr (al Z₀ 3 0) (c₀ + 1) j₀ (nx Z₀)) a₀ k₀ = gi Z₀ a₀ k₀ := fun a₀ ha₀ k₀ => (lo a₀ ha₀).2.2.2.1 k₀
  refine ⟨⟨?_, ?_⟩, ⟨?_, ?_, ?_, ?_, ?_, ?_⟩, fun k₀ => ?_, fun i₀ hi => ?_⟩
  · rw [nx_sr, nx_al]; omega
  · exact mm_lo_sr (mm_lo_tr h1 (mm_lo_le lo (by omega))) (by omega)
  · rw [kk c₀ (by omega)]; exact h2.1
  · rw [e₀ c₀ (by omega) (by omega)]; exact h2.2.1
  · rw [e₀ c₀ (by omega) (by omega)]; exact h2.2.2.1
  · rw [kk _ (by omega)]; exact h2.2.2.2.1
  · rw [ln_sr, ln_al, if_neg (by omega)]; exact h2.2.2.2.2.1
  · rw [kk _ (by omega)]; exact h2.2.2.2.2.2
  · rw [vv c₀ (by omega)]; exact h3 k₀
  · by_cases x₀ : i₀ = j₀
    · rw [x₀]
      refine ⟨?_, ?_, fun k₀ => ?_⟩
      · rw [gr_sr, if_pos ⟨rfl, rfl⟩]; omega
      · rw [kd_sr, kd_al, if_pos (by omega)]
      · rw [gi_sr, gi_al, if_pos (by omega)]
    · have g₀ := h4 i₀ (by omega)
      refine ⟨?_, ?_, fun k₀ => ?_⟩
      · rw [gr_sr, if_neg (by omega), gr_al, if_neg (by omega)]; exact g₀.1
      · rw [kk _ (by omega)]; exact g₀.2.1
      · rw [vv _ (by omega)]; exact g₀.2.2 k₀
set_option maxRecDepth 100000 in
theorem cX3_init {D : mg_D} {l : Launch} (hl : l.stackTraces = false) {M : mg_M} {c₀ : Nat} (k4₀ : kd M c₀ = 4) (hn : nx M = c₀ + 1) (hz : ∀ k₀, gi M c₀ k₀ = 0) : mg_Mt D l 18 [.inr (.inl c₀)] M (fun v₀ N => v₀ = none ∧ mh_li M N c₀ 120) mg_no := by
  refine mg_of2 hl ok_X3_init al_X3_init rfl (fun K hK₀ => ?_)
  have LP₀ : ∀ Z₀, mh_li M Z₀ c₀ 0 → K 26 [(0, Sum.inr (Sum.inl c₀)), (1, Sum.inl 0)] [] Z₀ 123 := by
    intro Z₀ hZ
    refine mh_for (P := fun j₀ Y => mh_li M Y c₀ j₀.toNat) (G := fun j₀ Y => K 26 [(0, Sum.inr (Sum.inl c₀)), (1, Sum.inl j₀)] [] Y (123 - j₀.toNat)) (lo := 0) (hi := 120) (by omega) ?_ ?_ Z₀ hZ
    · intro Y h₀
      have Q₀ : (none : Option mg_V) = none ∧ mh_li M Y c₀ 120 := ⟨rfl, h₀⟩
      have k1₀ := h₀.2.1.1
      have k2₀ := h₀.2.1.2.1
      have k2n : gr Y c₀ 1 ≠ 0 := by omega
      have k3₀ : kd Y (gr Y c₀ 1) = 9 := by rw [k2₀]; exact h₀.2.1.2.2.2.1
      have k4' : ln Y (gr Y c₀ 1) = 120 := by rw [k2₀]; exact h₀.2.1.2.2.2.2.1
      clear h₀ hz
      refine hK₀ _ _ _ _ _ ?_
      (repeat' (((conv => whnf); first | (show (_ : Option mg_V) = _ ∧ _; assumption) | (show K _ _ _ _ _; assumption) | (show mm_th _ _ _ _; assumption) | refine And.intro (by first | assumption | omega | (simp only [true_and, kd_si, ln_si, gr_si]; first | done | assumption | omega)) ?_ | (refine And.intro (fun _ => ?_) (fun _ => ?_) <;> first | (exfalso; omega) | skip) | intro _ | fail)))
    · intro j₀ Y j0 j1 h₀ nex
      have hx := h₀.1.1
      have k1₀ := h₀.2.1.1
      have k2₀ := h₀.2.1.2.1
      have k2n : gr Y c₀ 1 ≠ 0 := by omega
      have k3₀ : kd Y (gr Y c₀ 1) = 9 := by rw [k2₀]; exact h₀.2.1.2.2.2.1
      have k4' : ln Y (gr Y c₀ 1) = 120 := by rw [k2₀]; exact h₀.2.1.2.2.2.2.1
      have h1 := mh_li1 h₀
      have nex2 : ∀ B₀ Y', B₀ = 122 - j₀.toNat → Y' = sr (al Y 3 0) (c₀ + 1) j₀.toNat (nx Y) → K 26 [(0, Sum.inr (Sum.inl c₀)), (1, Sum.inl (j₀ + 1))] [] Y' B₀ := by
        intro B₀ Y' eB eY
        have g₀ := nex Y' (by rw [eY, show (j₀ + 1).toNat = j₀.toNat + 1 by omega]; exact h1)
        rw [show 123 - (j₀ + 1).toNat = B₀ by omega] at g₀
        exact g₀
      have q1₀ : kd (al Y 3 0) (gr Y c₀ 1) = 9 := by rw [kd_al, if_neg (by omega)]; exact k3₀
      have q2₀ : ln (al Y 3 0) (gr Y c₀ 1) = 120 := by rw [ln_al, if_neg (by omega)]; exact k4'
      have q3₀ : kd (al Y 3 0) (nx Y) = 3 := by rw [kd_al, if_pos rfl]
      have q4₀ := @cX2_init D l hl (al Y 3 0) (nx Y)
      clear nex h₀ h1 hz
      refine hK₀ _ _ _ _ _ ?_
      (repeat' (((conv => whnf); first | (show (_ : Option mg_V) = _ ∧ _; assumption) | (show K _ _ _ _ _; assumption) | (show mm_th _ _ _ _; assumption) | refine And.intro (by first | assumption | omega | (simp only [true_and, kd_si, ln_si, gr_si]; first | done | assumption | omega)) ?_ | (refine And.intro (fun _ => ?_) (fun _ => ?_) <;> first | (exfalso; omega) | skip) | intro _ | fail)))
      all_goals ((conv => whnf); skip)
      (refine Exists.intro _ (Exists.intro _ (And.intro (q4₀) (And.intro ?_ (fun _ _ h₀ => h₀.elim)))); rintro _ _ ⟨rfl, e₀⟩; have e2₀ := e₀.symm; clear e₀; subst e2₀)
      (repeat' (((conv => whnf); first | (show (_ : Option mg_V) = _ ∧ _; assumption) | (show K _ _ _ _ _; assumption) | (show mm_th _ _ _ _; assumption) | refine And.intro (by first | assumption | omega | (simp only [true_and, kd_si, ln_si, gr_si]; first | done | assumption | omega)) ?_ | (refine And.intro (fun _ => ?_) (fun _ => ?_) <;> first | (exfalso; omega) | skip) | intro _ | fail)))
      all_goals ((conv => whnf); exact nex2 _ _ (by omega) (by rw [k2₀]))
  have q4₀ := @cX2_init D l hl (al (sr (al M 9 120) c₀ 1 (c₀ + 1)) 3 0) (c₀ + 2)
  have L1 := LP₀ (sr (al (sr (al M 9 120) c₀ 1 (c₀ + 1)) 3 0) c₀ 2 (c₀ + 2)) ⟨⟨by rw [nx_sr, nx_al, nx_sr, nx_al]; omega, mm_lo_sr (mm_lo_tr (mm_lo_sr (mm_lo_le mm_lo_al (by omega)) (by omega)) (mm_lo_le mm_lo_al (by rw [nx_sr, nx_al]; omega))) (by omega)⟩, ⟨by rw [kd_sr, kd_al, if_neg (by rw [nx_sr, nx_al]; omega), kd_sr, kd_al, if_neg (by omega)]; exact k4₀, by rw [gr_sr, if_neg (by omega), gr_al, if_neg (by rw [nx_sr, nx_al]; omega), gr_sr, if_pos ⟨rfl, rfl⟩], by rw [gr_sr, if_pos ⟨rfl, rfl⟩], by rw [kd_sr, kd_al, if_neg (by rw [nx_sr, nx_al]; omega), kd_sr, kd_al, if_pos (by omega)], by rw [ln_sr, ln_al, if_neg (by rw [nx_sr, nx_al]; omega), ln_sr, ln_al, if_pos (by omega)], by rw [kd_sr, kd_al, if_pos (by rw [nx_sr, nx_al]; omega)]⟩, fun k₀ => by rw [gi_sr, gi_al, if_neg (by rw [nx_sr, nx_al]; omega), gi_sr, gi_al, if_neg (by omega)]; exact hz k₀, fun i₀ hi => absurd hi (Nat.not_lt_zero i₀)⟩
  have n2₀ : nx (sr (al M 9 (Int.toNat 120)) c₀ 1 (c₀ + 1)) = c₀ + 2 := by rw [nx_sr, nx_al]; omega
  have k1₀ : kd (al M 9 (Int.toNat 120)) c₀ = 4 := by rw [kd_al, if_neg (by omega)]; exact k4₀
  have k2₀ : kd (al (sr (al M 9 (Int.toNat 120)) c₀ 1 (c₀ + 1)) 3 0) c₀ = 4 := by rw [kd_al, if_neg (by rw [n2₀]; omega), kd_sr]; exact k1₀
  have hnn₀ : nx M ≠ 0 := by omega
  clear LP₀ hz
  refine hK₀ _ _ _ _ _ ?_
  (repeat' (((conv => whnf); first | (show (_ : Option mg_V) = _ ∧ _; assumption) | (show K _ _ _ _ _; assumption) | (show mm_th _ _ _ _; assumption) | refine And.intro (by first | assumption | omega | (simp only [true_and, kd_si, ln_si, gr_si]; first | done | assumption | omega)) ?_ | (refine And.intro (fun _ => ?_) (fun _ => ?_) <;> first | (exfalso; omega) | skip) | intro _ | fail)))
  all_goals ((conv => whnf); try rw [hn, n2₀])
  (refine Exists.intro _ (Exists.intro _ (And.intro (q4₀) (And.intro ?_ (fun _ _ h₀ => h₀.elim)))); rintro _ _ ⟨rfl, e₀⟩; have e2₀ := e₀.symm; clear e₀; subst e2₀)
  (repeat' (((conv => whnf); first | (show (_ : Option mg_V) = _ ∧ _; assumption) | (show K _ _ _ _ _; assumption) | (show mm_th _ _ _ _; assumption) | refine And.intro (by first | assumption | omega | (simp only [true_and, kd_si, ln_si, gr_si]; first | done | assumption | omega)) ?_ | (refine And.intro (fun _ => ?_) (fun _ => ?_) <;> first | (exfalso; omega) | skip) | intro _ | fail)))
  all_goals ((conv => whnf); skip)
