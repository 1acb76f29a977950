theorem mh_sumI {g₀ : Nat → Int} {k₀ : Int} (h₀ : 0 ≤ k₀) : mh_sum g₀ (k₀ + 1).toNat = mh_sum g₀ k₀.toNat + g₀ k₀.toNat := by
  have e₀ : (k₀ + 1).toNat = k₀.toNat + 1 := by omega
  rw [e₀]
  rfl
theorem mh_suml (g₀ : Nat → Int) (b₀ : Int) (n₀ : Nat) (h₀ : ∀ i₀ : Nat, i₀ < n₀ → 0 ≤ g₀ i₀ ∧ g₀ i₀ ≤ b₀) : 0 ≤ mh_sum g₀ n₀ ∧ mh_sum g₀ n₀ ≤ b₀ * n₀ := mh_sum_le n₀ h₀
abbrev mm_si (M : mg_M) (m₀ : Nat) : Prop := (0 ≤ gi M m₀ 21 ∧ gi M m₀ 21 ≤ gi M m₀ 22 ∧ gi M m₀ 22 < gi M m₀ 1) ∧ (0 ≤ gi M m₀ 23 ∧ gi M m₀ 23 ≤ gi M m₀ 24 ∧ gi M m₀ 24 < gi M m₀ 2)
/-- whether a₀ number's cell₀ is₀ selected -/
abbrev mm_ch (M : mg_M) (m₀ : Nat) (tp lf₀ hg wd : Int → Int) (k₀ : Int) : Prop := mh_mt (gi M m₀ 21) (gi M m₀ 22) (gi M m₀ 23) (gi M m₀ 24) (tp k₀) (lf₀ k₀) (hg k₀) (wd k₀)
set_option maxRecDepth 100000 in
theorem cX6_chosen {D : mg_D} {l : Launch} (hl : l.stackTraces = false) {M : mg_M} {m₀ : Nat} {tp lf₀ hg wd : Int → Int} (st₀ : mm_st M m₀) (rc : mm_rc M m₀) (h4 : 0 ≤ gi M m₀ 4 ∧ gi M m₀ 4 ≤ 120) (hs : mm_si M m₀) (rt : mm_RT M m₀ tp lf₀ hg wd) : mg_Mt D l 169 [.inr (.inl m₀)] M (fun v₀ N => v₀ = some (.inl (mh_sum (fun k₀ => if mm_ch M m₀ tp lf₀ hg wd k₀ then 1 else 0) (gi M m₀ 4).toNat)) ∧ N = M) mg_no := by
  refine mg_of2 hl ok_X6_chosen al_X6_chosen rfl (fun K hK₀ => ?_)
  have k7₀ := st₀.1
  have L1 : K 4 [(0, Sum.inr (Sum.inl m₀)), (1, Sum.inl 0), (2, Sum.inl 0)] [] M 0 := by
    refine mh_for (P := fun k₀ x₀ => x₀ = mh_sum (fun k₀ => if mm_ch M m₀ tp lf₀ hg wd k₀ then 1 else 0) k₀.toNat) (G := fun k₀ x₀ => K 4 [(0, Sum.inr (Sum.inl m₀)), (1, Sum.inl x₀), (2, Sum.inl k₀)] [] M 0) (lo := 0) (hi := gi M m₀ 4) (by omega) ?_ ?_ 0 rfl
    · intro x₀ hx
      have Q₀ : some (Sum.inl x₀ : mg_V) = some (.inl (mh_sum (fun k₀ => if mm_ch M m₀ tp lf₀ hg wd k₀ then 1 else 0) (gi M m₀ 4).toNat)) ∧ M = M := ⟨by rw [hx], rfl⟩
      clear hx
      refine hK₀ _ _ _ _ _ ?_
      (repeat' (((conv => whnf); first | assumption | refine And.intro (by first | assumption | omega | (simp only [true_and]; first | done | assumption | omega)) ?_ | (refine And.intro (fun _ => ?_) (fun _ => ?_) <;> first | (exfalso; omega) | skip) | intro _ | fail)))
    · intro k₀ x₀ k0₀ k1₀ hx nex
      have b₀ := mh_suml (fun k₀ : Nat => if mm_ch M m₀ tp lf₀ hg wd k₀ then (1 : Int) else 0) 1 k₀.toNat (fun i₀ _ => by (try dsimp only); split <;> omega)
      rw [← hx] at b₀
      have e₀ := mh_sumI (g₀ := fun k₀ : Nat => if mm_ch M m₀ tp lf₀ hg wd k₀ then (1 : Int) else 0) k0₀
      have e2₀ : ((k₀.toNat : Nat) : Int) = k₀ := by omega
      rw [← hx] at e₀
      try dsimp only at e₀
      rw [e2₀] at e₀
      have nex2 : ∀ y₀, y₀ = x₀ + (if mm_ch M m₀ tp lf₀ hg wd k₀ then (1 : Int) else 0) → K 4 [(0, Sum.inr (Sum.inl m₀)), (1, Sum.inl y₀), (2, Sum.inl (k₀ + 1))] [] M 0 := fun y₀ hy => nex y₀ (hy.trans e₀.symm)
      have hr := rt k₀ k0₀ k1₀
      clear e₀ nex rt hx
      refine hK₀ _ _ _ _ _ ?_
      (repeat' (((conv => whnf); first | assumption | refine And.intro (by first | assumption | omega | (simp only [true_and]; first | done | assumption | omega)) ?_ | (refine And.intro (fun _ => ?_) (fun _ => ?_) <;> first | (exfalso; omega) | skip) | intro _ | fail)))
      all_goals (try ((conv => whnf); (refine Exists.intro _ (Exists.intro _ (And.intro (cX6_isChosen hl st₀ rc hr (by omega) (by omega)) (And.intro ?_ (fun _ _ h₀ => h₀.elim)))); rintro _ _ ⟨rfl, e₀⟩; have e2₀ := e₀.symm; clear e₀; subst e2₀); (repeat' (((conv => whnf); first | assumption | refine And.intro (by first | assumption | omega | (simp only [true_and]; first | done | assumption | omega)) ?_ | (refine And.intro (fun _ => ?_) (fun _ => ?_) <;> first | (exfalso; omega) | skip) | intro _ | fail)))))
      all_goals ((conv => whnf); refine nex2 _ ?_; omega)
  refine hK₀ _ _ _ _ _ ?_
  (repeat' (((conv => whnf); first | assumption | refine And.intro (by first | assumption | omega | (simp only [true_and]; first | done | assumption | omega)) ?_ | (refine And.intro (fun _ => ?_) (fun _ => ?_) <;> first | (exfalso; omega) | skip) | intro _ | fail)))
set_option maxRecDepth 100000 in
theorem cX6_filled {D : mg_D} {l : Launch} (hl : l.stackTraces = false) {M : mg_M} {m₀ : Nat} {tp lf₀ hg wd : Int → Int} (st₀ : mm_st M m₀) (rc : mm_rc M m₀) (h4 : 0 ≤ gi M m₀ 4 ∧ gi M m₀ 4 ≤ 120) (hs : mm_si M m₀) (rt : mm_RT M m₀ tp lf₀ hg wd) : mg_Mt D l 172 [.inr (.inl m₀)] M (fun v₀ N => v₀ = some (.inl (mh_sum (fun k₀ => if mm_ch M m₀ tp lf₀ hg wd k₀ ∧ 0 < gi M (m₀ + 2) k₀ then 1 else 0) (gi M m₀ 4).toNat)) ∧ N = M) mg_no := by
  refine mg_of2 hl ok_X6_filled al_X6_filled rfl (fun K hK₀ => ?_)
  have k7₀ := st₀.1
  obtain ⟨a6, b6, c6₀⟩ := st₀.2.1.2.1
  have L1 : K 4 [(0, Sum.inr (Sum.inl m₀)), (1, Sum.inl 0), (2, Sum.inl 0)] [] M 0 := by
    refine mh_for (P := fun k₀ x₀ => x₀ = mh_sum (fun k₀ => if mm_ch M m₀ tp lf₀ hg wd k₀ ∧ 0 < gi M (m₀ + 2) k₀ then 1 else 0) k₀.toNat) (G := fun k₀ x₀ => K 4 [(0, Sum.inr (Sum.inl m₀)), (1, Sum.inl x₀), (2, Sum.inl k₀)] [] M 0) (lo := 0) (hi := gi M m₀ 4) (by omega) ?_ ?_ 0 rfl
    · intro x₀ hx
      have Q₀ : some (Sum.inl x₀ : mg_V) = some (.inl (mh_sum (fun k₀ => if mm_ch M m₀ tp lf₀ hg wd k₀ ∧ 0 < gi M (m₀ + 2) k₀ then 1 else 0) (gi M m₀ 4).toNat)) ∧ M = M := ⟨by rw [hx], rfl⟩
      clear hx
      refine hK₀ _ _ _ _ _ ?_
      (repeat' (((conv => whnf); first | assumption | refine And.intro (by first | assumption | omega | (simp only [true_and, a6, b6, c6₀]; first | done | assumption | omega)) ?_ | (refine And.intro (fun _ => ?_) (fun _ => ?_) <;> first | (exfalso; omega) | skip) | intro _ | fail)))
    · intro k₀ x₀ k0₀ k1₀ hx nex
      have b₀ := mh_suml (fun k₀ : Nat => if mm_ch M m₀ tp lf₀ hg wd k₀ ∧ 0 < gi M (m₀ + 2) k₀ then (1 : Int) else 0) 1 k₀.toNat (fun i₀ _ => by (try dsimp only); split <;> omega)
      rw [← hx] at b₀
      have e₀ := mh_sumI (g₀ := fun k₀ : Nat => if mm_ch M m₀ tp lf₀ hg wd k₀ ∧ 0 < gi M (m₀ + 2) k₀ then (1 : Int) else 0) k0₀
      have e2₀ : ((k₀.toNat : Nat) : Int) = k₀ := by omega
      rw [← hx] at e₀
      try dsimp only at e₀
      rw [e2₀] at e₀
      have nex2 : ∀ y₀, y₀ = x₀ + (if mm_ch M m₀ tp lf₀ hg wd k₀ ∧ 0 < gi M (m₀ + 2) k₀.toNat then (1 : Int) else 0) → K 4 [(0, Sum.inr (Sum.inl m₀)), (1, Sum.inl y₀), (2, Sum.inl (k₀ + 1))] [] M 0 := fun y₀ hy => nex y₀ (hy.trans e₀.symm)
      have hr := rt k₀ k0₀ k1₀
      have z₀ : gi M (gr M m₀ 6) k₀.toNat = gi M (m₀ + 2) k₀.toNat := by rw [a6]
      clear e₀ nex rt hx
      refine hK₀ _ _ _ _ _ ?_
      (repeat' (((conv => whnf); first | assumption | refine And.intro (by first | assumption | omega | (simp only [true_and, a6, b6, c6₀]; first | done | assumption | omega)) ?_ | (refine And.intro (fun _ => ?_) (fun _ => ?_) <;> first | (exfalso; omega) | skip) | intro _ | fail)))
      all_goals (try ((conv => whnf); (refine Exists.intro _ (Exists.intro _ (And.intro (cX6_isChosen hl st₀ rc hr (by omega) (by omega)) (And.intro ?_ (fun _ _ h₀ => h₀.elim)))); rintro _ _ ⟨rfl, e₀⟩; have e2₀ := e₀.symm; clear e₀; subst e2₀); (repeat' (((conv => whnf); first | assumption | refine And.intro (by first | assumption | omega | (simp only [true_and, a6, b6, c6₀]; first | done | assumption | omega)) ?_ | (refine And.intro (fun _ => ?_) (fun _ => ?_) <;> first | (exfalso; omega) | skip) | intro _ | fail)))))
      all_goals ((conv => whnf); refine nex2 _ ?_; omega)
  refine hK₀ _ _ _ _ _ ?_
  (repeat' (((conv => whnf); first | assumption | refine And.intro (by first | assumption | omega | (simp only [true_and, a6, b6, c6₀]; first | done | assumption | omega)) ?_ | (refine And.intro (fun _ => ?_) (fun _ => ?_) <;> first | (exfalso; omega) | skip) | intro _ | fail)))
set_option maxRecDepth 100000 in
theorem cX6_chosenSum {D : mg_D} {l : Launch} (hl : l.stackTraces = false) {M : mg_M} {m₀ : Nat} {tp lf₀ hg wd : Int → Int} (st₀ : mm_st M m₀) (rc : mm_rc M m₀) (h4 : 0 ≤ gi M m₀ 4 ∧ gi M m₀ 4 ≤ 120) (hs : mm_si M m₀) (rt : mm_RT M m₀ tp lf₀ hg wd) (hco : ∀ k₀ : Nat, (k₀ : Int) < gi M m₀ 4 → 0 ≤ gi M (m₀ + 2) k₀ ∧ gi M (m₀ + 2) k₀ ≤ 999) : mg_Mt D l 173 [.inr (.inl m₀)] M (fun v₀ N => v₀ = some (.inl (mh_sum (fun k₀ => if mm_ch M m₀ tp lf₀ hg wd k₀ then gi M (m₀ + 2) k₀ else 0) (gi M m₀ 4).toNat)) ∧ N = M) mg_no := by
  refine mg_of2 hl ok_X6_chosenSum al_X6_chosenSum rfl (fun K hK₀ => ?_)
  have k7₀ := st₀.1
  obtain ⟨a6, b6, c6₀⟩ := st₀.2.1.2.1
  have L1 : K 4 [(0, Sum.inr (Sum.inl m₀)), (1, Sum.inl 0), (2, Sum.inl 0)] [] M 0 := by
    refine mh_for (P := fun k₀ x₀ => x₀ = mh_sum (fun k₀ => if mm_ch M m₀ tp lf₀ hg wd k₀ then gi M (m₀ + 2) k₀ else 0) k₀.toNat) (G := fun k₀ x₀ => K 4 [(0, Sum.inr (Sum.inl m₀)), (1, Sum.inl x₀), (2, Sum.inl k₀)] [] M 0) (lo := 0) (hi := gi M m₀ 4) (by omega) ?_ ?_ 0 rfl
    · intro x₀ hx
      have Q₀ : some (Sum.inl x₀ : mg_V) = some (.inl (mh_sum (fun k₀ => if mm_ch M m₀ tp lf₀ hg wd k₀ then gi M (m₀ + 2) k₀ else 0) (gi M m₀ 4).toNat)) ∧ M = M := ⟨by rw [hx], rfl⟩
      clear hx
      refine hK₀ _ _ _ _ _ ?_
      (repeat' (((conv => whnf); first | assumption | refine And.intro (by first | assumption | omega | (simp only [true_and, a6, b6, c6₀]; first | done | assumption | omega)) ?_ | (refine And.intro (fun _ => ?_) (fun _ => ?_) <;> first | (exfalso; omega) | skip) | intro _ | fail)))
    · intro k₀ x₀ k0₀ k1₀ hx nex
      have b₀ := mh_suml (fun k₀ : Nat => if mm_ch M m₀ tp lf₀ hg wd k₀ then gi M (m₀ + 2) k₀ else 0) 999 k₀.toNat (fun i₀ hi => by have := hco i₀ (by omega); (try dsimp only); split <;> omega)
      rw [← hx] at b₀
      have e₀ := mh_sumI (g₀ := fun k₀ : Nat => if mm_ch M m₀ tp lf₀ hg wd k₀ then gi M (m₀ + 2) k₀ else 0) k0₀
      have e2₀ : ((k₀.toNat : Nat) : Int) = k₀ := by omega
      rw [← hx] at e₀
      try dsimp only at e₀
      rw [e2₀] at e₀
      have nex2 : ∀ y₀, y₀ = x₀ + (if mm_ch M m₀ tp lf₀ hg wd k₀ then gi M (m₀ + 2) k₀.toNat else 0) → K 4 [(0, Sum.inr (Sum.inl m₀)), (1, Sum.inl y₀), (2, Sum.inl (k₀ + 1))] [] M 0 := fun y₀ hy => nex y₀ (hy.trans e₀.symm)
      have hr := rt k₀ k0₀ k1₀
      have z₀ : gi M (gr M m₀ 6) k₀.toNat = gi M (m₀ + 2) k₀.toNat := by rw [a6]
      have z2 := hco k₀.toNat (by omega)
      clear e₀ nex rt hx
      refine hK₀ _ _ _ _ _ ?_
      (repeat' (((conv => whnf); first | assumption | refine And.intro (by first | assumption | omega | (simp only [true_and, a6, b6, c6₀]; first | done | assumption | omega)) ?_ | (refine And.intro (fun _ => ?_) (fun _ => ?_) <;> first | (exfalso; omega) | skip) | intro _ | fail)))
      all_goals (try ((conv => whnf); (refine Exists.intro _ (Exists.intro _ (And.intro (cX6_isChosen hl st₀ rc hr (by omega) (by omega)) (And.intro ?_ (fun _ _ h₀ => h₀.elim)))); rintro _ _ ⟨rfl, e₀⟩; have e2₀ := e₀.symm; clear e₀; subst e2₀); (repeat' (((conv => whnf); first | assumption | refine And.intro (by first | assumption | omega | (simp only [true_and, a6, b6, c6₀]; first | done | assumption | omega)) ?_ | (refine And.intro (fun _ => ?_) (fun _ => ?_) <;> first | (exfalso; omega) | skip) | intro _ | fail)))))
      all_goals ((conv => whnf); refine nex2 _ ?_; omega)
  refine hK₀ _ _ _ _ _ ?_
  (repeat' (((conv => whnf); first | assumption | refine And.intro (by first | assumption | omega | (simp only [true_and, a6, b6, c6₀]; first | done | assumption | omega)) ?_ | (refine And.intro (fun _ => ?_) (fun _ => ?_) <;> first | (exfalso; omega) | skip) | intro _ | fail)))
set_option maxRecDepth 100000 in
theorem cX6_isAnyCut {D : mg_D} {l : Launch} (hl : l.stackTraces = false) {M : mg_M} {m₀ : Nat} {tp lf₀ hg wd : Int → Int} (st₀ : mm_st M m₀) (rc : mm_rc M m₀) (h4 : 0 ≤ gi M m₀ 4 ∧ gi M m₀ 4 ≤ 120) (hf : gi M m₀ 32 ≤ gi M m₀ 33) (ha₀ : gi M m₀ 34 ≤ gi M m₀ 35) (rt : mm_RT M m₀ tp lf₀ hg wd) : mg_Mt D l 183 [.inr (.inl m₀)] M (fun v₀ N => v₀ = some (.inl (mh_pr (¬ mm_cl (gi M m₀ 4) tp lf₀ hg wd (gi M m₀ 32) (gi M m₀ 33) (gi M m₀ 34) (gi M m₀ 35)))) ∧ N = M) mg_no := by
  refine mg_of2 hl ok_X6_isAnyCut al_X6_isAnyCut rfl (fun K hK₀ => ?_)
  have k7₀ := st₀.1
  have L1 : K 4 [(0, Sum.inr (Sum.inl m₀)), (1, Sum.inl 0), (2, Sum.inl 0)] [] M 0 := by
    refine mh_for (P := fun k₀ x₀ => (x₀ = 0 ∨ x₀ = 1) ∧ (x₀ = 0 ↔ mm_cl k₀ tp lf₀ hg wd (gi M m₀ 32) (gi M m₀ 33) (gi M m₀ 34) (gi M m₀ 35))) (G := fun k₀ x₀ => K 4 [(0, Sum.inr (Sum.inl m₀)), (1, Sum.inl x₀), (2, Sum.inl k₀)] [] M 0) (lo := 0) (hi := gi M m₀ 4) (by omega) ?_ ?_ 0 ⟨Or.inl rfl, ⟨fun _ j₀ j0 j1 => by omega, fun _ => rfl⟩⟩
    · rintro x₀ ⟨h1, h2⟩
      have Q₀ : some (Sum.inl x₀ : mg_V) = some (.inl (mh_pr (¬ mm_cl (gi M m₀ 4) tp lf₀ hg wd (gi M m₀ 32) (gi M m₀ 33) (gi M m₀ 34) (gi M m₀ 35)))) ∧ M = M := by
        refine ⟨?_, rfl⟩
        congr 2
        refine mh_pre ?_
        rw [← h2]
        clear h2
        omega
      clear h2
      refine hK₀ _ _ _ _ _ ?_
      (repeat' (((conv => whnf); first | assumption | refine And.intro (by first | assumption | omega | (simp only [true_and]; first | done | assumption | omega)) ?_ | (refine And.intro (fun _ => ?_) (fun _ => ?_) <;> first | (exfalso; omega) | skip) | intro _ | fail)))
    · rintro k₀ x₀ k0₀ k1₀ ⟨h1, h2⟩ nex
      have nex2 : ∀ y₀, (y₀ = 0 ∨ y₀ = 1) → (y₀ = 0 ↔ x₀ = 0 ∧ ¬ (mh_mt (gi M m₀ 32) (gi M m₀ 33) (gi M m₀ 34) (gi M m₀ 35) (tp k₀) (lf₀ k₀) (hg k₀) (wd k₀) ∧ ¬ mh_wn (gi M m₀ 32) (gi M m₀ 33) (gi M m₀ 34) (gi M m₀ 35) (tp k₀) (lf₀ k₀) (hg k₀) (wd k₀))) → K 4 [(0, Sum.inr (Sum.inl m₀)), (1, Sum.inl y₀), (2, Sum.inl (k₀ + 1))] [] M 0 := by
        intro y₀ hy hy2
        refine nex y₀ ⟨hy, ?_⟩
        rw [hy2, h2]
        constructor
        · rintro ⟨g1, g2⟩ j₀ j0 j1 hm₀
          by_cases e₀ : j₀ = k₀
          · subst e₀
            exact Classical.byContradiction (fun z₀ => g2 ⟨hm₀, z₀⟩)
          · exact g1 j₀ j0 (by omega) hm₀
        · intro g₀
          exact ⟨fun j₀ j0 j1 hm₀ => g₀ j₀ j0 (by omega) hm₀, fun z₀ => z₀.2 (g₀ k₀ k0₀ (by omega) z₀.1)⟩
      have hr := rt k₀ k0₀ k1₀
      clear nex rt h2
      refine hK₀ _ _ _ _ _ ?_
      (repeat' (((conv => whnf); first | assumption | refine And.intro (by first | assumption | omega | (simp only [true_and]; first | done | assumption | omega)) ?_ | (refine And.intro (fun _ => ?_) (fun _ => ?_) <;> first | (exfalso; omega) | skip) | intro _ | fail)))
      all_goals (try ((conv => whnf); (refine Exists.intro _ (Exists.intro _ (And.intro (cX6_isCut hl st₀ rc hr (by omega) (by omega)) (And.intro ?_ (fun _ _ h₀ => h₀.elim)))); rintro _ _ ⟨rfl, e₀⟩; have e2₀ := e₀.symm; clear e₀; subst e2₀); (repeat' (((conv => whnf); first | assumption | refine And.intro (by first | assumption | omega | (simp only [true_and]; first | done | assumption | omega)) ?_ | (refine And.intro (fun _ => ?_) (fun _ => ?_) <;> first | (exfalso; omega) | skip) | intro _ | fail)))))
      all_goals ((conv => whnf); refine nex2 _ (by omega) ?_; omega)
  refine hK₀ _ _ _ _ _ ?_
  (repeat' (((conv => whnf); first | assumption | refine And.intro (by first | assumption | omega | (simp only [true_and]; first | done | assumption | omega)) ?_ | (refine And.intro (fun _ => ?_) (fun _ => ?_) <;> first | (exfalso; omega) | skip) | intro _ | fail)))
