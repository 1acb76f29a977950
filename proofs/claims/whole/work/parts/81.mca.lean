/-- the line at a₀ place₀: -1 if there₀ is₀ none -/
def mh_line (M : mg_M) (a₀ : Nat) (n₀ x₀ c₀ : Int) : Prop := (c₀ = -1 ∧ ∀ k₀, 0 ≤ k₀ → k₀ < n₀ → ¬ (mh_wsum M a₀ 0 k₀ ≤ x₀ ∧ x₀ < mh_wsum M a₀ 0 (k₀ + 1))) ∨ ((0 ≤ c₀ ∧ c₀ < n₀) ∧ mh_wsum M a₀ 0 c₀ ≤ x₀ ∧ x₀ < mh_wsum M a₀ 0 (c₀ + 1))
theorem mh_wmono {M : mg_M} {a₀ : Nat} {n₀ : Int} (h₀ : ∀ k₀ : Nat, (k₀ : Int) < n₀ → 0 ≤ gi M a₀ k₀) : ∀ d₀ : Nat, ∀ i₀, 0 ≤ i₀ → i₀ + d₀ ≤ n₀ → mh_wsum M a₀ 0 i₀ ≤ mh_wsum M a₀ 0 (i₀ + d₀) := by
  intro d₀
  induction d₀ with
  | zero => intro i₀ _ _; rw [show i₀ + ((0 : Nat) : Int) = i₀ by omega]; exact Int.le_refl _
  | succ d₀ ih₀ =>
    intro i₀ h0 h1
    have := ih₀ i₀ h0 (by omega)
    have e₀ := @mh_wsum1 M a₀ 0 (i₀ + d₀) (by omega) (by omega)
    have g₀ := h₀ (0 + (i₀ + d₀)).toNat (by omega)
    rw [show i₀ + ((d₀ + 1 : Nat) : Int) = i₀ + d₀ + 1 by omega, e₀]
    omega
theorem mh_line1 {M : mg_M} {a₀ : Nat} {n₀ x₀ c₀ k₀ : Int} (h₀ : ∀ k₀ : Nat, (k₀ : Int) < n₀ → 0 ≤ gi M a₀ k₀) (hc₀ : mh_line M a₀ n₀ x₀ c₀) (hk : 0 ≤ k₀ ∧ k₀ < n₀) : (mh_wsum M a₀ 0 k₀ ≤ x₀ ∧ x₀ < mh_wsum M a₀ 0 (k₀ + 1)) ↔ k₀ = c₀ := by
  rcases hc₀ with ⟨h1, h2⟩ | ⟨h1, h2, h3⟩
  · have := h2 k₀ hk.1 hk.2
    constructor
    · intro z₀; exact (this z₀).elim
    · intro z₀; omega
  · constructor
    · intro ⟨z1, z2⟩
      refine Classical.byContradiction (fun z₀ => ?_)
      by_cases q₀ : k₀ < c₀
      · have := mh_wmono h₀ (c₀ - (k₀ + 1)).toNat (k₀ + 1) (by omega) (by omega)
        rw [show k₀ + 1 + ((c₀ - (k₀ + 1)).toNat : Int) = c₀ by omega] at this
        omega
      · have := mh_wmono h₀ (k₀ - (c₀ + 1)).toNat (c₀ + 1) (by omega) (by omega)
        rw [show c₀ + 1 + ((k₀ - (c₀ + 1)).toNat : Int) = k₀ by omega] at this
        omega
    · intro z₀
      rw [z₀]
      exact ⟨h2, h3⟩
set_option maxRecDepth 100000 in
theorem mm_cellAtL {D : mg_D} {l : Launch} {No : mg_O} {K : mg_K} (hK₀ : ∀ (pc : Nat) (ls : mg_L) (st₀ : List mg_V) (M : mg_M) (B₀ : Nat), mg_ev mc_X6_cellAt (mg_Mt D l) No mg_no K 1000 false pc ls st₀ M B₀ → K pc ls st₀ M B₀) {M : mg_M} {m₀ : Nat} {x₀ y₀ c₀ r₀ : Int} (st₀ : mm_st M m₀) (rc : mm_rc M m₀) (hw : ∀ k₀ : Nat, (k₀ : Int) < gi M m₀ 2 → 10 ≤ gi M (m₀ + 4) k₀ ∧ gi M (m₀ + 4) k₀ ≤ 200) (hh : ∀ k₀ : Nat, (k₀ : Int) < gi M m₀ 1 → 5 ≤ gi M (m₀ + 5) k₀ ∧ gi M (m₀ + 5) k₀ ≤ 100) (hc₀ : mh_line M (m₀ + 4) (gi M m₀ 2) x₀ c₀) (hr : mh_line M (m₀ + 5) (gi M m₀ 1) y₀ r₀) (he : K 71 [(0, Sum.inr (Sum.inl m₀)), (2, Sum.inl y₀), (3, Sum.inl c₀), (4, Sum.inl r₀), (5, Sum.inl (mh_wsum M (m₀ + 5) 0 (gi M m₀ 1))), (6, Sum.inl (gi M m₀ 1))] [] M 0) : K 11 [(0, Sum.inr (Sum.inl m₀)), (1, Sum.inl x₀), (2, Sum.inl y₀), (3, Sum.inl (-1)), (4, Sum.inl (-1)), (5, Sum.inl 0), (6, Sum.inl 0)] [] M 0 := by
  have k7₀ := st₀.1
  have rc' := rc
  unfold mm_rc at rc'
  obtain ⟨a8, d8₀⟩ := mm_arf st₀.2.1.2.2.2.1 (by decide)
  obtain ⟨a9, d9₀⟩ := mm_arf st₀.2.1.2.2.2.2 (by decide)
  have W₀ := fun k₀ (k0₀ : 0 ≤ k₀) (k1₀ : k₀ < gi M m₀ 2) => mh_line1 (fun k₀ hk => by have := hw k₀ hk; omega) hc₀ ⟨k0₀, k1₀⟩
  have V := fun k₀ (k0₀ : 0 ≤ k₀) (k1₀ : k₀ < gi M m₀ 1) => mh_line1 (fun k₀ hk => by have := hh k₀ hk; omega) hr ⟨k0₀, k1₀⟩
  have Wb := fun k₀ (k0₀ : 0 ≤ k₀) (k1₀ : k₀ ≤ gi M m₀ 2) => @mh_wsumb M (m₀ + 4) 0 k₀ 200 (by omega) k0₀ (fun i₀ hi => by have := hw i₀ (by omega); omega)
  have Vb := fun k₀ (k0₀ : 0 ≤ k₀) (k1₀ : k₀ ≤ gi M m₀ 1) => @mh_wsumb M (m₀ + 5) 0 k₀ 100 (by omega) k0₀ (fun i₀ hi => by have := hh i₀ (by omega); omega)
  have c0 : c₀ < gi M m₀ 2 ∧ -1 ≤ c₀ := by rcases hc₀ with ⟨z₀, _⟩ | ⟨z₀, _⟩ <;> omega
  have r0' : r₀ < gi M m₀ 1 ∧ -1 ≤ r₀ := by rcases hr with ⟨z₀, _⟩ | ⟨z₀, _⟩ <;> omega
  clear hc₀ hr
  have F2 : K 71 [(0, Sum.inr (Sum.inl m₀)), (2, Sum.inl y₀), (3, Sum.inl c₀), (4, Sum.inl (-1)), (5, Sum.inl 0), (6, Sum.inl 0)] [] M 0 := by
    refine mh_for (P := fun k₀ (z₀ : Int × Int) => z₀.1 = (if r₀ < k₀ then r₀ else -1) ∧ z₀.2 = mh_wsum M (m₀ + 5) 0 k₀) (G := fun k₀ z₀ => K 71 [(0, Sum.inr (Sum.inl m₀)), (2, Sum.inl y₀), (3, Sum.inl c₀), (4, Sum.inl z₀.1), (5, Sum.inl z₀.2), (6, Sum.inl k₀)] [] M 0) (lo := 0) (hi := gi M m₀ 1) (by omega) ?_ ?_ (-1, 0) ⟨by dsimp only; split <;> omega, rfl⟩
    · rintro ⟨z1, z2⟩ ⟨h1, h2⟩
      dsimp only at h1 h2 ⊢
      rw [h1, h2, if_pos r0'.1]
      exact he
    · rintro k₀ ⟨z1, z2⟩ k0₀ k1₀ ⟨h1, h2⟩ nex
      dsimp only at h1 h2 nex ⊢
      have e1₀ := @mh_wsum1 M (m₀ + 5) 0 k₀ k0₀ (by omega)
      rw [show 0 + k₀ = k₀ by omega, ← h2] at e1₀
      have v₀ := V k₀ k0₀ k1₀
      rw [e1₀, ← h2] at v₀
      have b₀ := Vb k₀ k0₀ (by omega)
      rw [← h2] at b₀
      have w1₀ := hh k₀.toNat (by omega)
      have w3₀ : gi M (gr M m₀ 9) k₀.toNat = gi M (m₀ + 5) k₀.toNat := by rw [a9]
      have nex2 : ∀ u₀ w₀, u₀ = (if r₀ < k₀ + 1 then r₀ else -1) → w₀ = z2 + gi M (m₀ + 5) k₀.toNat → K 71 [(0, Sum.inr (Sum.inl m₀)), (2, Sum.inl y₀), (3, Sum.inl c₀), (4, Sum.inl u₀), (5, Sum.inl w₀), (6, Sum.inl (k₀ + 1))] [] M 0 := fun u₀ w₀ hu hw => nex (u₀, w₀) ⟨hu, hw.trans e1₀.symm⟩
      clear nex W₀ V Wb Vb hw hh e1₀ h2 a8 d8₀
      refine hK₀ _ _ _ _ _ ?_
      (repeat' (((conv => whnf); first | (show (_ : Option mg_V) = _ ∧ _; assumption) | (show K _ _ _ _ _; assumption) | (show mm_th _ _ _ _; assumption) | refine And.intro (by first | assumption | omega | (simp only [true_and]; first | done | assumption | omega)) ?_ | (refine And.intro (fun _ => ?_) (fun _ => ?_) <;> first | (exfalso; omega) | skip) | intro _ | fail)))
      all_goals ((conv => whnf); exact nex2 _ _ (by split <;> (split at h1 <;> omega)) (by omega))
  refine mh_for (P := fun k₀ (z₀ : Int × Int) => z₀.1 = (if c₀ < k₀ then c₀ else -1) ∧ z₀.2 = mh_wsum M (m₀ + 4) 0 k₀) (G := fun k₀ z₀ => K 11 [(0, Sum.inr (Sum.inl m₀)), (1, Sum.inl x₀), (2, Sum.inl y₀), (3, Sum.inl z₀.1), (4, Sum.inl (-1)), (5, Sum.inl z₀.2), (6, Sum.inl k₀)] [] M 0) (lo := 0) (hi := gi M m₀ 2) (by omega) ?_ ?_ (-1, 0) ⟨by dsimp only; split <;> omega, rfl⟩
  · rintro ⟨z1, z2⟩ ⟨h1, h2⟩
    dsimp only at h1 h2 ⊢
    rw [h1, if_pos c0.1]
    clear h1 h2 W₀ V Wb Vb hw hh he
    refine hK₀ _ _ _ _ _ ?_
    (repeat' (((conv => whnf); first | (show (_ : Option mg_V) = _ ∧ _; assumption) | (show K _ _ _ _ _; assumption) | (show mm_th _ _ _ _; assumption) | refine And.intro (by first | assumption | omega | (simp only [true_and]; first | done | assumption | omega)) ?_ | (refine And.intro (fun _ => ?_) (fun _ => ?_) <;> first | (exfalso; omega) | skip) | intro _ | fail)))
  · rintro k₀ ⟨z1, z2⟩ k0₀ k1₀ ⟨h1, h2⟩ nex
    dsimp only at h1 h2 nex ⊢
    have e1₀ := @mh_wsum1 M (m₀ + 4) 0 k₀ k0₀ (by omega)
    rw [show 0 + k₀ = k₀ by omega, ← h2] at e1₀
    have v₀ := W₀ k₀ k0₀ k1₀
    rw [e1₀, ← h2] at v₀
    have b₀ := Wb k₀ k0₀ (by omega)
    rw [← h2] at b₀
    have w1₀ := hw k₀.toNat (by omega)
    have w3₀ : gi M (gr M m₀ 8) k₀.toNat = gi M (m₀ + 4) k₀.toNat := by rw [a8]
    have nex2 : ∀ u₀ w₀, u₀ = (if c₀ < k₀ + 1 then c₀ else -1) → w₀ = z2 + gi M (m₀ + 4) k₀.toNat → K 11 [(0, Sum.inr (Sum.inl m₀)), (1, Sum.inl x₀), (2, Sum.inl y₀), (3, Sum.inl u₀), (4, Sum.inl (-1)), (5, Sum.inl w₀), (6, Sum.inl (k₀ + 1))] [] M 0 := fun u₀ w₀ hu hw => nex (u₀, w₀) ⟨hu, hw.trans e1₀.symm⟩
    clear nex W₀ V Wb Vb hw hh e1₀ h2 a9 d9₀ he F2
    refine hK₀ _ _ _ _ _ ?_
    (repeat' (((conv => whnf); first | (show (_ : Option mg_V) = _ ∧ _; assumption) | (show K _ _ _ _ _; assumption) | (show mm_th _ _ _ _; assumption) | refine And.intro (by first | assumption | omega | (simp only [true_and]; first | done | assumption | omega)) ?_ | (refine And.intro (fun _ => ?_) (fun _ => ?_) <;> first | (exfalso; omega) | skip) | intro _ | fail)))
    all_goals ((conv => whnf); exact nex2 _ _ (by split <;> (split at h1 <;> omega)) (by omega))
set_option maxRecDepth 100000 in
theorem cX6_cellAt1 {D : mg_D} {l : Launch} (hl : l.stackTraces = false) {M : mg_M} {m₀ : Nat} {x₀ y₀ c₀ r₀ : Int} (st₀ : mm_st M m₀) (rc : mm_rc M m₀) (hw : ∀ k₀ : Nat, (k₀ : Int) < gi M m₀ 2 → 10 ≤ gi M (m₀ + 4) k₀ ∧ gi M (m₀ + 4) k₀ ≤ 200) (hh : ∀ k₀ : Nat, (k₀ : Int) < gi M m₀ 1 → 5 ≤ gi M (m₀ + 5) k₀ ∧ gi M (m₀ + 5) k₀ ≤ 100) (hc₀ : mh_line M (m₀ + 4) (gi M m₀ 2) x₀ c₀) (hr : mh_line M (m₀ + 5) (gi M m₀ 1) y₀ r₀) (h₀ : c₀ = -1 ∨ r₀ = -1) : mg_Mt D l 200 [.inr (.inl m₀), .inl x₀, .inl y₀] M (fun v₀ N => v₀ = some (.inl 0) ∧ N = si M m₀ 0 1) mg_no := by
  refine mg_of2 hl ok_X6_cellAt al_X6_cellAt rfl (fun K hK₀ => ?_)
  have k7₀ := st₀.1
  have w₀ := mm_cellAtL hK₀ st₀ rc hw hh hc₀ hr (by
    clear hc₀ hr hw hh
    refine hK₀ _ _ _ _ _ ?_
    (repeat' (((conv => whnf); first | (show (_ : Option mg_V) = _ ∧ _; assumption) | (show K _ _ _ _ _; assumption) | (show mm_th _ _ _ _; assumption) | refine And.intro (by first | assumption | omega | (simp only [true_and]; first | done | assumption | omega)) ?_ | (refine And.intro (fun _ => ?_) (fun _ => ?_) <;> first | (exfalso; omega) | skip) | intro _ | fail)))
    all_goals (try ((conv => whnf); (refine Exists.intro _ (Exists.intro _ (And.intro (cX6_fails hl k7₀) (And.intro ?_ (fun _ _ h₀ => h₀.elim)))); rintro _ _ ⟨rfl, e₀⟩; have e2₀ := e₀.symm; clear e₀; subst e2₀); (repeat' (((conv => whnf); first | (show (_ : Option mg_V) = _ ∧ _; assumption) | (show K _ _ _ _ _; assumption) | (show mm_th _ _ _ _; assumption) | refine And.intro (by first | assumption | omega | (simp only [true_and]; first | done | assumption | omega)) ?_ | (refine And.intro (fun _ => ?_) (fun _ => ?_) <;> first | (exfalso; omega) | skip) | intro _ | fail)))))
    all_goals ((conv => whnf) <;> first | rfl | exact And.intro rfl rfl))
  clear hc₀ hr hw hh
  refine hK₀ _ _ _ _ _ ?_
  (repeat' (((conv => whnf); first | (show (_ : Option mg_V) = _ ∧ _; assumption) | (show K _ _ _ _ _; assumption) | (show mm_th _ _ _ _; assumption) | refine And.intro (by first | assumption | omega | (simp only [true_and]; first | done | assumption | omega)) ?_ | (refine And.intro (fun _ => ?_) (fun _ => ?_) <;> first | (exfalso; omega) | skip) | intro _ | fail)))
set_option maxRecDepth 100000 in
theorem cX6_cellAt0 {D : mg_D} {l : Launch} (hl : l.stackTraces = false) {M : mg_M} {m₀ : Nat} {x₀ y₀ c₀ r₀ T L₀ H₀ W₀ : Int} (st₀ : mm_st M m₀) (rc : mm_rc M m₀) (hw : ∀ k₀ : Nat, (k₀ : Int) < gi M m₀ 2 → 10 ≤ gi M (m₀ + 4) k₀ ∧ gi M (m₀ + 4) k₀ ≤ 200) (hh : ∀ k₀ : Nat, (k₀ : Int) < gi M m₀ 1 → 5 ≤ gi M (m₀ + 5) k₀ ∧ gi M (m₀ + 5) k₀ ≤ 100) (hc₀ : mh_line M (m₀ + 4) (gi M m₀ 2) x₀ c₀) (hr : mh_line M (m₀ + 5) (gi M m₀ 1) y₀ r₀) (h₀ : mh_rg (gi M m₀ 1) (gi M m₀ 2) r₀ c₀) (hR : mm_rect M m₀ (mi M (m₀ + 1) r₀ c₀) T L₀ H₀ W₀) : mg_Mt D l 200 [.inr (.inl m₀), .inl x₀, .inl y₀] M (fun v₀ N => v₀ = some (.inl (100 * T + L₀)) ∧ N = si M m₀ 0 0) mg_no := by
  refine mg_of2 hl ok_X6_cellAt al_X6_cellAt rfl (fun K hK₀ => ?_)
  have k7₀ := st₀.1
  have rc' := rc
  unfold mm_rc at rc'
  have b1 := hR.1
  have b2 := hR.2.1
  have f₀ : mm_f (fun b₀ k₀ => b₀ = m₀ ∧ k₀ = 0) M (si M m₀ 0 0) := mm_f0 rfl
  have stP := mm_f_st f₀ st₀
  have rcP := mm_rc_f f₀ (by omega) (by omega) rc
  have eid : mi (si M m₀ 0 0) (m₀ + 1) r₀ c₀ = mi M (m₀ + 1) r₀ c₀ := mm_f_gi f₀ (m₀ + 1) _ (by omega)
  have rP : mm_rect (si M m₀ 0 0) m₀ (mi (si M m₀ 0 0) (m₀ + 1) r₀ c₀) T L₀ H₀ W₀ := by
    rw [eid]
    exact mm_rect_f (mm_f_gi f₀ m₀ 1 (by omega)) (mm_f_gi f₀ m₀ 2 (by omega)) (fun j₀ => mm_f_gi f₀ (m₀ + 1) j₀ (by omega)) hR
  have w₀ := mm_cellAtL hK₀ st₀ rc hw hh hc₀ hr (by
    clear hc₀ hr hw hh hR
    have k7P := stP.1
    refine hK₀ _ _ _ _ _ ?_
    (repeat' (((conv => whnf); first | (show (_ : Option mg_V) = _ ∧ _; assumption) | (show K _ _ _ _ _; assumption) | (show mm_th _ _ _ _; assumption) | refine And.intro (by first | assumption | omega | (simp only [true_and]; first | done | assumption | omega)) ?_ | (refine And.intro (fun _ => ?_) (fun _ => ?_) <;> first | (exfalso; omega) | skip) | intro _ | fail)))
    all_goals (try ((conv => whnf); (refine Exists.intro _ (Exists.intro _ (And.intro (cX6_fails hl k7₀) (And.intro ?_ (fun _ _ h₀ => h₀.elim)))); rintro _ _ ⟨rfl, e₀⟩; have e2₀ := e₀.symm; clear e₀; subst e2₀); (repeat' (((conv => whnf); first | (show (_ : Option mg_V) = _ ∧ _; assumption) | (show K _ _ _ _ _; assumption) | (show mm_th _ _ _ _; assumption) | refine And.intro (by first | assumption | omega | (simp only [true_and]; first | done | assumption | omega)) ?_ | (refine And.intro (fun _ => ?_) (fun _ => ?_) <;> first | (exfalso; omega) | skip) | intro _ | fail)))))
    all_goals (try ((conv => whnf); (refine Exists.intro _ (Exists.intro _ (And.intro (cX6_id hl stP (by omega) (by omega)) (And.intro ?_ (fun _ _ h₀ => h₀.elim)))); rintro _ _ ⟨rfl, e₀⟩; have e2₀ := e₀.symm; clear e₀; subst e2₀); (repeat' (((conv => whnf); first | (show (_ : Option mg_V) = _ ∧ _; assumption) | (show K _ _ _ _ _; assumption) | (show mm_th _ _ _ _; assumption) | refine And.intro (by first | assumption | omega | (simp only [true_and]; first | done | assumption | omega)) ?_ | (refine And.intro (fun _ => ?_) (fun _ => ?_) <;> first | (exfalso; omega) | skip) | intro _ | fail)))))
    all_goals (try ((conv => whnf); (refine Exists.intro _ (Exists.intro _ (And.intro (cX6_topRow hl stP rcP rP) (And.intro ?_ (fun _ _ h₀ => h₀.elim)))); rintro _ _ ⟨rfl, e₀⟩; have e2₀ := e₀.symm; clear e₀; subst e2₀); (repeat' (((conv => whnf); first | (show (_ : Option mg_V) = _ ∧ _; assumption) | (show K _ _ _ _ _; assumption) | (show mm_th _ _ _ _; assumption) | refine And.intro (by first | assumption | omega | (simp only [true_and]; first | done | assumption | omega)) ?_ | (refine And.intro (fun _ => ?_) (fun _ => ?_) <;> first | (exfalso; omega) | skip) | intro _ | fail)))))
    all_goals (try ((conv => whnf); (refine Exists.intro _ (Exists.intro _ (And.intro (cX6_id hl stP (by omega) (by omega)) (And.intro ?_ (fun _ _ h₀ => h₀.elim)))); rintro _ _ ⟨rfl, e₀⟩; have e2₀ := e₀.symm; clear e₀; subst e2₀); (repeat' (((conv => whnf); first | (show (_ : Option mg_V) = _ ∧ _; assumption) | (show K _ _ _ _ _; assumption) | (show mm_th _ _ _ _; assumption) | refine And.intro (by first | assumption | omega | (simp only [true_and]; first | done | assumption | omega)) ?_ | (refine And.intro (fun _ => ?_) (fun _ => ?_) <;> first | (exfalso; omega) | skip) | intro _ | fail)))))
    all_goals (try ((conv => whnf); (refine Exists.intro _ (Exists.intro _ (And.intro (cX6_leftCol hl stP rcP rP) (And.intro ?_ (fun _ _ h₀ => h₀.elim)))); rintro _ _ ⟨rfl, e₀⟩; have e2₀ := e₀.symm; clear e₀; subst e2₀); (repeat' (((conv => whnf); first | (show (_ : Option mg_V) = _ ∧ _; assumption) | (show K _ _ _ _ _; assumption) | (show mm_th _ _ _ _; assumption) | refine And.intro (by first | assumption | omega | (simp only [true_and]; first | done | assumption | omega)) ?_ | (refine And.intro (fun _ => ?_) (fun _ => ?_) <;> first | (exfalso; omega) | skip) | intro _ | fail)))))
    all_goals ((conv => whnf) <;> first | rfl | exact And.intro rfl rfl))
  clear hc₀ hr hw hh hR
  refine hK₀ _ _ _ _ _ ?_
  (repeat' (((conv => whnf); first | (show (_ : Option mg_V) = _ ∧ _; assumption) | (show K _ _ _ _ _; assumption) | (show mm_th _ _ _ _; assumption) | refine And.intro (by first | assumption | omega | (simp only [true_and]; first | done | assumption | omega)) ?_ | (refine And.intro (fun _ => ?_) (fun _ => ?_) <;> first | (exfalso; omega) | skip) | intro _ | fail)))
def mh_ms (H₀ W₀ : Int → Int → Int) (r₀ c₀ : Nat) : Int := if 1 < H₀ r₀ c₀ * W₀ r₀ c₀ then 1 else 0
set_option maxRecDepth 100000 in
theorem cX6_mergedShare {D : mg_D} {l : Launch} (hl : l.stackTraces = false) {M : mg_M} {m₀ : Nat} {T L₀ H₀ W₀ : Int → Int → Int} {n₀ : Int} (st₀ : mm_st M m₀) (rc : mm_rc M m₀) (hb₀ : 1 ≤ gi M m₀ 1 ∧ 1 ≤ gi M m₀ 2) (hR : mm_rts M m₀ T L₀ H₀ W₀) (hn : mh_sum (fun r₀ => mh_sum (mh_ms H₀ W₀ r₀) (gi M m₀ 2).toNat) (gi M m₀ 1).toNat = n₀) (hq : vf_n32 (FP.fdiv (FP.i2f (Int32.ofInt n₀)) (FP.i2f (Int32.ofInt (gi M m₀ 1 * gi M m₀ 2))))) : mg_Mt D l 205 [.inr (.inl m₀)] M (fun v₀ N => v₀ = some (.inr (.inr (.inr (.inr (FP.fdiv (FP.i2f (Int32.ofInt n₀)) (FP.i2f (Int32.ofInt (gi M m₀ 1 * gi M m₀ 2)))))))) ∧ N = si M m₀ 0 0) mg_no := by
  refine mg_of2 hl ok_X6_mergedShare al_X6_mergedShare rfl (fun K hK₀ => ?_)
  have k7₀ := st₀.1
  have rc' := rc
  unfold mm_rc at rc'
  have F₀ : ∀ P, P = si M m₀ 0 0 → K 9 [(0, Sum.inr (Sum.inl m₀)), (1, Sum.inl 0), (2, Sum.inl 0)] [] P 0 := by
    intro P e₀
    have f₀ := mm_f0 e₀
    have stP := mm_f_st f₀ st₀
    have k7P := stP.1
    have rcP := mm_rc_f f₀ (by omega) (by omega) rc
    have t1₀ := mm_f_gi f₀ m₀ 1 (by omega)
    have t2₀ := mm_f_gi f₀ m₀ 2 (by omega)
    have g01 : ∀ i₀ j₀ : Nat, 0 ≤ mh_ms H₀ W₀ i₀ j₀ ∧ mh_ms H₀ W₀ i₀ j₀ ≤ 1 := fun i₀ j₀ => by unfold mh_ms; split <;> omega
    refine mh_for2d (P := fun r₀ c₀ z₀ => z₀ = mh_sum (fun r₀ => mh_sum (mh_ms H₀ W₀ r₀) (gi M m₀ 2).toNat) r₀.toNat + mh_sum (mh_ms H₀ W₀ r₀.toNat) c₀.toNat) (G1 := fun r₀ z₀ => K 9 [(0, Sum.inr (Sum.inl m₀)), (1, Sum.inl z₀), (2, Sum.inl r₀)] [] P 0) (G2 := fun r₀ c₀ z₀ => K 19 [(0, Sum.inr (Sum.inl m₀)), (1, Sum.inl z₀), (2, Sum.inl r₀), (3, Sum.inl c₀)] [] P 0) (R := gi M m₀ 1) (C := gi M m₀ 2) (r0 := 0) (c0 := 0) (by omega) (by omega) ?_ ?_ ?_ ?_ 0 rfl
    · intro z₀ hz
      have ez : z₀ = n₀ := by rw [hz, ← hn]; exact Int.add_zero _
      subst ez
      have p1₀ : gi P m₀ 1 * gi P m₀ 2 = gi M m₀ 1 * gi M m₀ 2 := by rw [t1₀, t2₀]
      have p2₀ := @mh_mulb (gi M m₀ 1) (gi M m₀ 2) (by omega) (by omega)
      have hq2 : vf_n32 (FP.fdiv (FP.i2f (Int32.ofInt z₀)) (FP.i2f (Int32.ofInt (gi P m₀ 1 * gi P m₀ 2)))) := by rw [p1₀]; exact hq
      clear hn hz hR g01
      refine hK₀ _ _ _ _ _ ?_
      (repeat' (((conv => whnf); first | (show (_ : Option mg_V) = _ ∧ _; assumption) | (show K _ _ _ _ _; assumption) | (show mm_th _ _ _ _; assumption) | refine And.intro (by first | assumption | omega | (simp only [true_and, kd_si]; first | done | assumption | omega)) ?_ | (refine And.intro (fun _ => ?_) (fun _ => ?_) <;> first | (exfalso; omega) | skip) | intro _ | fail)))
      all_goals ((conv => whnf); rw [p1₀]; exact And.intro rfl e₀)
    · intro r₀ z₀ r1₀ r2 hz g₀
      clear hn hz hR g01 hq
      refine hK₀ _ _ _ _ _ ?_
      (repeat' (((conv => whnf); first | (show (_ : Option mg_V) = _ ∧ _; assumption) | (show K _ _ _ _ _; assumption) | (show mm_th _ _ _ _; assumption) | refine And.intro (by first | assumption | omega | (simp only [true_and, kd_si]; first | done | assumption | omega)) ?_ | (refine And.intro (fun _ => ?_) (fun _ => ?_) <;> first | (exfalso; omega) | skip) | intro _ | fail)))
    · intro r₀ z₀ r1₀ r2 hz
      refine ⟨?_, fun g₀ => ?_⟩
      · rw [mh_sumI r1₀, hz]
        exact (Int.add_zero _).symm
      · clear hn hz hR g01 hq
        refine hK₀ _ _ _ _ _ ?_
        (repeat' (((conv => whnf); first | (show (_ : Option mg_V) = _ ∧ _; assumption) | (show K _ _ _ _ _; assumption) | (show mm_th _ _ _ _; assumption) | refine And.intro (by first | assumption | omega | (simp only [true_and, kd_si]; first | done | assumption | omega)) ?_ | (refine And.intro (fun _ => ?_) (fun _ => ?_) <;> first | (exfalso; omega) | skip) | intro _ | fail)))
    · intro r₀ c₀ z₀ r1₀ r2 c1₀ c2₀ hz nex
      have rr := hR r₀ c₀ ⟨⟨r1₀, r2⟩, c1₀, c2₀⟩
      have b1 := rr.1
      have b2 := rr.2.1
      have eid : mi P (m₀ + 1) r₀ c₀ = mi M (m₀ + 1) r₀ c₀ := mm_f_gi f₀ (m₀ + 1) _ (by omega)
      have rP : mm_rect P m₀ (mi P (m₀ + 1) r₀ c₀) (T r₀ c₀) (L₀ r₀ c₀) (H₀ r₀ c₀) (W₀ r₀ c₀) := by
        rw [eid]
        exact mm_rect_f t1₀ t2₀ (fun j₀ => mm_f_gi f₀ (m₀ + 1) j₀ (by omega)) rr
      have hm₀ := @mh_mulb (H₀ r₀ c₀) (W₀ r₀ c₀) (by omega) (by omega)
      have s1₀ := mh_suml (fun r₀ => mh_sum (mh_ms H₀ W₀ r₀) (gi M m₀ 2).toNat) 10 r₀.toNat (fun i₀ _ => by
        have := mh_suml (mh_ms H₀ W₀ i₀) 1 (gi M m₀ 2).toNat (fun j₀ _ => g01 i₀ j₀)
        (try dsimp only)
        omega)
      have s2₀ := mh_suml (mh_ms H₀ W₀ r₀.toNat) 1 c₀.toNat (fun j₀ _ => g01 _ j₀)
      have e1₀ := mh_sumI (g₀ := mh_ms H₀ W₀ r₀.toNat) c1₀
      have e2₀ : mh_ms H₀ W₀ r₀.toNat c₀.toNat = if 1 < H₀ r₀ c₀ * W₀ r₀ c₀ then 1 else 0 := by
        unfold mh_ms
        rw [show ((r₀.toNat : Nat) : Int) = r₀ by omega, show ((c₀.toNat : Nat) : Int) = c₀ by omega]
      have nex2 : ∀ w₀, w₀ = z₀ + (if 1 < H₀ r₀ c₀ * W₀ r₀ c₀ then 1 else 0) → K 19 [(0, Sum.inr (Sum.inl m₀)), (1, Sum.inl w₀), (2, Sum.inl r₀), (3, Sum.inl (c₀ + 1))] [] P 0 := fun w₀ hw => nex w₀ (by rw [hw, e1₀, e2₀, hz, Int.add_assoc])
      have zb : 0 ≤ z₀ ∧ z₀ ≤ 1000 := by rw [hz]; omega
      clear nex hz hn hR g01 hq s1₀ s2₀ e1₀ e2₀ rr
      refine hK₀ _ _ _ _ _ ?_
      (repeat' (((conv => whnf); first | (show (_ : Option mg_V) = _ ∧ _; assumption) | (show K _ _ _ _ _; assumption) | (show mm_th _ _ _ _; assumption) | refine And.intro (by first | assumption | omega | (simp only [true_and, kd_si]; first | done | assumption | omega)) ?_ | (refine And.intro (fun _ => ?_) (fun _ => ?_) <;> first | (exfalso; omega) | skip) | intro _ | fail)))
      all_goals (try ((conv => whnf); (refine Exists.intro _ (Exists.intro _ (And.intro (cX6_id hl stP (by omega) (by omega)) (And.intro ?_ (fun _ _ h₀ => h₀.elim)))); rintro _ _ ⟨rfl, e₀⟩; have e2₀ := e₀.symm; clear e₀; subst e2₀); (repeat' (((conv => whnf); first | (show (_ : Option mg_V) = _ ∧ _; assumption) | (show K _ _ _ _ _; assumption) | (show mm_th _ _ _ _; assumption) | refine And.intro (by first | assumption | omega | (simp only [true_and, kd_si]; first | done | assumption | omega)) ?_ | (refine And.intro (fun _ => ?_) (fun _ => ?_) <;> first | (exfalso; omega) | skip) | intro _ | fail)))))
      all_goals (try ((conv => whnf); (refine Exists.intro _ (Exists.intro _ (And.intro (cX6_rowMany hl stP rcP rP) (And.intro ?_ (fun _ _ h₀ => h₀.elim)))); rintro _ _ ⟨rfl, e₀⟩; have e2₀ := e₀.symm; clear e₀; subst e2₀); (repeat' (((conv => whnf); first | (show (_ : Option mg_V) = _ ∧ _; assumption) | (show K _ _ _ _ _; assumption) | (show mm_th _ _ _ _; assumption) | refine And.intro (by first | assumption | omega | (simp only [true_and, kd_si]; first | done | assumption | omega)) ?_ | (refine And.intro (fun _ => ?_) (fun _ => ?_) <;> first | (exfalso; omega) | skip) | intro _ | fail)))))
      all_goals (try ((conv => whnf); (refine Exists.intro _ (Exists.intro _ (And.intro (cX6_id hl stP (by omega) (by omega)) (And.intro ?_ (fun _ _ h₀ => h₀.elim)))); rintro _ _ ⟨rfl, e₀⟩; have e2₀ := e₀.symm; clear e₀; subst e2₀); (repeat' (((conv => whnf); first | (show (_ : Option mg_V) = _ ∧ _; assumption) | (show K _ _ _ _ _; assumption) | (show mm_th _ _ _ _; assumption) | refine And.intro (by first | assumption | omega | (simp only [true_and, kd_si]; first | done | assumption | omega)) ?_ | (refine And.intro (fun _ => ?_) (fun _ => ?_) <;> first | (exfalso; omega) | skip) | intro _ | fail)))))
      all_goals (try ((conv => whnf); (refine Exists.intro _ (Exists.intro _ (And.intro (cX6_colMany hl stP rcP rP) (And.intro ?_ (fun _ _ h₀ => h₀.elim)))); rintro _ _ ⟨rfl, e₀⟩; have e2₀ := e₀.symm; clear e₀; subst e2₀); (repeat' (((conv => whnf); first | (show (_ : Option mg_V) = _ ∧ _; assumption) | (show K _ _ _ _ _; assumption) | (show mm_th _ _ _ _; assumption) | refine And.intro (by first | assumption | omega | (simp only [true_and, kd_si]; first | done | assumption | omega)) ?_ | (refine And.intro (fun _ => ?_) (fun _ => ?_) <;> first | (exfalso; omega) | skip) | intro _ | fail)))))
      all_goals ((conv => whnf); refine nex2 _ ?_; split <;> omega)
  have w₀ := F₀ _ rfl
  refine hK₀ _ _ _ _ _ ?_
  (repeat' (((conv => whnf); first | (show (_ : Option mg_V) = _ ∧ _; assumption) | (show K _ _ _ _ _; assumption) | (show mm_th _ _ _ _; assumption) | refine And.intro (by first | assumption | omega | (simp only [true_and, kd_si]; first | done | assumption | omega)) ?_ | (refine And.intro (fun _ => ?_) (fun _ => ?_) <;> first | (exfalso; omega) | skip) | intro _ | fail)))
