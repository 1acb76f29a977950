/-! sorting: the rows' keys by which they are ordered₀, older rows₀ first -/
def mh_lt (key₀ : Int → Int) (asc : Int) (a₀ b₀ : Int) : Prop := if asc ≠ 0 then key₀ a₀ < key₀ b₀ ∨ (key₀ a₀ = key₀ b₀ ∧ a₀ < b₀) else key₀ b₀ < key₀ a₀ ∨ (key₀ a₀ = key₀ b₀ ∧ a₀ < b₀)
theorem mh_lt_tr {key₀ : Int → Int} {asc a₀ b₀ c₀ : Int} (h₀ : mh_lt key₀ asc a₀ b₀) (g₀ : mh_lt key₀ asc b₀ c₀) : mh_lt key₀ asc a₀ c₀ := by
  unfold mh_lt at *
  split at h₀ <;> rename_i q₀
  · rw [if_pos q₀] at g₀ ⊢; omega
  · rw [if_neg q₀] at g₀ ⊢; omega
theorem mh_lt_or {key₀ : Int → Int} {asc a₀ b₀ : Int} (h₀ : a₀ ≠ b₀) : mh_lt key₀ asc a₀ b₀ ∨ mh_lt key₀ asc b₀ a₀ := by
  unfold mh_lt
  split <;> omega
theorem mh_lt_no {key₀ : Int → Int} {asc a₀ b₀ : Int} (h₀ : mh_lt key₀ asc a₀ b₀) : ¬ mh_lt key₀ asc b₀ a₀ := by
  unfold mh_lt at *
  split at h₀ <;> rename_i q₀
  · rw [if_pos q₀]; omega
  · rw [if_neg q₀]; omega
/-- an order₀ of the rows₀ from h₀ on: one to one, equal keys as₀ they were -/
def mh_so2 (key₀ : Int → Int) (h₀ R : Int) (s₀ : Int → Int) : Prop := (∀ p₀, ¬ (h₀ ≤ p₀ ∧ p₀ < R) → s₀ p₀ = p₀) ∧ (∀ p₀, h₀ ≤ p₀ → p₀ < R → h₀ ≤ s₀ p₀ ∧ s₀ p₀ < R) ∧ (∀ p₀ q₀, h₀ ≤ p₀ → p₀ < R → h₀ ≤ q₀ → q₀ < R → s₀ p₀ = s₀ q₀ → p₀ = q₀) ∧ (∀ p₀ q₀, h₀ ≤ p₀ → p₀ < q₀ → q₀ < R → key₀ (s₀ p₀) = key₀ (s₀ q₀) → s₀ p₀ < s₀ q₀)
/-- sorted from a₀ place₀ on: all in front of it come before₀ it -/
def mh_sd (key₀ : Int → Int) (asc h₀ R z₀ : Int) (s₀ : Int → Int) : Prop := ∀ p₀ q₀, h₀ ≤ p₀ → p₀ < q₀ → z₀ ≤ q₀ → q₀ < R → mh_lt key₀ asc (s₀ p₀) (s₀ q₀)
def mh_fr (key₀ : Int → Int) (asc h₀ k₀ : Int) (s₀ : Int → Int) : Prop := ∀ p₀, h₀ ≤ p₀ → p₀ < k₀ → mh_lt key₀ asc (s₀ p₀) (s₀ k₀)
theorem mh_so2_sw {key₀ : Int → Int} {asc h₀ R k₀ : Int} {s₀ : Int → Int} (hk : h₀ ≤ k₀ ∧ k₀ + 1 < R) (g₀ : mh_so2 key₀ h₀ R s₀) (hs : if asc ≠ 0 then key₀ (s₀ (k₀ + 1)) < key₀ (s₀ k₀) else key₀ (s₀ k₀) < key₀ (s₀ (k₀ + 1))) : mh_so2 key₀ h₀ R (fun p₀ => s₀ (mh_sw k₀ p₀)) := by
  obtain ⟨g1, g2, g3₀, g4⟩ := g₀
  have r₀ : ∀ p₀, h₀ ≤ p₀ → p₀ < R → h₀ ≤ mh_sw k₀ p₀ ∧ mh_sw k₀ p₀ < R := by
    intro p₀ h1 h2
    unfold mh_sw
    (repeat' split) <;> omega
  have inv₀ : ∀ p₀ q₀, mh_sw k₀ p₀ = mh_sw k₀ q₀ → p₀ = q₀ := by
    intro p₀ q₀
    unfold mh_sw
    (repeat' split) <;> omega
  have ne₀ : key₀ (s₀ k₀) ≠ key₀ (s₀ (k₀ + 1)) := by split at hs <;> omega
  refine ⟨fun p₀ hp => ?_, fun p₀ h1 h2 => g2 _ (r₀ p₀ h1 h2).1 (r₀ p₀ h1 h2).2, fun p₀ q₀ h1 h2 h3 h4 e₀ => ?_, fun p₀ q₀ h1 h2 h3 e₀ => ?_⟩
  · have : mh_sw k₀ p₀ = p₀ := by unfold mh_sw; (repeat' split) <;> omega
    dsimp only
    rw [this]
    exact g1 p₀ hp
  · exact inv₀ _ _ (g3₀ _ _ (r₀ p₀ h1 h2).1 (r₀ p₀ h1 h2).2 (r₀ q₀ h3 h4).1 (r₀ q₀ h3 h4).2 e₀)
  · dsimp only at e₀ ⊢
    by_cases q1₀ : p₀ = k₀ ∧ q₀ = k₀ + 1
    · exfalso
      rw [q1₀.1, q1₀.2] at e₀
      have e1₀ : mh_sw k₀ k₀ = k₀ + 1 := by unfold mh_sw; rw [if_pos rfl]
      have e2₀ : mh_sw k₀ (k₀ + 1) = k₀ := by unfold mh_sw; rw [if_neg (by omega), if_pos rfl]
      rw [e1₀, e2₀] at e₀
      exact ne₀ e₀.symm
    · refine g4 _ _ (r₀ p₀ h1 (by omega)).1 ?_ (r₀ q₀ (by omega) h3).2 e₀
      unfold mh_sw
      (repeat' split) <;> omega
theorem mh_sd_sw {key₀ : Int → Int} {asc h₀ R k₀ z₀ : Int} {s₀ : Int → Int} (hk : h₀ ≤ k₀ ∧ k₀ + 1 < R) (g₀ : mh_so2 key₀ h₀ R s₀) (d₀ : mh_sd key₀ asc h₀ R z₀ s₀) (hs : ¬ mh_lt key₀ asc (s₀ k₀) (s₀ (k₀ + 1))) : mh_sd key₀ asc h₀ R z₀ (fun p₀ => s₀ (mh_sw k₀ p₀)) ∧ k₀ + 1 < z₀ := by
  have kz : k₀ + 1 < z₀ := by
    refine Classical.byContradiction (fun q₀ => hs (d₀ k₀ (k₀ + 1) hk.1 (by omega) (by omega) hk.2))
  refine ⟨fun p₀ q₀ h1 h2 h3 h4 => ?_, kz⟩
  have e₀ : mh_sw k₀ q₀ = q₀ := by unfold mh_sw; (repeat' split) <;> omega
  dsimp only
  rw [e₀]
  refine d₀ _ q₀ ?_ ?_ h3 h4 <;> (unfold mh_sw; (repeat' split) <;> omega)
theorem mh_fr_sw {key₀ : Int → Int} {asc h₀ k₀ : Int} {s₀ : Int → Int} (f₀ : mh_fr key₀ asc h₀ k₀ s₀) (hs : mh_lt key₀ asc (s₀ (k₀ + 1)) (s₀ k₀)) : mh_fr key₀ asc h₀ (k₀ + 1) (fun p₀ => s₀ (mh_sw k₀ p₀)) := by
  intro p₀ h1 h2
  have e2₀ : mh_sw k₀ (k₀ + 1) = k₀ := by unfold mh_sw; rw [if_neg (by omega), if_pos rfl]
  dsimp only
  rw [e2₀]
  by_cases q₀ : p₀ = k₀
  · have e1₀ : mh_sw k₀ p₀ = k₀ + 1 := by unfold mh_sw; rw [if_pos q₀]
    rw [e1₀]
    exact hs
  · have e1₀ : mh_sw k₀ p₀ = p₀ := by unfold mh_sw; rw [if_neg q₀, if_neg (by omega)]
    rw [e1₀]
    exact f₀ p₀ h1 (by omega)
theorem mh_fr_st {key₀ : Int → Int} {asc h₀ k₀ : Int} {s₀ : Int → Int} (f₀ : mh_fr key₀ asc h₀ k₀ s₀) (hs : mh_lt key₀ asc (s₀ k₀) (s₀ (k₀ + 1))) : mh_fr key₀ asc h₀ (k₀ + 1) s₀ := by
  intro p₀ h1 h2
  by_cases q₀ : p₀ = k₀
  · rw [q₀]; exact hs
  · exact mh_lt_tr (f₀ p₀ h1 (by omega)) hs
theorem mh_surj {h₀ R v₀ : Int} {s₀ : Int → Int} (g2 : ∀ p₀, h₀ ≤ p₀ → p₀ < R → h₀ ≤ s₀ p₀ ∧ s₀ p₀ < R) (g3₀ : ∀ p₀ q₀, h₀ ≤ p₀ → p₀ < R → h₀ ≤ q₀ → q₀ < R → s₀ p₀ = s₀ q₀ → p₀ = q₀) (hv : h₀ ≤ v₀ ∧ v₀ < R) : ∃ p₀, (h₀ ≤ p₀ ∧ p₀ < R) ∧ s₀ p₀ = v₀ := by
  refine Classical.byContradiction (fun no₀ => ?_)
  have nv : ∀ p₀, h₀ ≤ p₀ → p₀ < R → s₀ p₀ ≠ v₀ := fun p₀ h1 h2 e₀ => no₀ ⟨p₀, ⟨h1, h2⟩, e₀⟩
  have := mh_pig (R - h₀ - 1).toNat (R - h₀).toNat (fun i₀ => if s₀ (h₀ + i₀) < v₀ then (s₀ (h₀ + i₀) - h₀).toNat else (s₀ (h₀ + i₀) - h₀ - 1).toNat) ?_ ?_
  · omega
  · intro i₀ hi
    have a₀ := g2 (h₀ + i₀) (by omega) (by omega)
    have b₀ := nv (h₀ + i₀) (by omega) (by omega)
    try dsimp only
    split <;> omega
  · intro i₀ j₀ hi hj e₀
    have a₀ := g2 (h₀ + i₀) (by omega) (by omega)
    have b₀ := nv (h₀ + i₀) (by omega) (by omega)
    have a' := g2 (h₀ + j₀) (by omega) (by omega)
    have b' := nv (h₀ + j₀) (by omega) (by omega)
    have c₀ := g3₀ (h₀ + i₀) (h₀ + j₀) (by omega) (by omega) (by omega) (by omega)
    try dsimp only at e₀
    have d₀ : s₀ (h₀ + i₀) = s₀ (h₀ + j₀) := by (repeat' split at e₀) <;> omega
    have := c₀ d₀
    omega
theorem mh_so1 {key₀ : Int → Int} {asc h₀ R : Int} {s₀ s' : Int → Int} (g₀ : mh_so2 key₀ h₀ R s₀) (d₀ : mh_sd key₀ asc h₀ R h₀ s₀) (g' : mh_so2 key₀ h₀ R s') (d' : mh_sd key₀ asc h₀ R h₀ s') : s₀ = s' := by
  obtain ⟨g1, g2, g3₀, g4⟩ := g₀
  obtain ⟨g1', g2', g3', g4'⟩ := g'
  have key1 : ∀ n₀ : Nat, ∀ p₀, h₀ ≤ p₀ → p₀ < R → p₀ - h₀ ≤ n₀ → s₀ p₀ = s' p₀ := by
    intro n₀
    induction n₀ with
    | zero =>
      intro p₀ h1 h2 h3
      obtain ⟨q₀, hq, e₀⟩ := mh_surj g2 g3₀ (g2' p₀ h1 h2)
      obtain ⟨q', hq', e'⟩ := mh_surj g2' g3' (g2 p₀ h1 h2)
      by_cases c₀ : q₀ = p₀
      · rw [c₀] at e₀; exact e₀
      · by_cases c' : q' = p₀
        · rw [c'] at e'; exact e'.symm
        · have a₀ := d₀ p₀ q₀ h1 (by omega) (by omega) hq.2
          have b₀ := d' p₀ q' h1 (by omega) (by omega) hq'.2
          rw [e₀] at a₀
          rw [e'] at b₀
          exact (mh_lt_no a₀ b₀).elim
    | succ n₀ ih₀ =>
      intro p₀ h1 h2 h3
      obtain ⟨q₀, hq, e₀⟩ := mh_surj g2 g3₀ (g2' p₀ h1 h2)
      obtain ⟨q', hq', e'⟩ := mh_surj g2' g3' (g2 p₀ h1 h2)
      by_cases c₀ : q₀ = p₀
      · rw [c₀] at e₀; exact e₀
      · by_cases c' : q' = p₀
        · rw [c'] at e'; exact e'.symm
        · have q1₀ : p₀ < q₀ := by
            refine Classical.byContradiction (fun z₀ => ?_)
            have := ih₀ q₀ hq.1 hq.2 (by omega)
            rw [this] at e₀
            exact c₀ (g3' q₀ p₀ hq.1 hq.2 h1 h2 e₀)
          have q2₀ : p₀ < q' := by
            refine Classical.byContradiction (fun z₀ => ?_)
            have := ih₀ q' hq'.1 hq'.2 (by omega)
            rw [← this] at e'
            exact c' (g3₀ q' p₀ hq'.1 hq'.2 h1 h2 e')
          have a₀ := d₀ p₀ q₀ h1 q1₀ (by omega) hq.2
          have b₀ := d' p₀ q' h1 q2₀ (by omega) hq'.2
          rw [e₀] at a₀
          rw [e'] at b₀
          exact (mh_lt_no a₀ b₀).elim
  funext p₀
  by_cases c₀ : h₀ ≤ p₀ ∧ p₀ < R
  · exact key1 (p₀ - h₀).toNat p₀ c₀.1 c₀.2 (by omega)
  · rw [g1 p₀ c₀, g1' p₀ c₀]
set_option maxRecDepth 100000 in
theorem cX6_sort1 {D : mg_D} {l : Launch} (hl : l.stackTraces = false) {M : mg_M} {m₀ : Nat} {x₀ y₀ : Int} (st₀ : mm_st M m₀) (rc : mm_rc M m₀) (h₀ : ¬ (0 ≤ x₀ ∧ x₀ < gi M m₀ 2)) : mg_Mt D l 191 [.inr (.inl m₀), .inl x₀, .inl y₀] M (fun v₀ N => v₀ = some (.inl 0) ∧ N = si M m₀ 0 1) mg_no := by
  refine mg_of2 hl ok_X6_sort al_X6_sort rfl (fun K hK₀ => ?_)
  have k7₀ := st₀.1
  have rc' := rc
  unfold mm_rc at rc'
  refine hK₀ _ _ _ _ _ ?_
  (repeat' (((conv => whnf); first | (show (_ : Option mg_V) = _ ∧ _; assumption) | (show K _ _ _ _ _; assumption) | refine And.intro (by first | assumption | omega | (simp only [true_and]; first | done | assumption | omega)) ?_ | (refine And.intro (fun _ => ?_) (fun _ => ?_) <;> first | (exfalso; omega) | skip) | intro _ | fail)))
  all_goals (try ((conv => whnf); (refine Exists.intro _ (Exists.intro _ (And.intro (cX6_in hl) (And.intro ?_ (fun _ _ h₀ => h₀.elim)))); rintro _ _ ⟨rfl, e₀⟩; have e2₀ := e₀.symm; clear e₀; subst e2₀); (repeat' (((conv => whnf); first | (show (_ : Option mg_V) = _ ∧ _; assumption) | (show K _ _ _ _ _; assumption) | refine And.intro (by first | assumption | omega | (simp only [true_and]; first | done | assumption | omega)) ?_ | (refine And.intro (fun _ => ?_) (fun _ => ?_) <;> first | (exfalso; omega) | skip) | intro _ | fail)))))
  all_goals (try ((conv => whnf); (refine Exists.intro _ (Exists.intro _ (And.intro (cX6_fails hl k7₀) (And.intro ?_ (fun _ _ h₀ => h₀.elim)))); rintro _ _ ⟨rfl, e₀⟩; have e2₀ := e₀.symm; clear e₀; subst e2₀); (repeat' (((conv => whnf); first | (show (_ : Option mg_V) = _ ∧ _; assumption) | (show K _ _ _ _ _; assumption) | refine And.intro (by first | assumption | omega | (simp only [true_and]; first | done | assumption | omega)) ?_ | (refine And.intro (fun _ => ?_) (fun _ => ?_) <;> first | (exfalso; omega) | skip) | intro _ | fail)))))
  all_goals ((conv => whnf) <;> first | rfl | exact And.intro rfl rfl)
set_option maxRecDepth 100000 in
theorem cX6_sort2 {D : mg_D} {l : Launch} (hl : l.stackTraces = false) {M : mg_M} {m₀ : Nat} {x₀ y₀ : Int} (st₀ : mm_st M m₀) (rc : mm_rc M m₀) (h₀ : 0 ≤ x₀ ∧ x₀ < gi M m₀ 2) (hh : 0 ≤ gi M m₀ 3) (h2 : gi M m₀ 3 < gi M m₀ 1 ∧ mm_td M m₀ (gi M m₀ 3) (gi M m₀ 1 - 1)) : mg_Mt D l 191 [.inr (.inl m₀), .inl x₀, .inl y₀] M (fun v₀ N => v₀ = some (.inl 0) ∧ N = si M m₀ 0 2) mg_no := by
  refine mg_of2 hl ok_X6_sort al_X6_sort rfl (fun K hK₀ => ?_)
  have k7₀ := st₀.1
  have rc' := rc
  unfold mm_rc at rc'
  have td := cX6_isTied (D := D) (x₀ := gi M m₀ 3) (y₀ := gi M m₀ 1 - 1) hl st₀ rc (by omega)
  rw [mh_pr1 h2.2] at td
  have h3 := h2.1
  clear h2
  refine hK₀ _ _ _ _ _ ?_
  (repeat' (((conv => whnf); first | (show (_ : Option mg_V) = _ ∧ _; assumption) | (show K _ _ _ _ _; assumption) | refine And.intro (by first | assumption | omega | (simp only [true_and]; first | done | assumption | omega)) ?_ | (refine And.intro (fun _ => ?_) (fun _ => ?_) <;> first | (exfalso; omega) | skip) | intro _ | fail)))
  all_goals (try ((conv => whnf); (refine Exists.intro _ (Exists.intro _ (And.intro (cX6_in hl) (And.intro ?_ (fun _ _ h₀ => h₀.elim)))); rintro _ _ ⟨rfl, e₀⟩; have e2₀ := e₀.symm; clear e₀; subst e2₀); (repeat' (((conv => whnf); first | (show (_ : Option mg_V) = _ ∧ _; assumption) | (show K _ _ _ _ _; assumption) | refine And.intro (by first | assumption | omega | (simp only [true_and]; first | done | assumption | omega)) ?_ | (refine And.intro (fun _ => ?_) (fun _ => ?_) <;> first | (exfalso; omega) | skip) | intro _ | fail)))))
  all_goals (try ((conv => whnf); (refine Exists.intro _ (Exists.intro _ (And.intro (td) (And.intro ?_ (fun _ _ h₀ => h₀.elim)))); rintro _ _ ⟨rfl, e₀⟩; have e2₀ := e₀.symm; clear e₀; subst e2₀); (repeat' (((conv => whnf); first | (show (_ : Option mg_V) = _ ∧ _; assumption) | (show K _ _ _ _ _; assumption) | refine And.intro (by first | assumption | omega | (simp only [true_and]; first | done | assumption | omega)) ?_ | (refine And.intro (fun _ => ?_) (fun _ => ?_) <;> first | (exfalso; omega) | skip) | intro _ | fail)))))
  all_goals (try ((conv => whnf); (refine Exists.intro _ (Exists.intro _ (And.intro (cX6_fails hl k7₀) (And.intro ?_ (fun _ _ h₀ => h₀.elim)))); rintro _ _ ⟨rfl, e₀⟩; have e2₀ := e₀.symm; clear e₀; subst e2₀); (repeat' (((conv => whnf); first | (show (_ : Option mg_V) = _ ∧ _; assumption) | (show K _ _ _ _ _; assumption) | refine And.intro (by first | assumption | omega | (simp only [true_and]; first | done | assumption | omega)) ?_ | (refine And.intro (fun _ => ?_) (fun _ => ?_) <;> first | (exfalso; omega) | skip) | intro _ | fail)))))
  all_goals ((conv => whnf) <;> first | rfl | exact And.intro rfl rfl)
abbrev mi_key (M : mg_M) (m₀ : Nat) (x₀ p₀ : Int) : Int := gi M (m₀ + 2) (mi M (m₀ + 1) p₀ x₀).toNat
/-- on the way₀ of sorting -/
def mm_sw (M P N : mg_M) (m₀ : Nat) (s₀ : Int → Int) : Prop := mm_f (fun b₀ _ => b₀ = m₀ + 1 ∨ b₀ = m₀ + 5 ∨ b₀ = m₀ + 17) P N ∧ (∀ i₀ j₀, 0 ≤ i₀ → 0 ≤ j₀ ∧ j₀ < gi M m₀ 2 → mi N (m₀ + 1) i₀ j₀ = mi M (m₀ + 1) (s₀ i₀) j₀) ∧ (∀ i₀, 0 ≤ i₀ → gi N (m₀ + 5) i₀.toNat = gi M (m₀ + 5) (s₀ i₀).toNat) ∧ (∀ i₀, 0 ≤ i₀ → i₀ < gi M m₀ 1 → gi N (m₀ + 17) i₀.toNat = s₀ i₀)
theorem mm_sw1 {M P N N' : mg_M} {m₀ : Nat} {s₀ : Int → Int} {k₀ : Int} (hk : 0 ≤ k₀ ∧ k₀ + 1 < gi M m₀ 1) (w₀ : mm_sw M P N m₀ s₀) (f₀ : mm_f (fun b₀ _ => b₀ = m₀ + 1 ∨ b₀ = m₀ + 5) N N') (e5₀ : ∀ i₀ : Nat, gi N' (m₀ + 5) i₀ = gi N (m₀ + 5) (mh_sw k₀ i₀).toNat) (e1₀ : ∀ i₀ j₀, 0 ≤ i₀ → 0 ≤ j₀ ∧ j₀ < gi M m₀ 2 → mi N' (m₀ + 1) i₀ j₀ = mi N (m₀ + 1) (mh_sw k₀ i₀) j₀) : mm_sw M P (si (si N' (m₀ + 17) k₀.toNat (s₀ (k₀ + 1))) (m₀ + 17) (k₀ + 1).toNat (s₀ k₀)) m₀ (fun p₀ => s₀ (mh_sw k₀ p₀)) := by
  obtain ⟨g₀, w1₀, w5, w17⟩ := w₀
  have r₀ : ∀ i₀, 0 ≤ i₀ → 0 ≤ mh_sw k₀ i₀ := by
    intro i₀ hi
    unfold mh_sw
    (repeat' split) <;> omega
  refine ⟨mm_f_si (mm_f_si (mm_f_tr g₀ (mm_f_mono f₀ (fun b₀ k₀ z₀ => by omega))) (by omega)) (by omega), fun i₀ j₀ hi hj => ?_, fun i₀ hi => ?_, fun i₀ h0 h1 => ?_⟩
  · have := e1₀ i₀ j₀ hi hj
    unfold mi at this ⊢
    rw [gi_si, if_neg (by omega), gi_si, if_neg (by omega), this]
    exact w1₀ _ j₀ (r₀ i₀ hi) hj
  · rw [gi_si, if_neg (by omega), gi_si, if_neg (by omega), e5₀, show ((i₀.toNat : Nat) : Int) = i₀ by omega]
    exact w5 _ (r₀ i₀ hi)
  · dsimp only
    rw [gi_si]
    by_cases c1₀ : i₀ = k₀ + 1
    · rw [if_pos ⟨rfl, by omega⟩, c1₀]
      congr 1
      unfold mh_sw
      rw [if_neg (by omega), if_pos rfl]
    · rw [if_neg (by omega), gi_si]
      by_cases c2₀ : i₀ = k₀
      · rw [if_pos ⟨rfl, by omega⟩, c2₀]
        congr 1
        unfold mh_sw
        rw [if_pos rfl]
      · rw [if_neg (by omega), mm_f_gi f₀ (m₀ + 17) _ (by omega), w17 i₀ h0 h1]
        congr 1
        unfold mh_sw
        rw [if_neg c2₀, if_neg c1₀]
