/-! the reference₀ behind₀ a₀ change -/
abbrev mm_sl (m₀ : Nat) : Nat → Nat → Prop := fun b₀ k₀ => b₀ = m₀ ∧ ((32 ≤ k₀ ∧ k₀ ≤ 35) ∨ (21 ≤ k₀ ∧ k₀ ≤ 24))
/-- each₀ square's cell₀ is₀ a₀ rectangle, told₀ by a₀ function that has₀ one value₀ for₀ each₀ cell₀ -/
def mh_til (R C : Int) (J₀ T L₀ H₀ W₀ : Int → Int → Int) : Prop := ∀ r₀ c₀, mh_rg R C r₀ c₀ → ((0 ≤ T r₀ c₀ ∧ 1 ≤ H₀ r₀ c₀ ∧ T r₀ c₀ + H₀ r₀ c₀ ≤ R) ∧ (0 ≤ L₀ r₀ c₀ ∧ 1 ≤ W₀ r₀ c₀ ∧ L₀ r₀ c₀ + W₀ r₀ c₀ ≤ C)) ∧ ∀ r' c', mh_rg R C r' c' → (J₀ r' c' = J₀ r₀ c₀ ↔ (T r₀ c₀ ≤ r' ∧ r' < T r₀ c₀ + H₀ r₀ c₀) ∧ (L₀ r₀ c₀ ≤ c' ∧ c' < L₀ r₀ c₀ + W₀ r₀ c₀))
/-- an area that cuts₀ no₀ cell₀ -/
def mh_cq (R C : Int) (T L₀ H₀ W₀ : Int → Int → Int) (f₀ t₀ a₀ b₀ : Int) : Prop := ∀ r₀ c₀, mh_rg R C r₀ c₀ → mh_mt f₀ t₀ a₀ b₀ (T r₀ c₀) (L₀ r₀ c₀) (H₀ r₀ c₀) (W₀ r₀ c₀) → mh_wn f₀ t₀ a₀ b₀ (T r₀ c₀) (L₀ r₀ c₀) (H₀ r₀ c₀) (W₀ r₀ c₀)
theorem mm_RT_of {M : mg_M} {m₀ : Nat} {T L₀ H₀ W₀ : Int → Int → Int} (ht : mh_til (gi M m₀ 1) (gi M m₀ 2) (fun r₀ c₀ => mi M (m₀ + 1) r₀ c₀) T L₀ H₀ W₀) (hs : ∀ k₀, 0 ≤ k₀ → k₀ < gi M m₀ 4 → ∃ r₀ c₀, mh_rg (gi M m₀ 1) (gi M m₀ 2) r₀ c₀ ∧ mi M (m₀ + 1) r₀ c₀ = k₀) (hi : ∀ r₀ c₀, mh_rg (gi M m₀ 1) (gi M m₀ 2) r₀ c₀ → 0 ≤ mi M (m₀ + 1) r₀ c₀ ∧ mi M (m₀ + 1) r₀ c₀ < gi M m₀ 4) : ∃ tp lf₀ hg wd : Int → Int, mm_RT M m₀ tp lf₀ hg wd ∧ (∀ r₀ c₀, mh_rg (gi M m₀ 1) (gi M m₀ 2) r₀ c₀ → tp (mi M (m₀ + 1) r₀ c₀) = T r₀ c₀ ∧ lf₀ (mi M (m₀ + 1) r₀ c₀) = L₀ r₀ c₀ ∧ hg (mi M (m₀ + 1) r₀ c₀) = H₀ r₀ c₀ ∧ wd (mi M (m₀ + 1) r₀ c₀) = W₀ r₀ c₀) := by
  have ch₀ : ∃ s₀ : Int → Int × Int, ∀ k₀, 0 ≤ k₀ → k₀ < gi M m₀ 4 → mh_rg (gi M m₀ 1) (gi M m₀ 2) (s₀ k₀).1 (s₀ k₀).2 ∧ mi M (m₀ + 1) (s₀ k₀).1 (s₀ k₀).2 = k₀ := by
    refine ⟨fun k₀ => @dite (Int × Int) (∃ p₀ : Int × Int, mh_rg (gi M m₀ 1) (gi M m₀ 2) p₀.1 p₀.2 ∧ mi M (m₀ + 1) p₀.1 p₀.2 = k₀) (Classical.propDecidable _) (fun h₀ => Classical.choose h₀) (fun _ => (0, 0)), fun k₀ h0 h1 => ?_⟩
    obtain ⟨r₀, c₀, h2, h3⟩ := hs k₀ h0 h1
    have hex₀ : ∃ p₀ : Int × Int, mh_rg (gi M m₀ 1) (gi M m₀ 2) p₀.1 p₀.2 ∧ mi M (m₀ + 1) p₀.1 p₀.2 = k₀ := ⟨(r₀, c₀), h2, h3⟩
    have := Classical.choose_spec hex₀
    dsimp only
    rw [dif_pos hex₀]
    exact this
  obtain ⟨s₀, hs'⟩ := ch₀
  have key₀ : ∀ r₀ c₀, mh_rg (gi M m₀ 1) (gi M m₀ 2) r₀ c₀ → T (s₀ (mi M (m₀ + 1) r₀ c₀)).1 (s₀ (mi M (m₀ + 1) r₀ c₀)).2 = T r₀ c₀ ∧ L₀ (s₀ (mi M (m₀ + 1) r₀ c₀)).1 (s₀ (mi M (m₀ + 1) r₀ c₀)).2 = L₀ r₀ c₀ ∧ H₀ (s₀ (mi M (m₀ + 1) r₀ c₀)).1 (s₀ (mi M (m₀ + 1) r₀ c₀)).2 = H₀ r₀ c₀ ∧ W₀ (s₀ (mi M (m₀ + 1) r₀ c₀)).1 (s₀ (mi M (m₀ + 1) r₀ c₀)).2 = W₀ r₀ c₀ := by
    intro r₀ c₀ h₀
    have hk := hi r₀ c₀ h₀
    obtain ⟨g1, g2⟩ := hs' _ hk.1 hk.2
    generalize (s₀ (mi M (m₀ + 1) r₀ c₀)).1 = x₀ at *
    generalize (s₀ (mi M (m₀ + 1) r₀ c₀)).2 = y₀ at *
    obtain ⟨⟨a1₀, a2⟩, a3⟩ := ht r₀ c₀ h₀
    obtain ⟨⟨b1, b2⟩, b3⟩ := ht x₀ y₀ g1
    dsimp only at a3 b3
    have e₀ : ∀ r' c', mh_rg (gi M m₀ 1) (gi M m₀ 2) r' c' → (((T r₀ c₀ ≤ r' ∧ r' < T r₀ c₀ + H₀ r₀ c₀) ∧ (L₀ r₀ c₀ ≤ c' ∧ c' < L₀ r₀ c₀ + W₀ r₀ c₀)) ↔ ((T x₀ y₀ ≤ r' ∧ r' < T x₀ y₀ + H₀ x₀ y₀) ∧ (L₀ x₀ y₀ ≤ c' ∧ c' < L₀ x₀ y₀ + W₀ x₀ y₀))) := by
      intro r' c' h'
      rw [← a3 r' c' h', ← b3 r' c' h', g2]
    have e1₀ := e₀ (T r₀ c₀) (L₀ r₀ c₀) (by omega)
    have e2₀ := e₀ (T r₀ c₀ + H₀ r₀ c₀ - 1) (L₀ r₀ c₀ + W₀ r₀ c₀ - 1) (by omega)
    have e3₀ := e₀ (T x₀ y₀) (L₀ x₀ y₀) (by omega)
    have e4₀ := e₀ (T x₀ y₀ + H₀ x₀ y₀ - 1) (L₀ x₀ y₀ + W₀ x₀ y₀ - 1) (by omega)
    clear e₀ a3 b3
    omega
  refine ⟨fun k₀ => T (s₀ k₀).1 (s₀ k₀).2, fun k₀ => L₀ (s₀ k₀).1 (s₀ k₀).2, fun k₀ => H₀ (s₀ k₀).1 (s₀ k₀).2, fun k₀ => W₀ (s₀ k₀).1 (s₀ k₀).2, ?_, key₀⟩
  intro k₀ h0 h1
  obtain ⟨g1, g2⟩ := hs' k₀ h0 h1
  obtain ⟨⟨a1₀, a2⟩, a3⟩ := ht _ _ g1
  refine ⟨a1₀, a2, fun r₀ c₀ hr hc₀ => ?_⟩
  have := a3 r₀ c₀ ⟨hr, hc₀⟩
  dsimp only at this
  rw [g2] at this
  exact this
theorem mm_cl_cq {M : mg_M} {m₀ : Nat} {T L₀ H₀ W₀ : Int → Int → Int} {tp lf₀ hg wd : Int → Int} (hs : ∀ k₀, 0 ≤ k₀ → k₀ < gi M m₀ 4 → ∃ r₀ c₀, mh_rg (gi M m₀ 1) (gi M m₀ 2) r₀ c₀ ∧ mi M (m₀ + 1) r₀ c₀ = k₀) (hi : ∀ r₀ c₀, mh_rg (gi M m₀ 1) (gi M m₀ 2) r₀ c₀ → 0 ≤ mi M (m₀ + 1) r₀ c₀ ∧ mi M (m₀ + 1) r₀ c₀ < gi M m₀ 4) (h₀ : ∀ r₀ c₀, mh_rg (gi M m₀ 1) (gi M m₀ 2) r₀ c₀ → tp (mi M (m₀ + 1) r₀ c₀) = T r₀ c₀ ∧ lf₀ (mi M (m₀ + 1) r₀ c₀) = L₀ r₀ c₀ ∧ hg (mi M (m₀ + 1) r₀ c₀) = H₀ r₀ c₀ ∧ wd (mi M (m₀ + 1) r₀ c₀) = W₀ r₀ c₀) : mm_cl (gi M m₀ 4) tp lf₀ hg wd = mh_cq (gi M m₀ 1) (gi M m₀ 2) T L₀ H₀ W₀ := by
  funext f₀ t₀ a₀ b₀
  apply propext
  constructor
  · intro g₀ r₀ c₀ hr
    have := g₀ _ (hi r₀ c₀ hr).1 (hi r₀ c₀ hr).2
    obtain ⟨e1₀, e2₀, e3₀, e4₀⟩ := h₀ r₀ c₀ hr
    rw [e1₀, e2₀, e3₀, e4₀] at this
    exact this
  · intro g₀ k₀ h0 h1
    obtain ⟨r₀, c₀, hr, e₀⟩ := hs k₀ h0 h1
    have := g₀ r₀ c₀ hr
    obtain ⟨e1₀, e2₀, e3₀, e4₀⟩ := h₀ r₀ c₀ hr
    rw [← e1₀, ← e2₀, ← e3₀, ← e4₀, e₀] at this
    exact this
set_option maxRecDepth 100000 in
theorem cX6_selects {D : mg_D} {l : Launch} (hl : l.stackTraces = false) {M : mg_M} {m₀ : Nat} (k7₀ : kd M m₀ = 7) : mg_Mt D l 137 [.inr (.inl m₀)] M (fun v₀ N => v₀ = none ∧ mm_f (fun b₀ k₀ => b₀ = m₀ ∧ 21 ≤ k₀ ∧ k₀ ≤ 24) M N ∧ gi N m₀ 21 = gi M m₀ 32 ∧ gi N m₀ 22 = gi M m₀ 33 ∧ gi N m₀ 23 = gi M m₀ 34 ∧ gi N m₀ 24 = gi M m₀ 35) mg_no := by
  refine mg_of2 hl ok_X6_selects al_X6_selects rfl (fun K hK₀ => ?_)
  have B₀ : ∀ x₀ y₀ z₀ u₀, x₀ = gi M m₀ 32 → y₀ = gi M m₀ 33 → z₀ = gi M m₀ 34 → u₀ = gi M m₀ 35 → mm_f (fun b₀ k₀ => b₀ = m₀ ∧ 21 ≤ k₀ ∧ k₀ ≤ 24) M (si (si (si (si M m₀ 21 x₀) m₀ 22 y₀) m₀ 23 z₀) m₀ 24 u₀) ∧ gi (si (si (si (si M m₀ 21 x₀) m₀ 22 y₀) m₀ 23 z₀) m₀ 24 u₀) m₀ 21 = gi M m₀ 32 ∧ gi (si (si (si (si M m₀ 21 x₀) m₀ 22 y₀) m₀ 23 z₀) m₀ 24 u₀) m₀ 22 = gi M m₀ 33 ∧ gi (si (si (si (si M m₀ 21 x₀) m₀ 22 y₀) m₀ 23 z₀) m₀ 24 u₀) m₀ 23 = gi M m₀ 34 ∧ gi (si (si (si (si M m₀ 21 x₀) m₀ 22 y₀) m₀ 23 z₀) m₀ 24 u₀) m₀ 24 = gi M m₀ 35 := by
    intro x₀ y₀ z₀ u₀ h1 h2 h3 h4
    refine ⟨mm_f_si (mm_f_si (mm_f_si (mm_f_si mm_f_rfl (by omega)) (by omega)) (by omega)) (by omega), ?_, ?_, ?_, ?_⟩ <;> simp [gi_si] <;> assumption
  refine hK₀ _ _ _ _ _ ?_
  (repeat' (((conv => whnf); first | assumption | refine And.intro (by first | assumption | omega | (simp only [kd_si]; first | done | assumption | omega)) ?_ | (refine And.intro (fun _ => ?_) (fun _ => ?_) <;> first | (exfalso; omega) | skip) | intro _ | fail)))
  all_goals ((conv => whnf); refine B₀ _ _ _ _ ?_ ?_ ?_ ?_ <;> simp [gi_si])
set_option maxRecDepth 100000 in
theorem cX6_startsAnew {D : mg_D} {l : Launch} (hl : l.stackTraces = false) {M : mg_M} {m₀ : Nat} {tp lf₀ hg wd : Int → Int} (st₀ : mm_st M m₀) (rc : mm_rc M m₀) (h1 : 1 ≤ gi M m₀ 1 ∧ 1 ≤ gi M m₀ 2) (h4 : gi M m₀ 4 ≤ 140) (rt : mm_RT M m₀ tp lf₀ hg wd) : mg_Mt D l 138 [.inr (.inl m₀)] M (fun v₀ N => v₀ = none ∧ mm_f (mm_sl m₀) M N ∧ mm_si N m₀ ∧ mh_hull (mm_cl (gi M m₀ 4) tp lf₀ hg wd) 0 0 0 0 (gi N m₀ 21) (gi N m₀ 22) (gi N m₀ 23) (gi N m₀ 24)) mg_no := by
  refine mg_of2 hl ok_X6_startsAnew al_X6_startsAnew rfl (fun K hK₀ => ?_)
  have k7₀ := st₀.1
  refine hK₀ _ _ _ _ _ ?_
  (repeat' (((conv => whnf); first | assumption | refine And.intro (by first | assumption | omega | (simp only [true_and]; first | done | assumption | omega)) ?_ | (refine And.intro (fun _ => ?_) (fun _ => ?_) <;> first | (exfalso; omega) | skip) | intro _ | fail)))
  (conv => whnf)
  refine Exists.intro _ (Exists.intro _ (And.intro (cX6_spans hl st₀ rc h4 rt (by omega) (by omega) (by omega) (by omega)) (And.intro ?_ (fun _ _ h₀ => h₀.elim))))
  rintro _ N ⟨rfl, f₀, ai, hu⟩
  have k7N := (mm_f_st f₀ st₀).1
  (repeat' (((conv => whnf); first | assumption | refine And.intro (by first | assumption | omega | (simp only [true_and]; first | done | assumption | omega)) ?_ | (refine And.intro (fun _ => ?_) (fun _ => ?_) <;> first | (exfalso; omega) | skip) | intro _ | fail)))
  (conv => whnf)
  refine Exists.intro _ (Exists.intro _ (And.intro (cX6_selects hl k7N) (And.intro ?_ (fun _ _ h₀ => h₀.elim))))
  rintro _ P ⟨rfl, f2₀, e1₀, e2₀, e3₀, e4₀⟩
  have t1₀ := mm_f_gi f2₀ m₀ 1 (by omega)
  have t2₀ := mm_f_gi f2₀ m₀ 2 (by omega)
  have Q₀ : (none : Option mg_V) = none ∧ mm_f (mm_sl m₀) M P ∧ mm_si P m₀ ∧ mh_hull (mm_cl (gi M m₀ 4) tp lf₀ hg wd) 0 0 0 0 (gi P m₀ 21) (gi P m₀ 22) (gi P m₀ 23) (gi P m₀ 24) := by
    refine ⟨rfl, mm_f_tr (mm_f_mono f₀ (fun b₀ k₀ h₀ => by omega)) (mm_f_mono f2₀ (fun b₀ k₀ h₀ => by omega)), by omega, ?_⟩
    rw [e1₀, e2₀, e3₀, e4₀]
    exact hu
  (repeat' (((conv => whnf); first | assumption | refine And.intro (by first | assumption | omega | (simp only [true_and]; first | done | assumption | omega)) ?_ | (refine And.intro (fun _ => ?_) (fun _ => ?_) <;> first | (exfalso; omega) | skip) | intro _ | fail)))
/-- settles and startsAnew behind₀ it -/
theorem mm_after {N1 N2 N3 : mg_M} {m₀ : Nat} {J₀ T L₀ H₀ W₀ : Int → Int → Int} (hJ : ∀ r₀ c₀, mh_rg (gi N1 m₀ 1) (gi N1 m₀ 2) r₀ c₀ → mi N1 (m₀ + 1) r₀ c₀ = J₀ r₀ c₀) (ht : mh_til (gi N1 m₀ 1) (gi N1 m₀ 2) J₀ T L₀ H₀ W₀) (hs : mm_set N1 N2 m₀) : ∃ tp lf₀ hg wd : Int → Int, mm_RT N2 m₀ tp lf₀ hg wd ∧ mm_cl (gi N2 m₀ 4) tp lf₀ hg wd = mh_cq (gi N1 m₀ 1) (gi N1 m₀ 2) T L₀ H₀ W₀ := by
  obtain ⟨f₀, h4, h5, h6, h7, h8⟩ := hs
  have t1₀ := mm_f_gi f₀ m₀ 1 (by omega)
  have t2₀ := mm_f_gi f₀ m₀ 2 (by omega)
  have ht2 : mh_til (gi N2 m₀ 1) (gi N2 m₀ 2) (fun r₀ c₀ => mi N2 (m₀ + 1) r₀ c₀) T L₀ H₀ W₀ := by
    rw [t1₀, t2₀]
    intro r₀ c₀ h₀
    refine ⟨(ht r₀ c₀ h₀).1, fun r' c' h' => ?_⟩
    dsimp only
    rw [h7 r' c' r₀ c₀ h' h₀, hJ r' c' h', hJ r₀ c₀ h₀]
    exact (ht r₀ c₀ h₀).2 r' c' h'
  rw [← t1₀, ← t2₀] at h5 h6
  obtain ⟨tp, lf₀, hg, wd, g1, g2⟩ := mm_RT_of ht2 h6 h5
  refine ⟨tp, lf₀, hg, wd, g1, ?_⟩
  rw [mm_cl_cq h6 h5 g2, t1₀, t2₀]
