theorem mg_MtN {D : mg_D} {l : Launch} {y₀ : Nat} {as₀ : List mg_V} {M : mg_M} {N N' : mg_O} {X₀ : mg_X} (h₀ : mg_Mt D l y₀ as₀ M N X₀) (k₀ : ∀ v₀ P, N v₀ P → N' v₀ P) : mg_Mt D l y₀ as₀ M N' X₀ := by
  obtain ⟨q₀, hq, hm₀⟩ := h₀
  refine ⟨q₀, hq, ?_⟩
  intro p₀ e₀ h1 h2 h3 s₀ m₀ args₀ below₀ h4 h5 h6 h7
  obtain ⟨n₀, o, g1, g2, g3₀, g4⟩ := hm₀ p₀ e₀ h1 h2 h3 s₀ m₀ args₀ below₀ h4 h5 h6 h7
  refine ⟨n₀, o, g1, g2, g3₀, ?_⟩
  rcases g4 with ⟨⟨⟨v₀, P, a1₀, a2, a3⟩, a4⟩, g5₀⟩ | g4
  · exact Or.inl ⟨⟨⟨v₀, P, a1₀, k₀ v₀ P a2, a3⟩, a4⟩, g5₀⟩
  · exact Or.inr g4
def mm_RT (M : mg_M) (m₀ : Nat) (tp lf₀ hg wd : Int → Int) : Prop := ∀ k₀, 0 ≤ k₀ → k₀ < gi M m₀ 4 → mm_rect M m₀ k₀ (tp k₀) (lf₀ k₀) (hg k₀) (wd k₀)
def mm_cl (n₀ : Int) (tp lf₀ hg wd : Int → Int) (f₀ t₀ a₀ b₀ : Int) : Prop := ∀ k₀, 0 ≤ k₀ → k₀ < n₀ → mh_mt f₀ t₀ a₀ b₀ (tp k₀) (lf₀ k₀) (hg k₀) (wd k₀) → mh_wn f₀ t₀ a₀ b₀ (tp k₀) (lf₀ k₀) (hg k₀) (wd k₀)
/-- the smallest closed₀ area around another one -/
def mh_hull (cl₀ : Int → Int → Int → Int → Prop) (f₀ t₀ a₀ b₀ x₀ y₀ z₀ w₀ : Int) : Prop := (x₀ ≤ f₀ ∧ t₀ ≤ y₀ ∧ z₀ ≤ a₀ ∧ b₀ ≤ w₀) ∧ cl₀ x₀ y₀ z₀ w₀ ∧ ∀ p₀ q₀ u₀ v₀, cl₀ p₀ q₀ u₀ v₀ → p₀ ≤ f₀ → t₀ ≤ q₀ → u₀ ≤ a₀ → b₀ ≤ v₀ → p₀ ≤ x₀ ∧ y₀ ≤ q₀ ∧ u₀ ≤ z₀ ∧ w₀ ≤ v₀
theorem mh_hull1 {cl₀ : Int → Int → Int → Int → Prop} {f₀ t₀ a₀ b₀ x₀ y₀ z₀ w₀ x' y' z' w' : Int} (h₀ : mh_hull cl₀ f₀ t₀ a₀ b₀ x₀ y₀ z₀ w₀) (g₀ : mh_hull cl₀ f₀ t₀ a₀ b₀ x' y' z' w') : x₀ = x' ∧ y₀ = y' ∧ z₀ = z' ∧ w₀ = w' := by
  have u₀ := h₀.2.2 x' y' z' w' g₀.2.1 g₀.1.1 g₀.1.2.1 g₀.1.2.2.1 g₀.1.2.2.2
  have v₀ := g₀.2.2 x₀ y₀ z₀ w₀ h₀.2.1 h₀.1.1 h₀.1.2.1 h₀.1.2.2.1 h₀.1.2.2.2
  omega
theorem mm_rect_f {M N : mg_M} {m₀ : Nat} {k₀ T L₀ H₀ W₀ : Int} (e1₀ : gi N m₀ 1 = gi M m₀ 1) (e2₀ : gi N m₀ 2 = gi M m₀ 2) (e₀ : ∀ j₀, gi N (m₀ + 1) j₀ = gi M (m₀ + 1) j₀) (h₀ : mm_rect M m₀ k₀ T L₀ H₀ W₀) : mm_rect N m₀ k₀ T L₀ H₀ W₀ := by
  unfold mm_rect mi at *
  simp only [e1₀, e2₀, e₀]
  exact h₀
theorem mm_RT_f {S : Nat → Nat → Prop} {M N : mg_M} {m₀ : Nat} {tp lf₀ hg wd : Int → Int} (f₀ : mm_f S M N) (n1₀ : ¬ S m₀ 1) (n2₀ : ¬ S m₀ 2) (n4₀ : ¬ S m₀ 4) (n5₀ : ∀ j₀, ¬ S (m₀ + 1) j₀) (h₀ : mm_RT M m₀ tp lf₀ hg wd) : mm_RT N m₀ tp lf₀ hg wd := by
  intro k₀ k0₀ k1₀
  rw [mm_f_gi f₀ m₀ 4 n4₀] at k1₀
  exact mm_rect_f (mm_f_gi f₀ m₀ 1 n1₀) (mm_f_gi f₀ m₀ 2 n2₀) (fun j₀ => mm_f_gi f₀ (m₀ + 1) j₀ (n5₀ j₀)) (h₀ k₀ k0₀ k1₀)
theorem mm_rc_f {S : Nat → Nat → Prop} {M N : mg_M} {m₀ : Nat} (f₀ : mm_f S M N) (n1₀ : ¬ S m₀ 1) (n2₀ : ¬ S m₀ 2) (h₀ : mm_rc M m₀) : mm_rc N m₀ := by
  unfold mm_rc at *
  rw [mm_f_gi f₀ m₀ 1 n1₀, mm_f_gi f₀ m₀ 2 n2₀]
  exact h₀
abbrev mm_sA (m₀ : Nat) : Nat → Nat → Prop := fun b₀ k₀ => b₀ = m₀ ∧ 32 ≤ k₀ ∧ k₀ ≤ 35
abbrev mm_ai (M : mg_M) (m₀ : Nat) : Prop := (0 ≤ gi M m₀ 32 ∧ gi M m₀ 32 ≤ gi M m₀ 33 ∧ gi M m₀ 33 < gi M m₀ 1) ∧ (0 ≤ gi M m₀ 34 ∧ gi M m₀ 34 ≤ gi M m₀ 35 ∧ gi M m₀ 35 < gi M m₀ 2)
/-- on the way₀ of growing -/
def mm_gw (M N : mg_M) (m₀ : Nat) (tp lf₀ hg wd : Int → Int) : Prop := mm_f (mm_sA m₀) M N ∧ (gi N m₀ 32 ≤ gi M m₀ 32 ∧ gi M m₀ 33 ≤ gi N m₀ 33 ∧ gi N m₀ 34 ≤ gi M m₀ 34 ∧ gi M m₀ 35 ≤ gi N m₀ 35) ∧ ((0 ≤ gi N m₀ 32 ∧ gi N m₀ 33 < gi M m₀ 1) ∧ (0 ≤ gi N m₀ 34 ∧ gi N m₀ 35 < gi M m₀ 2)) ∧ (∀ p₀ q₀ u₀ v₀, mm_cl (gi M m₀ 4) tp lf₀ hg wd p₀ q₀ u₀ v₀ → p₀ ≤ gi M m₀ 32 → gi M m₀ 33 ≤ q₀ → u₀ ≤ gi M m₀ 34 → gi M m₀ 35 ≤ v₀ → p₀ ≤ gi N m₀ 32 ∧ gi N m₀ 33 ≤ q₀ ∧ u₀ ≤ gi N m₀ 34 ∧ gi N m₀ 35 ≤ v₀)
theorem mm_gw1 {M N P : mg_M} {m₀ : Nat} {tp lf₀ hg wd : Int → Int} {k₀ : Int} (hai : mm_ai M m₀) (hk : 0 ≤ k₀ ∧ k₀ < gi M m₀ 4) (hr : mm_rect M m₀ k₀ (tp k₀) (lf₀ k₀) (hg k₀) (wd k₀)) (h₀ : mm_gw M N m₀ tp lf₀ hg wd) (hm₀ : mh_mt (gi N m₀ 32) (gi N m₀ 33) (gi N m₀ 34) (gi N m₀ 35) (tp k₀) (lf₀ k₀) (hg k₀) (wd k₀)) (f₀ : mm_f (mm_sA m₀) N P) (e1₀ : gi P m₀ 32 = min (gi N m₀ 32) (tp k₀)) (e2₀ : gi P m₀ 33 = max (gi N m₀ 33) (tp k₀ + hg k₀ - 1)) (e3₀ : gi P m₀ 34 = min (gi N m₀ 34) (lf₀ k₀)) (e4₀ : gi P m₀ 35 = max (gi N m₀ 35) (lf₀ k₀ + wd k₀ - 1)) : mm_gw M P m₀ tp lf₀ hg wd := by
  obtain ⟨g1, g2, g3₀, g4⟩ := h₀
  obtain ⟨r1₀, r2, _⟩ := hr
  refine ⟨mm_f_tr g1 f₀, by omega, by omega, ?_⟩
  intro p₀ q₀ u₀ v₀ hc₀ h1 h2 h3 h4
  have := g4 p₀ q₀ u₀ v₀ hc₀ h1 h2 h3 h4
  have := hc₀ k₀ hk.1 hk.2 (by omega)
  omega
set_option maxRecDepth 100000 in
theorem cX6_grows {D : mg_D} {l : Launch} (hl : l.stackTraces = false) {M : mg_M} {m₀ : Nat} {tp lf₀ hg wd : Int → Int} (st₀ : mm_st M m₀) (rc : mm_rc M m₀) (h4 : gi M m₀ 4 ≤ 140) (hai : mm_ai M m₀) (rt : mm_RT M m₀ tp lf₀ hg wd) : mg_Mt D l 135 [.inr (.inl m₀)] M (fun v₀ N => v₀ = none ∧ mm_f (mm_sA m₀) M N ∧ mm_ai N m₀ ∧ mh_hull (mm_cl (gi M m₀ 4) tp lf₀ hg wd) (gi M m₀ 32) (gi M m₀ 33) (gi M m₀ 34) (gi M m₀ 35) (gi N m₀ 32) (gi N m₀ 33) (gi N m₀ 34) (gi N m₀ 35)) mg_no := by
  refine mg_of2 hl ok_X6_grows al_X6_grows rfl (fun K hK₀ => ?_)
  have rc' := rc
  unfold mm_rc at rc'
  have k7₀ := st₀.1
  have E₀ : ∀ N, mm_gw M N m₀ tp lf₀ hg wd → mm_cl (gi M m₀ 4) tp lf₀ hg wd (gi N m₀ 32) (gi N m₀ 33) (gi N m₀ 34) (gi N m₀ 35) → K 2 [(0, Sum.inr (Sum.inl m₀)), (1, Sum.inl 0)] [] N 0 := by
    intro N g₀ hc₀
    have t1₀ := mm_f_gi g₀.1 m₀ 1 (by omega)
    have t2₀ := mm_f_gi g₀.1 m₀ 2 (by omega)
    have g2 := g₀.2.1
    have g3₀ := g₀.2.2.1
    have Q₀ : (none : Option mg_V) = none ∧ mm_f (mm_sA m₀) M N ∧ mm_ai N m₀ ∧ mh_hull (mm_cl (gi M m₀ 4) tp lf₀ hg wd) (gi M m₀ 32) (gi M m₀ 33) (gi M m₀ 34) (gi M m₀ 35) (gi N m₀ 32) (gi N m₀ 33) (gi N m₀ 34) (gi N m₀ 35) := ⟨rfl, g₀.1, by omega, g2, hc₀, g₀.2.2.2⟩
    refine hK₀ _ _ _ _ _ ?_
    (repeat' (((conv => whnf); first | assumption | refine And.intro (by first | assumption | omega | (simp only [true_and]; first | done | assumption | omega)) ?_ | (refine And.intro (fun _ => ?_) (fun _ => ?_) <;> first | (exfalso; omega) | skip) | intro _ | fail)))
  have O₀ : ∀ n₀ : Nat, ∀ N, mm_gw M N m₀ tp lf₀ hg wd → gi M m₀ 1 + gi M m₀ 2 - (gi N m₀ 33 - gi N m₀ 32) - (gi N m₀ 35 - gi N m₀ 34) ≤ n₀ → K 2 [(0, Sum.inr (Sum.inl m₀)), (1, Sum.inl 1)] [] N 0 := by
    intro n₀
    induction n₀ with
    | zero =>
      intro N g₀ hn
      have g2 := g₀.2.1
      have g3₀ := g₀.2.2.1
      omega
    | succ n₀ ih₀ =>
      intro N g₀ hn
      have F₀ : K 10 [(0, Sum.inr (Sum.inl m₀)), (1, Sum.inl 0), (2, Sum.inl 0)] [] N 0 := by
        by_cases h0 : 0 ≤ gi M m₀ 4
        · refine mh_for (P := fun k₀ (x₀ : Int × mg_M) => mm_gw M x₀.2 m₀ tp lf₀ hg wd ∧ ((x₀.1 = 0 ∧ x₀.2 = N ∧ ∀ j₀, 0 ≤ j₀ → j₀ < k₀ → mh_mt (gi N m₀ 32) (gi N m₀ 33) (gi N m₀ 34) (gi N m₀ 35) (tp j₀) (lf₀ j₀) (hg j₀) (wd j₀) → mh_wn (gi N m₀ 32) (gi N m₀ 33) (gi N m₀ 34) (gi N m₀ 35) (tp j₀) (lf₀ j₀) (hg j₀) (wd j₀)) ∨ (x₀.1 = 1 ∧ gi M m₀ 1 + gi M m₀ 2 - (gi x₀.2 m₀ 33 - gi x₀.2 m₀ 32) - (gi x₀.2 m₀ 35 - gi x₀.2 m₀ 34) ≤ n₀))) (G := fun k₀ x₀ => K 10 [(0, Sum.inr (Sum.inl m₀)), (1, Sum.inl x₀.1), (2, Sum.inl k₀)] [] x₀.2 0) (lo := 0) (hi := gi M m₀ 4) h0 ?_ ?_ (0, N) ⟨g₀, Or.inl ⟨rfl, rfl, fun j₀ j0 j1 => by omega⟩⟩
          · rintro ⟨x₀, P⟩ ⟨g', hx⟩
            dsimp only at g' hx ⊢
            have w₀ : K 2 [(0, Sum.inr (Sum.inl m₀)), (1, Sum.inl x₀)] [] P 0 := by
              rcases hx with ⟨e1₀, e2₀, hc₀⟩ | ⟨e1₀, hm₀⟩
              · rw [e1₀]
                refine E₀ P g' ?_
                rw [e2₀]
                exact hc₀
              · rw [e1₀]
                exact ih₀ P g' hm₀
            have k7₀ := (mm_f_st g'.1 st₀).1
            have t4₀ := mm_f_gi g'.1 m₀ 4 (by omega)
            clear hx
            refine hK₀ _ _ _ _ _ ?_
            (repeat' (((conv => whnf); first | assumption | refine And.intro (by first | assumption | omega | (simp only [true_and]; first | done | assumption | omega)) ?_ | (refine And.intro (fun _ => ?_) (fun _ => ?_) <;> first | (exfalso; omega) | skip) | intro _ | fail)))
          · rintro k₀ ⟨x₀, P⟩ k0₀ k1₀ ⟨g', hx⟩ nex
            dsimp only at g' hx nex ⊢
            have st' := mm_f_st g'.1 st₀
            have k7₀ := st'.1
            have t4₀ := mm_f_gi g'.1 m₀ 4 (by omega)
            have rcP := mm_rc_f g'.1 (by omega) (by omega) rc
            have hr := rt k₀ k0₀ k1₀
            have hrP := mm_rect_f (mm_f_gi g'.1 m₀ 1 (by omega)) (mm_f_gi g'.1 m₀ 2 (by omega)) (fun j₀ => mm_f_gi g'.1 (m₀ + 1) j₀ (by omega)) hr
            have g2 := g'.2.1
            have g3₀ := g'.2.2.1
            have nex1 : (mh_mt (gi P m₀ 32) (gi P m₀ 33) (gi P m₀ 34) (gi P m₀ 35) (tp k₀) (lf₀ k₀) (hg k₀) (wd k₀) → mh_wn (gi P m₀ 32) (gi P m₀ 33) (gi P m₀ 34) (gi P m₀ 35) (tp k₀) (lf₀ k₀) (hg k₀) (wd k₀)) → K 10 [(0, Sum.inr (Sum.inl m₀)), (1, Sum.inl x₀), (2, Sum.inl (k₀ + 1))] [] P 0 := by
              intro hq
              refine nex (x₀, P) ⟨g', ?_⟩
              rcases hx with ⟨e1₀, e2₀, hc₀⟩ | ⟨e1₀, hm₀⟩
              · refine Or.inl ⟨e1₀, e2₀, fun j₀ j0 j1 => ?_⟩
                by_cases e₀ : j₀ = k₀
                · rw [e₀, ← e2₀]; exact hq
                · exact hc₀ j₀ j0 (by omega)
              · exact Or.inr ⟨e1₀, hm₀⟩
            have nex2 : ∀ P'₀, mh_mt (gi P m₀ 32) (gi P m₀ 33) (gi P m₀ 34) (gi P m₀ 35) (tp k₀) (lf₀ k₀) (hg k₀) (wd k₀) → ¬ mh_wn (gi P m₀ 32) (gi P m₀ 33) (gi P m₀ 34) (gi P m₀ 35) (tp k₀) (lf₀ k₀) (hg k₀) (wd k₀) → mm_f (mm_sA m₀) P P'₀ → gi P'₀ m₀ 32 = min (gi P m₀ 32) (tp k₀) → gi P'₀ m₀ 33 = max (gi P m₀ 33) (tp k₀ + hg k₀ - 1) → gi P'₀ m₀ 34 = min (gi P m₀ 34) (lf₀ k₀) → gi P'₀ m₀ 35 = max (gi P m₀ 35) (lf₀ k₀ + wd k₀ - 1) → K 10 [(0, Sum.inr (Sum.inl m₀)), (1, Sum.inl 1), (2, Sum.inl (k₀ + 1))] [] P'₀ 0 := by
              intro P'₀ q1₀ q2₀ f₀ e1₀ e2₀ e3₀ e4₀
              refine nex (1, P'₀) ⟨mm_gw1 hai ⟨k0₀, k1₀⟩ hr g' q1₀ f₀ e1₀ e2₀ e3₀ e4₀, Or.inr ⟨rfl, ?_⟩⟩
              dsimp only
              have hm₀ : gi M m₀ 1 + gi M m₀ 2 - (gi P m₀ 33 - gi P m₀ 32) - (gi P m₀ 35 - gi P m₀ 34) ≤ n₀ + 1 := by
                rcases hx with ⟨_, e2₀, _⟩ | ⟨_, hm₀⟩
                · rw [e2₀]; omega
                · omega
              omega
            clear nex hx hr
            refine hK₀ _ _ _ _ _ ?_
            (repeat' (((conv => whnf); first | assumption | refine And.intro (by first | assumption | omega | (simp only [true_and]; first | done | assumption | omega)) ?_ | (refine And.intro (fun _ => ?_) (fun _ => ?_) <;> first | (exfalso; omega) | skip) | intro _ | fail)))
            all_goals (try ((conv => whnf); (refine Exists.intro _ (Exists.intro _ (And.intro (cX6_isCut hl st' rcP hrP (by omega) (by omega)) (And.intro ?_ (fun _ _ h₀ => h₀.elim)))); rintro _ _ ⟨rfl, e₀⟩; have e2₀ := e₀.symm; clear e₀; subst e2₀); (repeat' (((conv => whnf); first | assumption | refine And.intro (by first | assumption | omega | (simp only [true_and]; first | done | assumption | omega)) ?_ | (refine And.intro (fun _ => ?_) (fun _ => ?_) <;> first | (exfalso; omega) | skip) | intro _ | fail)))))
            · all_goals ((conv => whnf); exact nex1 (fun q₀ => by rename_i hb₀; split at hb₀ <;> first | omega | (rename_i hb2; exact Classical.byContradiction (fun z₀ => hb2 ⟨q₀, z₀⟩))))
            · (conv => whnf)
              rename_i hb₀
              refine Exists.intro _ (Exists.intro _ (And.intro (cX6_takesIn hl st' rcP hrP) (And.intro ?_ (fun _ _ h₀ => h₀.elim))))
              rintro _ P'₀ ⟨rfl, f₀, e1₀, e2₀, e3₀, e4₀⟩
              have w₀ := nex2 P'₀ (by split at hb₀ <;> first | omega | (rename_i hb2; exact hb2.1)) (by split at hb₀ <;> first | omega | (rename_i hb2; exact hb2.2)) f₀ e1₀ e2₀ e3₀ e4₀
              (repeat' (((conv => whnf); first | assumption | refine And.intro (by first | assumption | omega | (simp only [true_and]; first | done | assumption | omega)) ?_ | (refine And.intro (fun _ => ?_) (fun _ => ?_) <;> first | (exfalso; omega) | skip) | intro _ | fail)))
        · have t4₀ := mm_f_gi g₀.1 m₀ 4 (by omega)
          have k7₀ := (mm_f_st g₀.1 st₀).1
          have w₀ := E₀ N g₀ (fun j₀ j0 j1 => by omega)
          refine hK₀ _ _ _ _ _ ?_
          (repeat' (((conv => whnf); first | assumption | refine And.intro (by first | assumption | omega | (simp only [true_and]; first | done | assumption | omega)) ?_ | (refine And.intro (fun _ => ?_) (fun _ => ?_) <;> first | (exfalso; omega) | skip) | intro _ | fail)))
      have k7₀ := (mm_f_st g₀.1 st₀).1
      refine hK₀ _ _ _ _ _ ?_
      (repeat' (((conv => whnf); first | assumption | refine And.intro (by first | assumption | omega | (simp only [true_and]; first | done | assumption | omega)) ?_ | (refine And.intro (fun _ => ?_) (fun _ => ?_) <;> first | (exfalso; omega) | skip) | intro _ | fail)))
  have w₀ := O₀ (gi M m₀ 1 + gi M m₀ 2).toNat M ⟨mm_f_rfl, by omega, by omega, fun p₀ q₀ u₀ v₀ _ h1 h2 h3 h4 => ⟨h1, h2, h3, h4⟩⟩ (by omega)
  refine hK₀ _ _ _ _ _ ?_
  (repeat' (((conv => whnf); first | assumption | refine And.intro (by first | assumption | omega | (simp only [true_and]; first | done | assumption | omega)) ?_ | (refine And.intro (fun _ => ?_) (fun _ => ?_) <;> first | (exfalso; omega) | skip) | intro _ | fail)))
set_option maxRecDepth 100000 in
theorem cX6_spans {D : mg_D} {l : Launch} (hl : l.stackTraces = false) {M : mg_M} {m₀ : Nat} {tp lf₀ hg wd : Int → Int} {r₀ c₀ r' c' : Int} (st₀ : mm_st M m₀) (rc : mm_rc M m₀) (h4 : gi M m₀ 4 ≤ 140) (rt : mm_RT M m₀ tp lf₀ hg wd) (hr : 0 ≤ r₀ ∧ r₀ < gi M m₀ 1) (hc₀ : 0 ≤ c₀ ∧ c₀ < gi M m₀ 2) (hr' : 0 ≤ r' ∧ r' < gi M m₀ 1) (hc' : 0 ≤ c' ∧ c' < gi M m₀ 2) : mg_Mt D l 136 [.inr (.inl m₀), .inl r₀, .inl c₀, .inl r', .inl c'] M (fun v₀ N => v₀ = none ∧ mm_f (mm_sA m₀) M N ∧ mm_ai N m₀ ∧ mh_hull (mm_cl (gi M m₀ 4) tp lf₀ hg wd) (min r₀ r') (max r₀ r') (min c₀ c') (max c₀ c') (gi N m₀ 32) (gi N m₀ 33) (gi N m₀ 34) (gi N m₀ 35)) mg_no := by
  refine mg_of2 hl ok_X6_spans al_X6_spans rfl (fun K hK₀ => ?_)
  have rc' := rc
  unfold mm_rc at rc'
  have k7₀ := st₀.1
  have B₀ : ∀ x₀ y₀ z₀ w₀, x₀ = min r₀ r' → y₀ = max r₀ r' → z₀ = min c₀ c' → w₀ = max c₀ c' → mg_Mt D l 135 [.inr (.inl m₀)] (si (si (si (si M m₀ 32 x₀) m₀ 33 y₀) m₀ 34 z₀) m₀ 35 w₀) (fun v₀ N => v₀ = none ∧ mm_f (mm_sA m₀) M N ∧ mm_ai N m₀ ∧ mh_hull (mm_cl (gi M m₀ 4) tp lf₀ hg wd) (min r₀ r') (max r₀ r') (min c₀ c') (max c₀ c') (gi N m₀ 32) (gi N m₀ 33) (gi N m₀ 34) (gi N m₀ 35)) mg_no := by
    intro x₀ y₀ z₀ w₀ hx hy hz hw
    have f₀ : mm_f (mm_sA m₀) M (si (si (si (si M m₀ 32 x₀) m₀ 33 y₀) m₀ 34 z₀) m₀ 35 w₀) := mm_f_si (mm_f_si (mm_f_si (mm_f_si mm_f_rfl (by omega)) (by omega)) (by omega)) (by omega)
    have t1₀ := mm_f_gi f₀ m₀ 1 (by omega)
    have t2₀ := mm_f_gi f₀ m₀ 2 (by omega)
    have t4₀ := mm_f_gi f₀ m₀ 4 (by omega)
    have e1₀ : gi (si (si (si (si M m₀ 32 x₀) m₀ 33 y₀) m₀ 34 z₀) m₀ 35 w₀) m₀ 32 = x₀ := by simp [gi_si]
    have e2₀ : gi (si (si (si (si M m₀ 32 x₀) m₀ 33 y₀) m₀ 34 z₀) m₀ 35 w₀) m₀ 33 = y₀ := by simp [gi_si]
    have e3₀ : gi (si (si (si (si M m₀ 32 x₀) m₀ 33 y₀) m₀ 34 z₀) m₀ 35 w₀) m₀ 34 = z₀ := by simp [gi_si]
    have e4₀ : gi (si (si (si (si M m₀ 32 x₀) m₀ 33 y₀) m₀ 34 z₀) m₀ 35 w₀) m₀ 35 = w₀ := by simp [gi_si]
    have g₀ := cX6_grows (D := D) hl (mm_f_st f₀ st₀) (mm_rc_f f₀ (by omega) (by omega) rc) (by omega) (by omega) (mm_RT_f f₀ (by omega) (by omega) (by omega) (fun j₀ => by omega) rt)
    rw [e1₀, e2₀, e3₀, e4₀, t4₀] at g₀
    rw [← hx, ← hy, ← hz, ← hw]
    exact mg_MtN g₀ (fun v₀ N ⟨q1₀, q2₀, q3₀⟩ => ⟨q1₀, mm_f_tr f₀ q2₀, q3₀⟩)
  refine hK₀ _ _ _ _ _ ?_
  (repeat' (((conv => whnf); first | assumption | refine And.intro (by first | assumption | omega | (simp only [true_and, kd_si]; first | done | assumption | omega)) ?_ | (refine And.intro (fun _ => ?_) (fun _ => ?_) <;> first | (exfalso; omega) | skip) | intro _ | fail)))
  all_goals ((conv => whnf); refine Exists.intro _ (Exists.intro _ (And.intro (B₀ _ _ _ _ ?_ ?_ ?_ ?_) (And.intro ?_ (fun _ _ h₀ => h₀.elim)))))
  all_goals (first | omega | (rintro _ N ⟨rfl, Q₀⟩; have Q2₀ : (none : Option mg_V) = none ∧ _ := ⟨rfl, Q₀⟩; (repeat' (((conv => whnf); first | assumption | refine And.intro (by first | assumption | omega | (simp only [true_and, kd_si]; first | done | assumption | omega)) ?_ | (refine And.intro (fun _ => ?_) (fun _ => ?_) <;> first | (exfalso; omega) | skip) | intro _ | fail)))))
