/-! the tie₀ between a₀ table₀ of the class and the reference's arrays₀ -/
def mh_fT (M : mg_M) (t₀ f₀ : Nat) (p₀ q₀ : Int) : Int := gi M (mh_co M t₀ p₀ q₀) f₀
/-- the arrays₀ a₀, a₀+1 .. of the reference₀ tell₀ what the table₀ t₀ tells₀ -/
def mh_SQ (M : mg_M) (t₀ a₀ : Nat) : Prop := (∀ p₀ q₀, mh_rg (gi M t₀ 0) (gi M t₀ 1) p₀ q₀ → 0 ≤ mi M a₀ p₀ q₀ ∧ mi M a₀ p₀ q₀ < 120) ∧ (∀ p₀ q₀ p' q', mh_rg (gi M t₀ 0) (gi M t₀ 1) p₀ q₀ → mh_rg (gi M t₀ 0) (gi M t₀ 1) p' q' → (mi M a₀ p₀ q₀ = mi M a₀ p' q' ↔ mh_at M t₀ p₀ q₀ = mh_at M t₀ p' q')) ∧ (∀ p₀ q₀, mh_rg (gi M t₀ 0) (gi M t₀ 1) p₀ q₀ → gi M (a₀ + 1) (mi M a₀ p₀ q₀).toNat = gi M (mh_co M t₀ p₀ q₀) 4 ∧ gi M (a₀ + 2) (mi M a₀ p₀ q₀).toNat = gi M (mh_co M t₀ p₀ q₀) 5) ∧ (∀ k₀, 0 ≤ k₀ → k₀ < gi M t₀ 1 → gi M (a₀ + 3) k₀.toNat = gi M (t₀ + 2) k₀.toNat) ∧ ∀ k₀, 0 ≤ k₀ → k₀ < gi M t₀ 0 → gi M (a₀ + 4) k₀.toNat = gi M (t₀ + 1) k₀.toNat
theorem mh_sqc {M : mg_M} {t₀ : Nat} {p₀ q₀ : Int} (tl : mh_tl M t₀) (nb : mh_nb M t₀) (h₀ : mh_rg (gi M t₀ 0) (gi M t₀ 1) p₀ q₀) : ∃ i₀ : Nat, (i₀ : Int) < gi M (t₀ + 3) 0 ∧ i₀ < 120 ∧ mh_cv M t₀ i₀ p₀ q₀ ∧ mh_at M t₀ p₀ q₀ = i₀ ∧ mh_co M t₀ p₀ q₀ = gr M (t₀ + 3 + 1) i₀ := by
  obtain ⟨i₀, hi, w₀, _⟩ := @mh_tl_ow M t₀ p₀ q₀ tl h₀.1 h₀.2 (nb p₀ q₀ h₀.1.1 h₀.1.2 h₀.2.1 h₀.2.2)
  have e₀ := tl.2.2.2.1 i₀ hi p₀ q₀ w₀
  have z₀ := tl.2.1.2.2.2.2.2.2.1
  exact ⟨i₀, hi, by omega, w₀, e₀, mh_co_at h₀ e₀⟩
/-- the cell₀ on a₀ square: its rectangle -/
theorem mh_til_at {M : mg_M} {t₀ : Nat} (tl : mh_tl M t₀) (nb : mh_nb M t₀) : mh_til (gi M t₀ 0) (gi M t₀ 1) (mh_at M t₀) (mh_fT M t₀ 0) (mh_fT M t₀ 1) (mh_fT M t₀ 2) (mh_fT M t₀ 3) := by
  intro p₀ q₀ h₀
  obtain ⟨i₀, hi, i1₀, w₀, e₀, ec⟩ := mh_sqc tl nb h₀
  have o := tl.2.2.1 i₀ hi
  unfold mh_ok at o
  unfold mh_fT
  rw [ec]
  refine ⟨by omega, fun p' q' h' => ?_⟩
  rw [e₀]
  constructor
  · intro e'
    obtain ⟨j₀, hj, j1, w', e2₀, _⟩ := mh_sqc tl nb h'
    have ij : j₀ = i₀ := by omega
    rw [ij] at w'
    unfold mh_cv at w'
    omega
  · intro w'
    refine tl.2.2.2.1 i₀ hi p' q' ?_
    unfold mh_cv
    omega
theorem mh_til_J {R C : Int} {J₀ J' T L₀ H₀ W₀ : Int → Int → Int} (h₀ : mh_til R C J₀ T L₀ H₀ W₀) (e₀ : ∀ p₀ q₀ p' q', mh_rg R C p₀ q₀ → mh_rg R C p' q' → (J' p₀ q₀ = J' p' q' ↔ J₀ p₀ q₀ = J₀ p' q')) : mh_til R C J' T L₀ H₀ W₀ := by
  intro r₀ c₀ hr
  obtain ⟨h1, h2⟩ := h₀ r₀ c₀ hr
  refine ⟨h1, fun r' c' hr' => ?_⟩
  rw [e₀ r' c' r₀ c₀ hr' hr]
  exact h2 r' c' hr'
theorem mh_rts_of {M : mg_M} {m₀ : Nat} {T L₀ H₀ W₀ : Int → Int → Int} (h₀ : mh_til (gi M m₀ 1) (gi M m₀ 2) (mi M (m₀ + 1)) T L₀ H₀ W₀) : mm_rts M m₀ T L₀ H₀ W₀ := by
  intro r₀ c₀ hr
  obtain ⟨h1, h2⟩ := h₀ r₀ c₀ hr
  exact ⟨h1.1, h1.2, fun r' c' hr' hc' => h2 r' c' ⟨hr', hc'⟩⟩
/-- rectangles by number₀ -/
theorem mh_RT_of {M : mg_M} {m₀ : Nat} {T L₀ H₀ W₀ : Int → Int → Int} (h₀ : mm_rts M m₀ T L₀ H₀ W₀) (on : ∀ k₀, 0 ≤ k₀ → k₀ < gi M m₀ 4 → ∃ r₀ c₀, mh_rg (gi M m₀ 1) (gi M m₀ 2) r₀ c₀ ∧ mi M (m₀ + 1) r₀ c₀ = k₀) : ∃ tp lf₀ hg wd : Int → Int, mm_RT M m₀ tp lf₀ hg wd ∧ ∀ r₀ c₀, mh_rg (gi M m₀ 1) (gi M m₀ 2) r₀ c₀ → 0 ≤ mi M (m₀ + 1) r₀ c₀ → mi M (m₀ + 1) r₀ c₀ < gi M m₀ 4 → tp (mi M (m₀ + 1) r₀ c₀) = T r₀ c₀ ∧ lf₀ (mi M (m₀ + 1) r₀ c₀) = L₀ r₀ c₀ ∧ hg (mi M (m₀ + 1) r₀ c₀) = H₀ r₀ c₀ ∧ wd (mi M (m₀ + 1) r₀ c₀) = W₀ r₀ c₀ := by
  have ex₀ : ∀ k₀ : Int, ∃ s₀ : Int × Int, 0 ≤ k₀ → k₀ < gi M m₀ 4 → mh_rg (gi M m₀ 1) (gi M m₀ 2) s₀.1 s₀.2 ∧ mi M (m₀ + 1) s₀.1 s₀.2 = k₀ := by
    intro k₀
    by_cases c₀ : 0 ≤ k₀ ∧ k₀ < gi M m₀ 4
    · obtain ⟨r₀, c', h1, h2⟩ := on k₀ c₀.1 c₀.2
      exact ⟨(r₀, c'), fun _ _ => ⟨h1, h2⟩⟩
    · exact ⟨(0, 0), fun h1 h2 => absurd ⟨h1, h2⟩ c₀⟩
  obtain ⟨s₀, hs⟩ : ∃ s₀ : Int → Int × Int, ∀ k₀, 0 ≤ k₀ → k₀ < gi M m₀ 4 → mh_rg (gi M m₀ 1) (gi M m₀ 2) (s₀ k₀).1 (s₀ k₀).2 ∧ mi M (m₀ + 1) (s₀ k₀).1 (s₀ k₀).2 = k₀ := ⟨fun k₀ => Classical.choose (ex₀ k₀), fun k₀ => Classical.choose_spec (ex₀ k₀)⟩
  refine ⟨fun k₀ => T (s₀ k₀).1 (s₀ k₀).2, fun k₀ => L₀ (s₀ k₀).1 (s₀ k₀).2, fun k₀ => H₀ (s₀ k₀).1 (s₀ k₀).2, fun k₀ => W₀ (s₀ k₀).1 (s₀ k₀).2, fun k₀ k0₀ k1₀ => ?_, fun r₀ c₀ hr k0₀ k1₀ => ?_⟩
  · obtain ⟨h1, h2⟩ := hs k₀ k0₀ k1₀
    have g₀ := h₀ (s₀ k₀).1 (s₀ k₀).2 h1
    rw [h2] at g₀
    exact g₀
  · obtain ⟨h1, h2⟩ := hs _ k0₀ k1₀
    have g1 := h₀ r₀ c₀ hr
    have g2 := h₀ _ _ h1
    rw [h2] at g2
    have a1₀ := g1.1
    have a2 := g1.2.1
    have b1 := g2.1
    have b2 := g2.2.1
    show T (s₀ (mi M (m₀ + 1) r₀ c₀)).1 (s₀ (mi M (m₀ + 1) r₀ c₀)).2 = T r₀ c₀ ∧ L₀ (s₀ (mi M (m₀ + 1) r₀ c₀)).1 (s₀ (mi M (m₀ + 1) r₀ c₀)).2 = L₀ r₀ c₀ ∧ H₀ (s₀ (mi M (m₀ + 1) r₀ c₀)).1 (s₀ (mi M (m₀ + 1) r₀ c₀)).2 = H₀ r₀ c₀ ∧ W₀ (s₀ (mi M (m₀ + 1) r₀ c₀)).1 (s₀ (mi M (m₀ + 1) r₀ c₀)).2 = W₀ r₀ c₀
    generalize s₀ (mi M (m₀ + 1) r₀ c₀) = z₀ at *
    have x1₀ := (g1.2.2 (T r₀ c₀) (L₀ r₀ c₀) (by omega) (by omega)).2 (by omega)
    have x2₀ := (g2.2.2 (T r₀ c₀) (L₀ r₀ c₀) (by omega) (by omega)).1 x1₀
    have x3 := (g1.2.2 (T r₀ c₀ + H₀ r₀ c₀ - 1) (L₀ r₀ c₀ + W₀ r₀ c₀ - 1) (by omega) (by omega)).2 (by omega)
    have x4₀ := (g2.2.2 (T r₀ c₀ + H₀ r₀ c₀ - 1) (L₀ r₀ c₀ + W₀ r₀ c₀ - 1) (by omega) (by omega)).1 x3
    have y1 := (g2.2.2 (T z₀.1 z₀.2) (L₀ z₀.1 z₀.2) (by omega) (by omega)).2 (by omega)
    have y2 := (g1.2.2 (T z₀.1 z₀.2) (L₀ z₀.1 z₀.2) (by omega) (by omega)).1 y1
    have y3 := (g2.2.2 (T z₀.1 z₀.2 + H₀ z₀.1 z₀.2 - 1) (L₀ z₀.1 z₀.2 + W₀ z₀.1 z₀.2 - 1) (by omega) (by omega)).2 (by omega)
    have y4 := (g1.2.2 (T z₀.1 z₀.2 + H₀ z₀.1 z₀.2 - 1) (L₀ z₀.1 z₀.2 + W₀ z₀.1 z₀.2 - 1) (by omega) (by omega)).1 y3
    omega
theorem mh_cc_cq {M : mg_M} {t₀ : Nat} (tl : mh_tl M t₀) (nb : mh_nb M t₀) : mh_cq (gi M t₀ 0) (gi M t₀ 1) (mh_fT M t₀ 0) (mh_fT M t₀ 1) (mh_fT M t₀ 2) (mh_fT M t₀ 3) = mh_cc M t₀ := by
  funext f₀ e₀ a₀ d₀
  unfold mh_cq mh_cc mh_fT
  refine propext ⟨fun w₀ i₀ hi => ?_, fun w₀ p₀ q₀ h₀ => ?_⟩
  · have o := tl.2.2.1 i₀ hi
    have v₀ := mh_ok_cv o
    unfold mh_ok at o
    have h₀ : mh_rg (gi M t₀ 0) (gi M t₀ 1) (gi M (gr M (t₀ + 3 + 1) i₀) 0) (gi M (gr M (t₀ + 3 + 1) i₀) 1) := by omega
    have y₀ := w₀ _ _ h₀
    rw [mh_co_at h₀ (tl.2.2.2.1 i₀ hi _ _ v₀)] at y₀
    exact y₀
  · obtain ⟨i₀, hi, _, _, _, ec⟩ := mh_sqc tl nb h₀
    rw [ec]
    exact w₀ i₀ hi
theorem mm_cl_cq2 {M : mg_M} {m₀ : Nat} {T L₀ H₀ W₀ : Int → Int → Int} {tp lf₀ hg wd : Int → Int} (on : ∀ k₀, 0 ≤ k₀ → k₀ < gi M m₀ 4 → ∃ r₀ c₀, mh_rg (gi M m₀ 1) (gi M m₀ 2) r₀ c₀ ∧ mi M (m₀ + 1) r₀ c₀ = k₀) (rn : ∀ r₀ c₀, mh_rg (gi M m₀ 1) (gi M m₀ 2) r₀ c₀ → 0 ≤ mi M (m₀ + 1) r₀ c₀ ∧ mi M (m₀ + 1) r₀ c₀ < gi M m₀ 4) (h₀ : ∀ r₀ c₀, mh_rg (gi M m₀ 1) (gi M m₀ 2) r₀ c₀ → 0 ≤ mi M (m₀ + 1) r₀ c₀ → mi M (m₀ + 1) r₀ c₀ < gi M m₀ 4 → tp (mi M (m₀ + 1) r₀ c₀) = T r₀ c₀ ∧ lf₀ (mi M (m₀ + 1) r₀ c₀) = L₀ r₀ c₀ ∧ hg (mi M (m₀ + 1) r₀ c₀) = H₀ r₀ c₀ ∧ wd (mi M (m₀ + 1) r₀ c₀) = W₀ r₀ c₀) : mm_cl (gi M m₀ 4) tp lf₀ hg wd = mh_cq (gi M m₀ 1) (gi M m₀ 2) T L₀ H₀ W₀ := by
  funext f₀ e₀ a₀ d₀
  unfold mm_cl mh_cq
  refine propext ⟨fun w₀ r₀ c₀ hr => ?_, fun w₀ k₀ k0₀ k1₀ => ?_⟩
  · obtain ⟨a0₀, a1₀⟩ := rn r₀ c₀ hr
    obtain ⟨b1, b2, b3, b4⟩ := h₀ r₀ c₀ hr a0₀ a1₀
    have y₀ := w₀ _ a0₀ a1₀
    rw [b1, b2, b3, b4] at y₀
    exact y₀
  · obtain ⟨r₀, c₀, hr, e'⟩ := on k₀ k0₀ k1₀
    obtain ⟨b1, b2, b3, b4⟩ := h₀ r₀ c₀ hr (by omega) (by omega)
    rw [e'] at b1 b2 b3 b4
    rw [b1, b2, b3, b4]
    exact w₀ r₀ c₀ hr
/-- sums over the numbers₀ are sums over the list -/
theorem mh_tie_sum {M : mg_M} {t₀ n₀ : Nat} {I₀ : Int → Int → Int} {N4₀ : Int} {F₀ G : Nat → Int} (tl : mh_tl M t₀) (nb : mh_nb M t₀) (hn : gi M (t₀ + 3) 0 = n₀) (rn : ∀ p₀ q₀, mh_rg (gi M t₀ 0) (gi M t₀ 1) p₀ q₀ → 0 ≤ I₀ p₀ q₀ ∧ I₀ p₀ q₀ < N4₀) (on : ∀ k₀, 0 ≤ k₀ → k₀ < N4₀ → ∃ p₀ q₀, mh_rg (gi M t₀ 0) (gi M t₀ 1) p₀ q₀ ∧ I₀ p₀ q₀ = k₀) (pt : ∀ p₀ q₀ p' q', mh_rg (gi M t₀ 0) (gi M t₀ 1) p₀ q₀ → mh_rg (gi M t₀ 0) (gi M t₀ 1) p' q' → (I₀ p₀ q₀ = I₀ p' q' ↔ mh_at M t₀ p₀ q₀ = mh_at M t₀ p' q')) (h₀ : ∀ p₀ q₀, mh_rg (gi M t₀ 0) (gi M t₀ 1) p₀ q₀ → F₀ (I₀ p₀ q₀).toNat = G (mh_at M t₀ p₀ q₀).toNat) : mh_sum F₀ N4₀.toNat = mh_sum G n₀ := by
  have cs : ∀ i₀ : Nat, i₀ < n₀ → mh_rg (gi M t₀ 0) (gi M t₀ 1) (gi M (gr M (t₀ + 3 + 1) i₀) 0) (gi M (gr M (t₀ + 3 + 1) i₀) 1) ∧ mh_at M t₀ (gi M (gr M (t₀ + 3 + 1) i₀) 0) (gi M (gr M (t₀ + 3 + 1) i₀) 1) = i₀ := by
    intro i₀ hi
    have o := tl.2.2.1 i₀ (by omega)
    have v₀ := mh_ok_cv o
    unfold mh_ok at o
    exact ⟨by omega, tl.2.2.2.1 i₀ (by omega) _ _ v₀⟩
  refine mh_sum_bij (fun i₀ => (I₀ (gi M (gr M (t₀ + 3 + 1) i₀) 0) (gi M (gr M (t₀ + 3 + 1) i₀) 1)).toNat) (fun i₀ hi => ?_) (fun i₀ j₀ hi hj e₀ => ?_) (fun k₀ hk => ?_) (fun i₀ hi => ?_)
  · have := rn _ _ (cs i₀ hi).1
    show (I₀ _ _).toNat < N4₀.toNat
    omega
  · have e' : (I₀ (gi M (gr M (t₀ + 3 + 1) i₀) 0) (gi M (gr M (t₀ + 3 + 1) i₀) 1)).toNat = (I₀ (gi M (gr M (t₀ + 3 + 1) j₀) 0) (gi M (gr M (t₀ + 3 + 1) j₀) 1)).toNat := e₀
    obtain ⟨a1₀, a2⟩ := cs i₀ hi
    obtain ⟨b1, b2⟩ := cs j₀ hj
    have r1₀ := rn _ _ a1₀
    have r2 := rn _ _ b1
    have := (pt _ _ _ _ a1₀ b1).1 (by omega)
    omega
  · obtain ⟨p₀, q₀, hr, e₀⟩ := on k₀ (by omega) (by omega)
    obtain ⟨i₀, hi, i1₀, w₀, ea, _⟩ := mh_sqc tl nb hr
    refine ⟨i₀, by omega, ?_⟩
    obtain ⟨a1₀, a2⟩ := cs i₀ (by omega)
    have := (pt _ _ _ _ a1₀ hr).2 (by omega)
    show (I₀ _ _).toNat = k₀
    omega
  · obtain ⟨a1₀, a2⟩ := cs i₀ hi
    have := h₀ _ _ a1₀
    rw [a2, Int.toNat_natCast] at this
    exact this
theorem mh_tie_cnt {M : mg_M} {t₀ : Nat} {I₀ : Int → Int → Int} {N4₀ : Int} (tl : mh_tl M t₀) (nb : mh_nb M t₀) (h4 : 0 ≤ N4₀) (rn : ∀ p₀ q₀, mh_rg (gi M t₀ 0) (gi M t₀ 1) p₀ q₀ → 0 ≤ I₀ p₀ q₀ ∧ I₀ p₀ q₀ < N4₀) (on : ∀ k₀, 0 ≤ k₀ → k₀ < N4₀ → ∃ p₀ q₀, mh_rg (gi M t₀ 0) (gi M t₀ 1) p₀ q₀ ∧ I₀ p₀ q₀ = k₀) (pt : ∀ p₀ q₀ p' q', mh_rg (gi M t₀ 0) (gi M t₀ 1) p₀ q₀ → mh_rg (gi M t₀ 0) (gi M t₀ 1) p' q' → (I₀ p₀ q₀ = I₀ p' q' ↔ mh_at M t₀ p₀ q₀ = mh_at M t₀ p' q')) : N4₀ = gi M (t₀ + 3) 0 := by
  have z₀ := tl.2.1.2.2.2.2.2.2.1
  obtain ⟨n₀, hn⟩ : ∃ n₀ : Nat, gi M (t₀ + 3) 0 = n₀ := ⟨(gi M (t₀ + 3) 0).toNat, by omega⟩
  have s₀ := mh_tie_sum (F₀ := fun _ => 1) (G := fun _ => 1) tl nb hn rn on pt (fun _ _ _ => rfl)
  rw [mh_sum_cm, mh_sum_cm] at s₀
  omega
/-- two₀ numberings lifted alike₀ part₀ the squares alike₀ -/
theorem mh_lift {R C R' C'₀ : Int} {J1 J2 K1 K2 : Int → Int → Int} (pt : ∀ p₀ q₀ p' q', mh_rg R C p₀ q₀ → mh_rg R C p' q' → (J1 p₀ q₀ = J1 p' q' ↔ J2 p₀ q₀ = J2 p' q')) (b1 : ∀ p₀ q₀, mh_rg R C p₀ q₀ → J1 p₀ q₀ < 120) (b2 : ∀ p₀ q₀, mh_rg R C p₀ q₀ → J2 p₀ q₀ < 120) (h₀ : ∀ p₀ q₀, mh_rg R' C'₀ p₀ q₀ → (∃ a₀ b₀, mh_rg R C a₀ b₀ ∧ K1 p₀ q₀ = J1 a₀ b₀ ∧ K2 p₀ q₀ = J2 a₀ b₀) ∨ (∃ k₀, 120 ≤ k₀ ∧ K1 p₀ q₀ = k₀ ∧ K2 p₀ q₀ = k₀)) : ∀ p₀ q₀ p' q', mh_rg R' C'₀ p₀ q₀ → mh_rg R' C'₀ p' q' → (K1 p₀ q₀ = K1 p' q' ↔ K2 p₀ q₀ = K2 p' q') := by
  intro p₀ q₀ p' q' hr hr'
  rcases h₀ p₀ q₀ hr with ⟨a₀, b₀, r1₀, e1₀, e2₀⟩ | ⟨k₀, r1₀, e1₀, e2₀⟩
  · rcases h₀ p' q' hr' with ⟨a', b', r1', e1', e2'⟩ | ⟨k', r1', e1', e2'⟩
    · rw [e1₀, e2₀, e1', e2']
      exact pt a₀ b₀ a' b' r1₀ r1'
    · have x1₀ := b1 a₀ b₀ r1₀
      have x2₀ := b2 a₀ b₀ r1₀
      constructor <;> (intro w₀; omega)
  · rcases h₀ p' q' hr' with ⟨a', b', r1', e1', e2'⟩ | ⟨k', r1', e1', e2'⟩
    · have x1₀ := b1 a' b' r1'
      have x2₀ := b2 a' b' r1'
      constructor <;> (intro w₀; omega)
    · constructor <;> (intro w₀; omega)
