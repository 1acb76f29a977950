/-! the reference₀ before₀ and behind₀ settles and startsAnew -/
abbrev mm_sB (m₀ : Nat) : Nat → Nat → Prop := fun b₀ k₀ => (b₀ = m₀ ∧ k₀ ≠ 25 ∧ k₀ ≠ 26 ∧ k₀ ≠ 27) ∨ (m₀ < b₀ ∧ b₀ ≤ m₀ + 17 ∧ b₀ ≠ m₀ + 13 ∧ b₀ ≠ m₀ + 14 ∧ b₀ ≠ m₀ + 15)
/-- what is₀ kept₀ of M in P -/
def mm_kt (M P : mg_M) (m₀ : Nat) : Prop := (gi P m₀ 10 = 1 ∧ gi P m₀ 11 = gi M m₀ 1 ∧ gi P m₀ 12 = gi M m₀ 2 ∧ gi P m₀ 13 = gi M m₀ 3) ∧ (∀ k₀ : Nat, k₀ < 120 → gi P (m₀ + 6) k₀ = gi M (m₀ + 1) k₀) ∧ (∀ k₀ : Nat, k₀ < 140 → gi P (m₀ + 7) k₀ = gi M (m₀ + 2) k₀ ∧ gi P (m₀ + 8) k₀ = gi M (m₀ + 3) k₀) ∧ (∀ k₀ : Nat, k₀ < 10 → gi P (m₀ + 9) k₀ = gi M (m₀ + 4) k₀) ∧ (∀ k₀ : Nat, k₀ < 12 → gi P (m₀ + 10) k₀ = gi M (m₀ + 5) k₀)
theorem mm_kt_f {S : Nat → Nat → Prop} {M P N : mg_M} {m₀ : Nat} (f₀ : mm_f S P N) (n1₀ : ∀ k₀, 10 ≤ k₀ → k₀ ≤ 13 → ¬ S m₀ k₀) (n2₀ : ∀ b₀ k₀, m₀ + 6 ≤ b₀ → b₀ ≤ m₀ + 10 → ¬ S b₀ k₀) (h₀ : mm_kt M P m₀) : mm_kt M N m₀ := by
  obtain ⟨⟨h0, h1, h2, h3⟩, h4, h5, h6, h7⟩ := h₀
  refine ⟨⟨?_, ?_, ?_, ?_⟩, fun k₀ hk => ?_, fun k₀ hk => ?_, fun k₀ hk => ?_, fun k₀ hk => ?_⟩
  · rw [mm_f_gi f₀ m₀ 10 (n1₀ _ (by omega) (by omega))]; exact h0
  · rw [mm_f_gi f₀ m₀ 11 (n1₀ _ (by omega) (by omega))]; exact h1
  · rw [mm_f_gi f₀ m₀ 12 (n1₀ _ (by omega) (by omega))]; exact h2
  · rw [mm_f_gi f₀ m₀ 13 (n1₀ _ (by omega) (by omega))]; exact h3
  · rw [mm_f_gi f₀ (m₀ + 6) k₀ (n2₀ _ _ (by omega) (by omega))]; exact h4 k₀ hk
  · rw [mm_f_gi f₀ (m₀ + 7) k₀ (n2₀ _ _ (by omega) (by omega)), mm_f_gi f₀ (m₀ + 8) k₀ (n2₀ _ _ (by omega) (by omega))]; exact h5 k₀ hk
  · rw [mm_f_gi f₀ (m₀ + 9) k₀ (n2₀ _ _ (by omega) (by omega))]; exact h6 k₀ hk
  · rw [mm_f_gi f₀ (m₀ + 10) k₀ (n2₀ _ _ (by omega) (by omega))]; exact h7 k₀ hk
def mm_pre (M P : mg_M) (m₀ : Nat) (R C hd₀ : Int) (J₀ : Int → Int → Int) (cn sy wd ht : Int → Int) : Prop := mm_f (mm_sB m₀) M P ∧ (gi P m₀ 0 = 0 ∧ gi P m₀ 1 = R ∧ gi P m₀ 2 = C ∧ gi P m₀ 3 = hd₀) ∧ mm_kt M P m₀ ∧ ((1 ≤ R ∧ R ≤ 12) ∧ (1 ≤ C ∧ C ≤ 10)) ∧ (∀ r₀ c₀, mh_rg R C r₀ c₀ → mi P (m₀ + 1) r₀ c₀ = J₀ r₀ c₀ ∧ (0 ≤ J₀ r₀ c₀ ∧ J₀ r₀ c₀ < 140)) ∧ (∀ r₀ c₀, mh_rg R C r₀ c₀ → gi P (m₀ + 2) (J₀ r₀ c₀).toNat = cn (J₀ r₀ c₀) ∧ gi P (m₀ + 3) (J₀ r₀ c₀).toNat = sy (J₀ r₀ c₀)) ∧ (∀ k₀, 0 ≤ k₀ → k₀ < C → gi P (m₀ + 4) k₀.toNat = wd k₀) ∧ (∀ k₀, 0 ≤ k₀ → k₀ < R → gi P (m₀ + 5) k₀.toNat = ht k₀)
def mm_nw (M N : mg_M) (m₀ : Nat) (R C hd₀ : Int) (J₀ : Int → Int → Int) (cn sy wd ht : Int → Int) : Prop := mm_f (mm_sB m₀) M N ∧ (gi N m₀ 0 = 0 ∧ gi N m₀ 1 = R ∧ gi N m₀ 2 = C ∧ gi N m₀ 3 = hd₀) ∧ mm_kt M N m₀ ∧ (0 ≤ gi N m₀ 4 ∧ gi N m₀ 4 ≤ 120) ∧ (∀ r₀ c₀, mh_rg R C r₀ c₀ → 0 ≤ mi N (m₀ + 1) r₀ c₀ ∧ mi N (m₀ + 1) r₀ c₀ < gi N m₀ 4) ∧ (∀ k₀, 0 ≤ k₀ → k₀ < gi N m₀ 4 → ∃ r₀ c₀, mh_rg R C r₀ c₀ ∧ mi N (m₀ + 1) r₀ c₀ = k₀) ∧ (∀ r₀ c₀ r' c', mh_rg R C r₀ c₀ → mh_rg R C r' c' → (mi N (m₀ + 1) r₀ c₀ = mi N (m₀ + 1) r' c' ↔ J₀ r₀ c₀ = J₀ r' c')) ∧ (∀ r₀ c₀, mh_rg R C r₀ c₀ → gi N (m₀ + 2) (mi N (m₀ + 1) r₀ c₀).toNat = cn (J₀ r₀ c₀) ∧ gi N (m₀ + 3) (mi N (m₀ + 1) r₀ c₀).toNat = sy (J₀ r₀ c₀)) ∧ (∀ k₀, 0 ≤ k₀ → k₀ < C → gi N (m₀ + 4) k₀.toNat = wd k₀) ∧ (∀ k₀, 0 ≤ k₀ → k₀ < R → gi N (m₀ + 5) k₀.toNat = ht k₀)
abbrev mm_se (N : mg_M) (m₀ : Nat) (R C : Int) (T L₀ H₀ W₀ : Int → Int → Int) : Prop := mm_si N m₀ ∧ mh_hull (mh_cq R C T L₀ H₀ W₀) 0 0 0 0 (gi N m₀ 21) (gi N m₀ 22) (gi N m₀ 23) (gi N m₀ 24)
theorem mm_pre_rc {M P : mg_M} {m₀ : Nat} {R C hd₀ : Int} {J₀ : Int → Int → Int} {cn sy wd ht : Int → Int} (h₀ : mm_pre M P m₀ R C hd₀ J₀ cn sy wd ht) : mm_rc P m₀ ∧ mm_in P m₀ := by
  obtain ⟨f₀, ⟨h0, h1, h2, h3⟩, k₀, b₀, i₀, _⟩ := h₀
  refine ⟨?_, ?_⟩
  · unfold mm_rc
    rw [h1, h2]
    omega
  · intro r₀ c₀ hr
    rw [h1, h2] at hr
    have := i₀ r₀ c₀ hr
    omega
theorem mm_pre_set {M P N : mg_M} {m₀ : Nat} {R C hd₀ : Int} {J₀ : Int → Int → Int} {cn sy wd ht : Int → Int} (h₀ : mm_pre M P m₀ R C hd₀ J₀ cn sy wd ht) (s₀ : mm_set P N m₀) : mm_nw M N m₀ R C hd₀ J₀ cn sy wd ht := by
  obtain ⟨f₀, ⟨h0, h1, h2, h3⟩, k₀, b₀, i₀, c₀, w₀, g₀⟩ := h₀
  obtain ⟨s1₀, s2₀, s3₀, s4₀, s5, s6₀⟩ := s₀
  rw [h1, h2] at s3₀ s4₀ s5 s6₀
  refine ⟨mm_f_tr f₀ (mm_f_mono s1₀ (fun b₀ k₀ z₀ => by omega)), ⟨?_, ?_, ?_, ?_⟩, mm_kt_f s1₀ (fun k₀ _ _ => by omega) (fun b₀ k₀ _ _ => by omega) k₀, s2₀, s3₀, s4₀, ?_, ?_, fun k₀ h1 h2 => ?_, fun k₀ h1 h2 => ?_⟩
  · rw [mm_f_gi s1₀ m₀ 0 (by omega)]; exact h0
  · rw [mm_f_gi s1₀ m₀ 1 (by omega)]; exact h1
  · rw [mm_f_gi s1₀ m₀ 2 (by omega)]; exact h2
  · rw [mm_f_gi s1₀ m₀ 3 (by omega)]; exact h3
  · intro r₀ c' r' c'' hr hr'
    rw [s5 r₀ c' r' c'' hr hr', (i₀ r₀ c' hr).1, (i₀ r' c'' hr').1]
  · intro r₀ c' hr
    rw [(s6₀ r₀ c' hr).1, (s6₀ r₀ c' hr).2, (i₀ r₀ c' hr).1]
    exact c₀ r₀ c' hr
  · rw [mm_f_gi s1₀ (m₀ + 4) _ (by omega)]; exact w₀ k₀ h1 h2
  · rw [mm_f_gi s1₀ (m₀ + 5) _ (by omega)]; exact g₀ k₀ h1 h2
theorem mm_nw_rt {M N : mg_M} {m₀ : Nat} {R C hd₀ : Int} {J₀ T L₀ H₀ W₀ : Int → Int → Int} {cn sy wd ht : Int → Int} (h₀ : mm_nw M N m₀ R C hd₀ J₀ cn sy wd ht) (t₀ : mh_til R C J₀ T L₀ H₀ W₀) : ∃ tp lf₀ hg wd : Int → Int, mm_RT N m₀ tp lf₀ hg wd ∧ (∀ r₀ c₀, mh_rg R C r₀ c₀ → tp (mi N (m₀ + 1) r₀ c₀) = T r₀ c₀ ∧ lf₀ (mi N (m₀ + 1) r₀ c₀) = L₀ r₀ c₀ ∧ hg (mi N (m₀ + 1) r₀ c₀) = H₀ r₀ c₀ ∧ wd (mi N (m₀ + 1) r₀ c₀) = W₀ r₀ c₀) ∧ mm_cl (gi N m₀ 4) tp lf₀ hg wd = mh_cq R C T L₀ H₀ W₀ := by
  obtain ⟨f₀, ⟨h0, h1, h2, h3⟩, k₀, b₀, i₀, c₀, w₀, g₀⟩ := h₀
  have t2₀ : mh_til (gi N m₀ 1) (gi N m₀ 2) (fun r₀ c₀ => mi N (m₀ + 1) r₀ c₀) T L₀ H₀ W₀ := by
    rw [h1, h2]
    intro r₀ c₀ h₀
    refine ⟨(t₀ r₀ c₀ h₀).1, fun r' c' h' => ?_⟩
    dsimp only
    rw [w₀ r' c' r₀ c₀ h' h₀]
    exact (t₀ r₀ c₀ h₀).2 r' c' h'
  rw [← h1, ← h2] at i₀ c₀
  obtain ⟨tp, lf₀, hg, wd, g1, g2⟩ := mm_RT_of t2₀ c₀ i₀
  refine ⟨tp, lf₀, hg, wd, g1, by rw [h1, h2] at g2; exact g2, ?_⟩
  rw [mm_cl_cq c₀ i₀ g2, h1, h2]
theorem mm_nw_f {S : Nat → Nat → Prop} {M P N : mg_M} {m₀ : Nat} {R C hd₀ : Int} {J₀ : Int → Int → Int} {cn sy wd ht : Int → Int} (f₀ : mm_f S P N) (n1₀ : ∀ k₀, k₀ ≤ 4 ∨ (10 ≤ k₀ ∧ k₀ ≤ 13) → ¬ S m₀ k₀) (n2₀ : ∀ b₀ k₀, b₀ ≠ m₀ → ¬ S b₀ k₀) (n3₀ : ∀ b₀ k₀, S b₀ k₀ → mm_sB m₀ b₀ k₀) (h₀ : mm_nw M P m₀ R C hd₀ J₀ cn sy wd ht) : mm_nw M N m₀ R C hd₀ J₀ cn sy wd ht := by
  obtain ⟨g₀, ⟨h0, h1, h2, h3⟩, k₀, b₀, i₀, c₀, w₀, u₀, v₀, z₀⟩ := h₀
  have e4₀ := mm_f_gi f₀ m₀ 4 (n1₀ 4 (by omega))
  have ei : ∀ r₀ c₀, mi N (m₀ + 1) r₀ c₀ = mi P (m₀ + 1) r₀ c₀ := fun r₀ c₀ => mm_f_gi f₀ (m₀ + 1) _ (n2₀ _ _ (by omega))
  have en : ∀ b₀ k₀, b₀ ≠ m₀ → gi N b₀ k₀ = gi P b₀ k₀ := fun b₀ k₀ q₀ => mm_f_gi f₀ b₀ k₀ (n2₀ b₀ k₀ q₀)
  refine ⟨mm_f_tr g₀ (mm_f_mono f₀ n3₀), ⟨?_, ?_, ?_, ?_⟩, mm_kt_f f₀ (fun k₀ q1₀ q2₀ => n1₀ k₀ (by omega)) (fun b₀ k₀ q1₀ q2₀ => n2₀ b₀ k₀ (by omega)) k₀, by omega, ?_, ?_, ?_, ?_, ?_, ?_⟩
  · rw [mm_f_gi f₀ m₀ 0 (n1₀ _ (by omega))]; exact h0
  · rw [mm_f_gi f₀ m₀ 1 (n1₀ _ (by omega))]; exact h1
  · rw [mm_f_gi f₀ m₀ 2 (n1₀ _ (by omega))]; exact h2
  · rw [mm_f_gi f₀ m₀ 3 (n1₀ _ (by omega))]; exact h3
  · simp only [ei, e4₀]; exact i₀
  · simp only [ei, e4₀]; exact c₀
  · simp only [ei]; exact w₀
  · simp only [ei, en _ _ (show m₀ + 2 ≠ m₀ by omega), en _ _ (show m₀ + 3 ≠ m₀ by omega)]; exact u₀
  · simp only [en _ _ (show m₀ + 4 ≠ m₀ by omega)]; exact v₀
  · simp only [en _ _ (show m₀ + 5 ≠ m₀ by omega)]; exact z₀
/-- startsAnew behind₀ settles -/
theorem cX6_starts {D : mg_D} {l : Launch} (hl : l.stackTraces = false) {M N : mg_M} {m₀ : Nat} {R C hd₀ : Int} {J₀ T L₀ H₀ W₀ : Int → Int → Int} {cn sy wd ht : Int → Int} (st₀ : mm_st M m₀) (hb₀ : (1 ≤ R ∧ R ≤ 12) ∧ (1 ≤ C ∧ C ≤ 10)) (h₀ : mm_nw M N m₀ R C hd₀ J₀ cn sy wd ht) (t₀ : mh_til R C J₀ T L₀ H₀ W₀) : mg_Mt D l 138 [.inr (.inl m₀)] N (fun v₀ P => v₀ = none ∧ mm_nw M P m₀ R C hd₀ J₀ cn sy wd ht ∧ mm_se P m₀ R C T L₀ H₀ W₀) mg_no := by
  obtain ⟨tp, lf₀, hg, wd', g1, g2, g3₀⟩ := mm_nw_rt h₀ t₀
  have h' := h₀
  obtain ⟨f₀, ⟨h0, h1, h2, h3⟩, _, b₀, _⟩ := h'
  refine mg_MtN (cX6_startsAnew hl (mm_f_st f₀ st₀) (by unfold mm_rc; omega) (by omega) (by omega) g1) ?_
  rintro v₀ P ⟨q1₀, q2₀, q3₀, q4₀⟩
  refine ⟨q1₀, mm_nw_f q2₀ (fun k₀ q₀ => by omega) (fun b₀ k₀ q₀ => by omega) (fun b₀ k₀ q₀ => by omega) h₀, q3₀, ?_⟩
  rw [← g3₀]
  exact q4₀
