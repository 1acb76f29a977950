abbrev mh_wc (M N : mg_M) (t₀ b₀ : Nat) (r₀ c₀ : Int) : Prop := mh_wn (gi N b₀ 0) (gi N b₀ 2) (gi N b₀ 1) (gi N b₀ 3) (gi M (mh_co M t₀ r₀ c₀) 0) (gi M (mh_co M t₀ r₀ c₀) 1) (gi M (mh_co M t₀ r₀ c₀) 2) (gi M (mh_co M t₀ r₀ c₀) 3)
theorem mh_wc_sa {M N P : mg_M} {t₀ b₀ : Nat} {r₀ c₀ : Int} (s₀ : mh_sa N P b₀) (h₀ : mh_wc M P t₀ b₀ r₀ c₀) : mh_wc M N t₀ b₀ r₀ c₀ := by
  unfold mh_sa at s₀
  unfold mh_wc at h₀ ⊢
  rw [s₀.1, s₀.2.1, s₀.2.2.1, s₀.2.2.2] at h₀
  exact h₀
theorem mh_gz_co {M N : mg_M} {t₀ b₀ : Nat} {r₀ c₀ : Int} (tl : mh_tl M t₀) (nb : mh_nb M t₀) (hb₀ : kd M b₀ = 1) (g₀ : mh_gz M N t₀ b₀) (hin : (gi N b₀ 0 ≤ r₀ ∧ r₀ ≤ gi N b₀ 2) ∧ gi N b₀ 1 ≤ c₀ ∧ c₀ ≤ gi N b₀ 3) : mh_gz M (mh_tk N b₀ (mh_co M t₀ r₀ c₀)) t₀ b₀ ∧ mh_le N (mh_tk N b₀ (mh_co M t₀ r₀ c₀)) b₀ ∧ (mh_sa N (mh_tk N b₀ (mh_co M t₀ r₀ c₀)) b₀ → mh_wc M N t₀ b₀ r₀ c₀) := by
  have ar := g₀.2.1
  unfold mh_ar at ar
  have g1 := tl.1.1.1
  have nt : t₀ ≠ b₀ := fun e₀ => by rw [e₀] at g1; omega
  rw [g₀.1.2.2.2.2.2.2 t₀ 0 nt, g₀.1.2.2.2.2.2.2 t₀ 1 nt] at ar
  obtain ⟨i₀, hi, w₀, e₀⟩ := @mh_tl_ow M t₀ r₀ c₀ tl (by omega) (by omega) (nb r₀ c₀ (by omega) (by omega) (by omega) (by omega))
  have eo := tl.2.2.2.1 i₀ hi r₀ c₀ w₀
  have ec := mh_co_at (M := M) (t₀ := t₀) (j₀ := i₀) (p₀ := r₀) (q₀ := c₀) (by omega) eo
  unfold mh_wc
  rw [ec]
  unfold mh_cv at w₀
  exact mh_gz1 tl hb₀ g₀ hi (by omega)
theorem mh_le_rfl {N : mg_M} {b₀ : Nat} : mh_le N N b₀ := by unfold mh_le; omega
theorem mh_gz_bw {M : mg_M} {t₀ b₀ : Nat} {x₀ y₀ : Int} (tl : mh_tl M t₀) (nb : mh_nb M t₀) (hb₀ : kd M b₀ = 1) (n₀ : Nat) : ∀ (r₀ : Int) (N : mg_M), mh_gz M N t₀ b₀ → (gi N b₀ 0 ≤ r₀ ∧ r₀ + n₀ - 1 ≤ gi N b₀ 2) → (gi N b₀ 1 ≤ x₀ ∧ x₀ ≤ gi N b₀ 3) → (gi N b₀ 1 ≤ y₀ ∧ y₀ ≤ gi N b₀ 3) → mh_gz M (mh_bw t₀ b₀ M x₀ y₀ n₀ r₀ N) t₀ b₀ ∧ mh_le N (mh_bw t₀ b₀ M x₀ y₀ n₀ r₀ N) b₀ ∧ (mh_sa N (mh_bw t₀ b₀ M x₀ y₀ n₀ r₀ N) b₀ → ∀ k₀, r₀ ≤ k₀ → k₀ < r₀ + n₀ → mh_wc M N t₀ b₀ k₀ x₀ ∧ mh_wc M N t₀ b₀ k₀ y₀) := by
  induction n₀ with
  | zero => exact fun r₀ N g₀ _ _ _ => ⟨g₀, mh_le_rfl, fun _ k₀ k0₀ k1₀ => by omega⟩
  | succ n₀ ih₀ =>
    intro r₀ N g₀ hr hx hy
    obtain ⟨a1₀, a2, a3⟩ := mh_gz_co (r₀ := r₀) (c₀ := x₀) tl nb hb₀ g₀ (by omega)
    have a4 := a2
    unfold mh_le at a4
    show mh_gz M (mh_bw t₀ b₀ M x₀ y₀ n₀ (r₀ + 1) (mh_tk (mh_tk N b₀ (mh_co M t₀ r₀ x₀)) b₀ (mh_co M t₀ r₀ y₀))) t₀ b₀ ∧ mh_le N (mh_bw t₀ b₀ M x₀ y₀ n₀ (r₀ + 1) (mh_tk (mh_tk N b₀ (mh_co M t₀ r₀ x₀)) b₀ (mh_co M t₀ r₀ y₀))) b₀ ∧ (mh_sa N (mh_bw t₀ b₀ M x₀ y₀ n₀ (r₀ + 1) (mh_tk (mh_tk N b₀ (mh_co M t₀ r₀ x₀)) b₀ (mh_co M t₀ r₀ y₀))) b₀ → _)
    generalize mh_tk N b₀ (mh_co M t₀ r₀ x₀) = P at *
    obtain ⟨c1₀, c2₀, c3₀⟩ := mh_gz_co (r₀ := r₀) (c₀ := y₀) tl nb hb₀ a1₀ (by omega)
    have c4₀ := c2₀
    unfold mh_le at c4₀
    generalize mh_tk P b₀ (mh_co M t₀ r₀ y₀) = Q₀ at *
    obtain ⟨d1₀, d2₀, d3₀⟩ := ih₀ (r₀ + 1) Q₀ c1₀ (by omega) (by omega) (by omega)
    generalize mh_bw t₀ b₀ M x₀ y₀ n₀ (r₀ + 1) Q₀ = S9 at *
    refine ⟨d1₀, mh_le_tr a2 (mh_le_tr c2₀ d2₀), fun s₀ k₀ k0₀ k1₀ => ?_⟩
    obtain ⟨s1₀, s2₀⟩ := mh_sa_mid a2 (mh_le_tr c2₀ d2₀) s₀
    obtain ⟨s3₀, s4₀⟩ := mh_sa_mid c2₀ d2₀ s2₀
    by_cases z₀ : k₀ = r₀
    · rw [z₀]
      exact ⟨a3 s1₀, mh_wc_sa s1₀ (c3₀ s3₀)⟩
    · have w₀ := d3₀ s4₀ k₀ (by omega) (by omega)
      exact ⟨mh_wc_sa s1₀ (mh_wc_sa s3₀ w₀.1), mh_wc_sa s1₀ (mh_wc_sa s3₀ w₀.2)⟩
theorem mh_gz_bh {M : mg_M} {t₀ b₀ : Nat} {x₀ y₀ : Int} (tl : mh_tl M t₀) (nb : mh_nb M t₀) (hb₀ : kd M b₀ = 1) (n₀ : Nat) : ∀ (r₀ : Int) (N : mg_M), mh_gz M N t₀ b₀ → (gi N b₀ 1 ≤ r₀ ∧ r₀ + n₀ - 1 ≤ gi N b₀ 3) → (gi N b₀ 0 ≤ x₀ ∧ x₀ ≤ gi N b₀ 2) → (gi N b₀ 0 ≤ y₀ ∧ y₀ ≤ gi N b₀ 2) → mh_gz M (mh_bh t₀ b₀ M x₀ y₀ n₀ r₀ N) t₀ b₀ ∧ mh_le N (mh_bh t₀ b₀ M x₀ y₀ n₀ r₀ N) b₀ ∧ (mh_sa N (mh_bh t₀ b₀ M x₀ y₀ n₀ r₀ N) b₀ → ∀ k₀, r₀ ≤ k₀ → k₀ < r₀ + n₀ → mh_wc M N t₀ b₀ x₀ k₀ ∧ mh_wc M N t₀ b₀ y₀ k₀) := by
  induction n₀ with
  | zero => exact fun r₀ N g₀ _ _ _ => ⟨g₀, mh_le_rfl, fun _ k₀ k0₀ k1₀ => by omega⟩
  | succ n₀ ih₀ =>
    intro r₀ N g₀ hr hx hy
    obtain ⟨a1₀, a2, a3⟩ := mh_gz_co (r₀ := x₀) (c₀ := r₀) tl nb hb₀ g₀ (by omega)
    have a4 := a2
    unfold mh_le at a4
    show mh_gz M (mh_bh t₀ b₀ M x₀ y₀ n₀ (r₀ + 1) (mh_tk (mh_tk N b₀ (mh_co M t₀ x₀ r₀)) b₀ (mh_co M t₀ y₀ r₀))) t₀ b₀ ∧ mh_le N (mh_bh t₀ b₀ M x₀ y₀ n₀ (r₀ + 1) (mh_tk (mh_tk N b₀ (mh_co M t₀ x₀ r₀)) b₀ (mh_co M t₀ y₀ r₀))) b₀ ∧ (mh_sa N (mh_bh t₀ b₀ M x₀ y₀ n₀ (r₀ + 1) (mh_tk (mh_tk N b₀ (mh_co M t₀ x₀ r₀)) b₀ (mh_co M t₀ y₀ r₀))) b₀ → _)
    generalize mh_tk N b₀ (mh_co M t₀ x₀ r₀) = P at *
    obtain ⟨c1₀, c2₀, c3₀⟩ := mh_gz_co (r₀ := y₀) (c₀ := r₀) tl nb hb₀ a1₀ (by omega)
    have c4₀ := c2₀
    unfold mh_le at c4₀
    generalize mh_tk P b₀ (mh_co M t₀ y₀ r₀) = Q₀ at *
    obtain ⟨d1₀, d2₀, d3₀⟩ := ih₀ (r₀ + 1) Q₀ c1₀ (by omega) (by omega) (by omega)
    generalize mh_bh t₀ b₀ M x₀ y₀ n₀ (r₀ + 1) Q₀ = S9 at *
    refine ⟨d1₀, mh_le_tr a2 (mh_le_tr c2₀ d2₀), fun s₀ k₀ k0₀ k1₀ => ?_⟩
    obtain ⟨s1₀, s2₀⟩ := mh_sa_mid a2 (mh_le_tr c2₀ d2₀) s₀
    obtain ⟨s3₀, s4₀⟩ := mh_sa_mid c2₀ d2₀ s2₀
    by_cases z₀ : k₀ = r₀
    · rw [z₀]
      exact ⟨a3 s1₀, mh_wc_sa s1₀ (c3₀ s3₀)⟩
    · have w₀ := d3₀ s4₀ k₀ (by omega) (by omega)
      exact ⟨mh_wc_sa s1₀ (mh_wc_sa s3₀ w₀.1), mh_wc_sa s1₀ (mh_wc_sa s3₀ w₀.2)⟩
theorem mh_bw_b {M N : mg_M} {t₀ b₀ : Nat} {x₀ y₀ : Int} (e₀ : ∀ r₀ c₀, mh_co N t₀ r₀ c₀ = mh_co M t₀ r₀ c₀) (n₀ : Nat) : ∀ (r₀ : Int) (P : mg_M), mh_bw t₀ b₀ N x₀ y₀ n₀ r₀ P = mh_bw t₀ b₀ M x₀ y₀ n₀ r₀ P := by
  induction n₀ with
  | zero => exact fun _ _ => rfl
  | succ n₀ ih₀ =>
    intro r₀ P
    show mh_bw t₀ b₀ N x₀ y₀ n₀ (r₀ + 1) (mh_tk (mh_tk P b₀ (mh_co N t₀ r₀ x₀)) b₀ (mh_co N t₀ r₀ y₀)) = mh_bw t₀ b₀ M x₀ y₀ n₀ (r₀ + 1) (mh_tk (mh_tk P b₀ (mh_co M t₀ r₀ x₀)) b₀ (mh_co M t₀ r₀ y₀))
    rw [ih₀, e₀, e₀]
theorem mh_bh_b {M N : mg_M} {t₀ b₀ : Nat} {x₀ y₀ : Int} (e₀ : ∀ r₀ c₀, mh_co N t₀ r₀ c₀ = mh_co M t₀ r₀ c₀) (n₀ : Nat) : ∀ (r₀ : Int) (P : mg_M), mh_bh t₀ b₀ N x₀ y₀ n₀ r₀ P = mh_bh t₀ b₀ M x₀ y₀ n₀ r₀ P := by
  induction n₀ with
  | zero => exact fun _ _ => rfl
  | succ n₀ ih₀ =>
    intro r₀ P
    show mh_bh t₀ b₀ N x₀ y₀ n₀ (r₀ + 1) (mh_tk (mh_tk P b₀ (mh_co N t₀ x₀ r₀)) b₀ (mh_co N t₀ y₀ r₀)) = mh_bh t₀ b₀ M x₀ y₀ n₀ (r₀ + 1) (mh_tk (mh_tk P b₀ (mh_co M t₀ x₀ r₀)) b₀ (mh_co M t₀ y₀ r₀))
    rw [ih₀, e₀, e₀]
theorem mh_gz_bo {M N : mg_M} {t₀ b₀ : Nat} (tl : mh_tl M t₀) (nb : mh_nb M t₀) (hb₀ : kd M b₀ = 1) (g₀ : mh_gz M N t₀ b₀) : mh_gz M (mh_bo t₀ b₀ N) t₀ b₀ ∧ mh_le N (mh_bo t₀ b₀ N) b₀ ∧ (mh_sa N (mh_bo t₀ b₀ N) b₀ → mh_cc M t₀ (gi (mh_bo t₀ b₀ N) b₀ 0) (gi (mh_bo t₀ b₀ N) b₀ 2) (gi (mh_bo t₀ b₀ N) b₀ 1) (gi (mh_bo t₀ b₀ N) b₀ 3)) := by
  have eco := (mh_fx_tl g₀.1 hb₀ tl).2.2.1
  have ar := g₀.2.1
  unfold mh_ar at ar
  have g1 := tl.1.1.1
  have nt : t₀ ≠ b₀ := fun e₀ => by rw [e₀] at g1; omega
  rw [g₀.1.2.2.2.2.2.2 t₀ 0 nt, g₀.1.2.2.2.2.2.2 t₀ 1 nt] at ar
  have ebo : mh_bo t₀ b₀ N = mh_bh t₀ b₀ M (gi N b₀ 0) (gi N b₀ 2) (gi N b₀ 3 - gi N b₀ 1 + 1).toNat (gi N b₀ 1) (mh_bw t₀ b₀ M (gi N b₀ 1) (gi N b₀ 3) (gi N b₀ 2 - gi N b₀ 0 + 1).toNat (gi N b₀ 0) N) := by
    unfold mh_bo
    rw [mh_bh_b eco, mh_bw_b eco]
  rw [ebo]
  clear ebo
  obtain ⟨a1₀, a2, a3⟩ := mh_gz_bw (x₀ := gi N b₀ 1) (y₀ := gi N b₀ 3) tl nb hb₀ (gi N b₀ 2 - gi N b₀ 0 + 1).toNat (gi N b₀ 0) N g₀ (by omega) (by omega) (by omega)
  generalize mh_bw t₀ b₀ M (gi N b₀ 1) (gi N b₀ 3) (gi N b₀ 2 - gi N b₀ 0 + 1).toNat (gi N b₀ 0) N = P at *
  have a4 := a2
  unfold mh_le at a4
  obtain ⟨c1₀, c2₀, c3₀⟩ := mh_gz_bh (x₀ := gi N b₀ 0) (y₀ := gi N b₀ 2) tl nb hb₀ (gi N b₀ 3 - gi N b₀ 1 + 1).toNat (gi N b₀ 1) P a1₀ (by omega) (by omega) (by omega)
  generalize mh_bh t₀ b₀ M (gi N b₀ 0) (gi N b₀ 2) (gi N b₀ 3 - gi N b₀ 1 + 1).toNat (gi N b₀ 1) P = Q₀ at *
  refine ⟨c1₀, mh_le_tr a2 c2₀, fun s₀ i₀ hi hm₀ => ?_⟩
  obtain ⟨s1₀, s2₀⟩ := mh_sa_mid a2 c2₀ s₀
  have A₀ := a3 s1₀
  have C := c3₀ s2₀
  have own₀ := tl.2.2.2.1
  have o := tl.2.2.1 i₀ hi
  unfold mh_ok at o
  -- a₀ square of the cell₀ on the border: its cell₀ is₀ within₀
  have W₀ : ∀ r₀ c₀, (gi N b₀ 0 ≤ r₀ ∧ r₀ ≤ gi N b₀ 2) ∧ (gi N b₀ 1 ≤ c₀ ∧ c₀ ≤ gi N b₀ 3) → mh_cv M t₀ i₀ r₀ c₀ → mh_wc M N t₀ b₀ r₀ c₀ → mh_wn (gi N b₀ 0) (gi N b₀ 2) (gi N b₀ 1) (gi N b₀ 3) (gi M (gr M (t₀ + 3 + 1) i₀) 0) (gi M (gr M (t₀ + 3 + 1) i₀) 1) (gi M (gr M (t₀ + 3 + 1) i₀) 2) (gi M (gr M (t₀ + 3 + 1) i₀) 3) := by
    intro r₀ c₀ h1 h2 h3
    have ec := mh_co_at (M := M) (t₀ := t₀) (j₀ := i₀) (p₀ := r₀) (q₀ := c₀) (by omega) (own₀ i₀ hi r₀ c₀ h2)
    unfold mh_wc at h3
    rw [ec] at h3
    exact h3
  have s' := s₀
  unfold mh_sa at s'
  rw [s'.1, s'.2.1, s'.2.2.1, s'.2.2.2] at hm₀ ⊢
  refine Classical.byContradiction (fun nw => ?_)
  have U₀ : ∀ r₀ c₀, (gi N b₀ 0 ≤ r₀ ∧ r₀ ≤ gi N b₀ 2) ∧ (gi N b₀ 1 ≤ c₀ ∧ c₀ ≤ gi N b₀ 3) → mh_cv M t₀ i₀ r₀ c₀ → (r₀ = gi N b₀ 0 ∨ r₀ = gi N b₀ 2 ∨ c₀ = gi N b₀ 1 ∨ c₀ = gi N b₀ 3) → False := by
    intro r₀ c₀ h1 h2 h3
    refine nw (W₀ r₀ c₀ h1 h2 ?_)
    rcases h3 with h₀ | h₀ | h₀ | h₀
    · rw [h₀]; exact mh_wc_sa s1₀ (C c₀ (by omega) (by omega)).1
    · rw [h₀]; exact mh_wc_sa s1₀ (C c₀ (by omega) (by omega)).2
    · rw [h₀]; exact (A₀ r₀ (by omega) (by omega)).1
    · rw [h₀]; exact (A₀ r₀ (by omega) (by omega)).2
  clear A₀ C W₀ a3 c3₀
  unfold mh_cv at U₀
  generalize gi M (gr M (t₀ + 3 + 1) i₀) 0 = T at *
  generalize gi M (gr M (t₀ + 3 + 1) i₀) 1 = L₀ at *
  generalize gi M (gr M (t₀ + 3 + 1) i₀) 2 = H₀ at *
  generalize gi M (gr M (t₀ + 3 + 1) i₀) 3 = W₀ at *
  generalize gi N b₀ 0 = f₀ at *
  generalize gi N b₀ 1 = a₀ at *
  generalize gi N b₀ 2 = e₀ at *
  generalize gi N b₀ 3 = d₀ at *
  by_cases n1₀ : T < f₀
  · exact U₀ f₀ (max a₀ L₀) (by omega) (by omega) (Or.inl rfl)
  by_cases n2₀ : e₀ < T + H₀ - 1
  · exact U₀ e₀ (max a₀ L₀) (by omega) (by omega) (Or.inr (Or.inl rfl))
  by_cases n3₀ : L₀ < a₀
  · exact U₀ (max f₀ T) a₀ (by omega) (by omega) (Or.inr (Or.inr (Or.inl rfl)))
  by_cases n4₀ : d₀ < L₀ + W₀ - 1
  · exact U₀ (max f₀ T) d₀ (by omega) (by omega) (Or.inr (Or.inr (Or.inr rfl)))
  exact nw (by omega)
theorem cX4_growHullB {D : mg_D} {l : Launch} (hl : l.stackTraces = false) {M : mg_M} {t₀ b₀ : Nat} (tl : mh_tl M t₀) (nb : mh_nb M t₀) (hb₀ : kd M b₀ = 1) (har : mh_ar M t₀ b₀) : mg_Mt D l 62 [.inr (.inl t₀), .inr (.inl b₀)] M (fun v₀ N => v₀ = none ∧ mh_hl M N t₀ b₀) mg_no := by
  have g1 := tl.1.1.1
  have nt : t₀ ≠ b₀ := fun e₀ => by rw [e₀] at g1; omega
  refine mg_MtN (cX4_growByBorders hl tl nb hb₀ har) ?_
  rintro v₀ N ⟨e₀, rfl⟩
  have s1₀ := mh_sq1 har
  obtain ⟨w1₀, w2₀⟩ := mh_gpass (F₀ := fun N => mh_bo t₀ b₀ N) (cl₀ := fun N => mh_cc M t₀ (gi N b₀ 0) (gi N b₀ 2) (gi N b₀ 1) (gi N b₀ 3)) (G := mh_gb t₀ b₀) tl.1 nt (fun _ _ => rfl) (fun _ _ _ => rfl) (fun N g₀ => mh_gz_bo tl nb hb₀ g₀) 22 0 M (mh_gz0 har) (Or.inl s1₀) (fun _ => by unfold mh_ar at har; omega)
  exact ⟨e₀, mh_hl_of w1₀ w2₀⟩
