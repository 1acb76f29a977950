/-! Table₀.become: the table₀ t₀ is₀ a₀ copy₀ of u₀ -/
theorem mh_p6_at {M : mg_M} {a₀ j₀ : Nat} {v0₀ v1₀ v2 v3 v4₀ v5 : Int} {F₀ : Nat → Int} (h0 : v0₀ = F₀ 0) (h1 : v1₀ = F₀ 1) (h2 : v2 = F₀ 2) (h3 : v3 = F₀ 3) (h4 : v4₀ = F₀ 4) (h5 : v5 = F₀ 5) (hj : j₀ < 6) : gi (mg_put6 M a₀ v0₀ v1₀ v2 v3 v4₀ v5) a₀ j₀ = F₀ j₀ := by
  unfold mg_put6
  simp only [gi_si, true_and]
  by_cases x5₀ : j₀ = 5
  · rw [if_pos x5₀, x5₀]; exact h5
  rw [if_neg x5₀]
  by_cases x4₀ : j₀ = 4
  · rw [if_pos x4₀, x4₀]; exact h4
  rw [if_neg x4₀]
  by_cases x3 : j₀ = 3
  · rw [if_pos x3, x3]; exact h3
  rw [if_neg x3]
  by_cases x2₀ : j₀ = 2
  · rw [if_pos x2₀, x2₀]; exact h2
  rw [if_neg x2₀]
  by_cases x1₀ : j₀ = 1
  · rw [if_pos x1₀, x1₀]; exact h1
  rw [if_neg x1₀, if_pos (by omega), show j₀ = 0 by omega]; exact h0
theorem mh_bc_at {M : mg_M} {c₀ d₀ n₀ : Nat} (h₀ : mg_cL M c₀) (hn : n₀ ≤ 120) : ∀ i₀ : Nat, i₀ < n₀ → ∀ j₀ : Nat, j₀ < 6 → gi (mh_bc c₀ d₀ M n₀) (gr M (c₀ + 1) i₀) j₀ = gi M (gr M (d₀ + 1) i₀) j₀ := by
  have g9 := h₀.2.2.2.2.2.2.2.2
  induction n₀ with
  | zero => exact fun i₀ hi => absurd hi (Nat.not_lt_zero i₀)
  | succ n₀ ih₀ =>
    intro i₀ hi j₀ hj
    show gi (mg_put6 (mh_bc c₀ d₀ M n₀) (gr M (c₀ + 1) n₀) (gi M (gr M (d₀ + 1) n₀) 0) (gi M (gr M (d₀ + 1) n₀) 1) (gi M (gr M (d₀ + 1) n₀) 2) (gi M (gr M (d₀ + 1) n₀) 3) (gi M (gr M (d₀ + 1) n₀) 4) (gi M (gr M (d₀ + 1) n₀) 5)) (gr M (c₀ + 1) i₀) j₀ = _
    by_cases x₀ : i₀ = n₀
    · rw [x₀]
      exact mh_p6_at (F₀ := fun j₀ => gi M (gr M (d₀ + 1) n₀) j₀) rfl rfl rfl rfl rfl rfl hj
    · rw [mh_p6_ne (fun e₀ => x₀ (g9 i₀ n₀ (by omega) (by omega) e₀))]
      exact ih₀ (by omega) i₀ (by omega) j₀ hj
def mh_cp (M N : mg_M) (t₀ u₀ : Nat) : Prop := mm_f (fun a₀ _ => t₀ ≤ a₀ ∧ a₀ < t₀ + 127) M N ∧ (gi N t₀ 0 = gi M u₀ 0 ∧ gi N t₀ 1 = gi M u₀ 1 ∧ gi N t₀ 2 = gi M u₀ 2) ∧ (∀ k₀, k₀ < 12 → gi N (t₀ + 1) k₀ = gi M (u₀ + 1) k₀) ∧ (∀ k₀, k₀ < 10 → gi N (t₀ + 2) k₀ = gi M (u₀ + 2) k₀) ∧ (∀ k₀, k₀ < 120 → gi N (t₀ + 126) k₀ = gi M (u₀ + 126) k₀) ∧ gi N (t₀ + 3) 0 = gi M (u₀ + 3) 0 ∧ ∀ i₀ : Nat, (i₀ : Int) < gi M (u₀ + 3) 0 → ∀ j₀ : Nat, j₀ < 6 → gi N (gr M (t₀ + 3 + 1) i₀) j₀ = gi M (gr M (u₀ + 3 + 1) i₀) j₀
set_option maxRecDepth 100000 in
theorem cX4_become2 {D : mg_D} {l : Launch} (hl : l.stackTraces = false) {M : mg_M} {t₀ u₀ : Nat} (ht : mg_tb M t₀) (hu : mg_tb M u₀) (hc₀ : mg_cL M (t₀ + 3)) (hd₀ : mg_cL M (u₀ + 3)) (htu : t₀ + 129 ≤ u₀ ∨ u₀ + 129 ≤ t₀) : mg_Mt D l 42 [.inr (.inl t₀), .inr (.inl u₀)] M (fun v₀ N => v₀ = none ∧ N = mh_bc (t₀ + 3) (u₀ + 3) (mh_bt M t₀ u₀) (gi (mh_bt M t₀ u₀) (u₀ + 3) 0).toNat) mg_no := by
  refine mg_of2 hl ok_X4_become al_X4_become rfl (fun K hK₀ => ?_)
  obtain ⟨⟨g1, g2, g3₀, g4, g5₀, g6, g7⟩, ⟨⟨b1, b2⟩, ⟨b3, b4⟩, ⟨b5, b6⟩, ⟨b7, b8⟩, b9, b10⟩, d1₀⟩ := ht
  obtain ⟨⟨G1, G2, G3, G4, G5, G6, G7⟩, ⟨⟨B1, B2⟩, ⟨B3, B4⟩, ⟨B5, B6⟩, ⟨B7, B8⟩, B9, B10⟩, D1⟩ := hu
  refine hK₀ _ _ _ _ _ ?_
  (repeat' (((conv => whnf); first | (show (_ : Option mg_V) = _ ∧ _; assumption) | (show K _ _ _ _ _; assumption) | (show mm_th _ _ _ _; assumption) | refine And.intro (by first | omega | (simp only [kd_si, ln_si, gr_si, kd_cpy, ln_cpy, gr_cpy, g2, g3₀, g4, g5₀, G2, G3, G4, G5, b1, b2, b3, b4, b5, b6, B1, B2, B3, B4, B5, B6, true_and]; first | done | omega)) ?_ | (refine And.intro (fun _ => ?_) (fun _ => ?_) <;> first | (exfalso; omega) | skip) | intro _ | fail)))
  (conv => whnf)
  have hut : ¬ (u₀ = t₀) := by omega
  have q1₀ : mg_cL (mh_bt M t₀ u₀) (t₀ + 3) := mh_bt_cL hc₀ (by omega) (by omega) (by omega) (by omega)
  have q2₀ : mg_cL (mh_bt M t₀ u₀) (u₀ + 3) := mh_bt_cL hd₀ (by omega) (by omega) (by omega) (by omega)
  simp only [kd_si, ln_si, gr_si, kd_cpy, ln_cpy, gr_cpy, g2, g3₀, g4, g5₀, G2, G3, G4, G5, b1, b2, b3, b4, b5, b6, B1, B2, B3, B4, B5, B6, true_and, gi_si, hut, false_and, if_false]
  refine And.intro hc₀.1 ?_
  (conv => whnf)
  refine Exists.intro _ (Exists.intro _ (And.intro (cX3_become (M := mh_bt M t₀ u₀) hl q1₀ q2₀ (by omega)) (And.intro ?_ (fun _ _ h₀ => h₀.elim))))
  rintro _ _ ⟨rfl, e₀⟩
  (conv => whnf)
  exact And.intro rfl e₀
theorem cX4_becomeC {D : mg_D} {l : Launch} (hl : l.stackTraces = false) {M : mg_M} {t₀ u₀ : Nat} (ht : mg_tb M t₀) (hu : mg_tb M u₀) (hc₀ : mg_cL M (t₀ + 3)) (hd₀ : mg_cL M (u₀ + 3)) (htu : t₀ + 129 ≤ u₀ ∨ u₀ + 129 ≤ t₀) : mg_Mt D l 42 [.inr (.inl t₀), .inr (.inl u₀)] M (fun v₀ N => v₀ = none ∧ mh_cp M N t₀ u₀) mg_no := by
  refine mg_MtN (cX4_become2 hl ht hu hc₀ hd₀ htu) ?_
  rintro v₀ N ⟨q₀, hN₀⟩
  have z₀ := hd₀.2.2.2.2.2.2.1
  have cb := hc₀.2.2.2.2.2.2.2.1
  have db := hd₀.2.2.2.2.2.2.2.1
  have bt₀ : ∀ a₀ k₀, gi (mh_bt M t₀ u₀) a₀ k₀ = if a₀ = t₀ + 126 ∧ k₀ < 120 then gi M (u₀ + 126) k₀ else if a₀ = t₀ + 2 ∧ k₀ < 10 then gi M (u₀ + 2) k₀ else if a₀ = t₀ + 1 ∧ k₀ < 12 then gi M (u₀ + 1) k₀ else if a₀ = t₀ ∧ k₀ = 2 then gi M u₀ 2 else if a₀ = t₀ ∧ k₀ = 1 then gi M u₀ 1 else if a₀ = t₀ ∧ k₀ = 0 then gi M u₀ 0 else gi M a₀ k₀ := by
    intro a₀ k₀
    unfold mh_bt
    simp only [gi_cpy, gi_si]
    (repeat' split) <;> first | rfl | omega
  have out₀ : ∀ a₀ k₀, a₀ < t₀ ∨ t₀ + 127 ≤ a₀ → gi (mh_bt M t₀ u₀) a₀ k₀ = gi M a₀ k₀ := by
    intro a₀ k₀ h₀
    rw [bt₀]
    (repeat' split) <;> first | rfl | omega
  have cel : ∀ a₀ k₀, t₀ + 3 ≤ a₀ → a₀ < t₀ + 126 → gi (mh_bt M t₀ u₀) a₀ k₀ = gi M a₀ k₀ := by
    intro a₀ k₀ h1 h2
    rw [bt₀]
    (repeat' split) <;> first | rfl | omega
  have cB₀ : mg_cL (mh_bt M t₀ u₀) (t₀ + 3) := mh_bt_cL hc₀ (by omega) (by omega) (by omega) (by omega)
  have e0₀ : gi (mh_bt M t₀ u₀) (u₀ + 3) 0 = gi M (u₀ + 3) 0 := out₀ _ _ (by omega)
  have rr : ∀ a₀ k₀, gr (mh_bt M t₀ u₀) a₀ k₀ = gr M a₀ k₀ := fun _ _ => rfl
  rw [e0₀] at hN₀
  have at1₀ := @mh_bc_at (mh_bt M t₀ u₀) (t₀ + 3) (u₀ + 3) (gi M (u₀ + 3) 0).toNat cB₀ (by omega)
  obtain ⟨f1₀, f2₀, f3₀, f4₀, f5₀, f6₀, f7₀, f8₀⟩ := @mh_bc_fr (mh_bt M t₀ u₀) (t₀ + 3) (u₀ + 3) (gi M (u₀ + 3) 0).toNat cB₀ (by omega)
  rw [← hN₀] at at1₀ f1₀ f2₀ f3₀ f4₀ f5₀ f6₀ f7₀ f8₀
  simp only [rr] at at1₀
  refine ⟨q₀, ⟨fun a₀ => (f1₀ a₀).trans rfl, fun a₀ => (f2₀ a₀).trans rfl, fun a₀ k₀ => (f3₀ a₀ k₀).trans rfl, f5₀.trans rfl, fun a₀ k₀ => (f6₀ a₀ k₀).trans rfl, fun a₀ k₀ => (f7₀ a₀ k₀).trans rfl, fun a₀ k₀ => ?_⟩, ⟨?_, ?_, ?_⟩, fun k₀ hk => ?_, fun k₀ hk => ?_, fun k₀ hk => ?_, ?_, fun i₀ hi j₀ hj => ?_⟩
  · by_cases x₀ : t₀ ≤ a₀ ∧ a₀ < t₀ + 127
    · exact Or.inl x₀
    · exact Or.inr ((f4₀ a₀ k₀ (by omega) (by omega)).trans (out₀ a₀ k₀ (by omega)))
  · rw [f4₀ t₀ 0 (by omega) (by omega), bt₀]
    (repeat' split) <;> first | rfl | omega
  · rw [f4₀ t₀ 1 (by omega) (by omega), bt₀]
    (repeat' split) <;> first | rfl | omega
  · rw [f4₀ t₀ 2 (by omega) (by omega), bt₀]
    (repeat' split) <;> first | rfl | omega
  · rw [f4₀ (t₀ + 1) k₀ (by omega) (by omega), bt₀]
    (repeat' split) <;> first | rfl | omega
  · rw [f4₀ (t₀ + 2) k₀ (by omega) (by omega), bt₀]
    (repeat' split) <;> first | rfl | omega
  · rw [f4₀ (t₀ + 126) k₀ (by omega) (by omega), bt₀]
    (repeat' split) <;> first | rfl | omega
  · rw [f8₀, if_pos rfl]
    exact e0₀
  · rw [at1₀ i₀ (by omega) j₀ hj]
    have := db i₀ (by omega)
    exact out₀ _ _ (by omega)
/-- the copy₀ is₀ a₀ tiled table₀ like₀ its model -/
theorem mh_cp_tl {M N : mg_M} {t₀ u₀ : Nat} (h₀ : mh_cp M N t₀ u₀) (tb₀ : mg_tb M t₀) (cl₀ : mg_cL M (t₀ + 3)) (tl : mh_tl M u₀) (nb : mh_nb M u₀) : (mh_tl N t₀ ∧ mh_nb N t₀) ∧ (∀ p₀ q₀, mh_rg (gi M u₀ 0) (gi M u₀ 1) p₀ q₀ → mh_at N t₀ p₀ q₀ = mh_at M u₀ p₀ q₀ ∧ ∀ j₀ : Nat, j₀ < 6 → gi N (mh_co N t₀ p₀ q₀) j₀ = gi M (mh_co M u₀ p₀ q₀) j₀) := by
  obtain ⟨f₀, ⟨s0₀, s1₀, s2₀⟩, h1, h2, h3, h4, h5⟩ := h₀
  have bu := tl.1.2.2
  have z₀ := tl.2.1.2.2.2.2.2.2.1
  have at1₀ : ∀ p₀ q₀, mh_rg (gi M u₀ 0) (gi M u₀ 1) p₀ q₀ → mh_at N t₀ p₀ q₀ = mh_at M u₀ p₀ q₀ := fun p₀ q₀ h₀ => h3 _ (by omega)
  have cvs : ∀ i₀ : Nat, (i₀ : Int) < gi M (u₀ + 3) 0 → ∀ p₀ q₀, mh_cv N t₀ i₀ p₀ q₀ ↔ mh_cv M u₀ i₀ p₀ q₀ := by
    intro i₀ hi p₀ q₀
    unfold mh_cv
    rw [f₀.2.2.1, h5 i₀ hi 0 (by omega), h5 i₀ hi 1 (by omega), h5 i₀ hi 2 (by omega), h5 i₀ hi 3 (by omega)]
  have tbN₀ : mg_tb N t₀ := by
    have kk := f₀.1
    have ll := f₀.2.1
    have rr := f₀.2.2.1
    unfold mg_tb at *
    simp only [kk, ll, rr, s0₀, s1₀, s2₀]
    exact ⟨tb₀.1, tb₀.2.1, bu⟩
  have clN : mg_cL N (t₀ + 3) := by
    have kk := f₀.1
    have ll := f₀.2.1
    have rr := f₀.2.2.1
    unfold mg_cL at *
    simp only [kk, ll, rr, h4]
    exact ⟨cl₀.1, cl₀.2.1, cl₀.2.2.1, cl₀.2.2.2.1, cl₀.2.2.2.2.1, cl₀.2.2.2.2.2.1, z₀, cl₀.2.2.2.2.2.2.2⟩
  have okN : ∀ i₀ : Nat, (i₀ : Int) < gi N (t₀ + 3) 0 → mh_ok N t₀ i₀ := by
    intro i₀ hi
    rw [h4] at hi
    have o := tl.2.2.1 i₀ hi
    unfold mh_ok at *
    rw [f₀.2.2.1, h5 i₀ hi 0 (by omega), h5 i₀ hi 1 (by omega), h5 i₀ hi 2 (by omega), h5 i₀ hi 3 (by omega), s0₀, s1₀]
    exact o
  have inr : ∀ i₀ : Nat, (i₀ : Int) < gi M (u₀ + 3) 0 → ∀ p₀ q₀, mh_cv M u₀ i₀ p₀ q₀ → mh_rg (gi M u₀ 0) (gi M u₀ 1) p₀ q₀ := by
    intro i₀ hi p₀ q₀ w₀
    have o := tl.2.2.1 i₀ hi
    unfold mh_ok at o
    unfold mh_cv at w₀
    omega
  have nbN : mh_nb N t₀ := by
    intro p₀ q₀ a1₀ a2 a3 a4
    rw [at1₀ p₀ q₀ (by omega)]
    exact nb p₀ q₀ a1₀ (by omega) a3 (by omega)
  have tlN : mh_tl N t₀ := by
    refine ⟨tbN₀, clN, okN, fun i₀ hi p₀ q₀ w₀ => ?_, fun p₀ q₀ a1₀ a2 a3 a4 => Or.inr ?_⟩
    · rw [h4] at hi
      have w' := (cvs i₀ hi p₀ q₀).1 w₀
      rw [at1₀ p₀ q₀ (inr i₀ hi p₀ q₀ w')]
      exact tl.2.2.2.1 i₀ hi p₀ q₀ w'
    · obtain ⟨i₀, hi, w₀, _⟩ := @mh_tl_ow M u₀ p₀ q₀ tl (by omega) (by omega) (nb p₀ q₀ a1₀ (by omega) a3 (by omega))
      exact ⟨i₀, by omega, (cvs i₀ hi p₀ q₀).2 w₀⟩
  refine ⟨⟨tlN, nbN⟩, fun p₀ q₀ h₀ => ⟨at1₀ p₀ q₀ h₀, fun j₀ hj => ?_⟩⟩
  obtain ⟨i₀, hi, w₀, _⟩ := @mh_tl_ow M u₀ p₀ q₀ tl h₀.1 h₀.2 (nb p₀ q₀ h₀.1.1 h₀.1.2 h₀.2.1 h₀.2.2)
  have e₀ := tl.2.2.2.1 i₀ hi p₀ q₀ w₀
  rw [mh_co_at h₀ e₀, mh_co_at (by rw [s0₀, s1₀]; exact h₀) ((at1₀ p₀ q₀ h₀).trans e₀), f₀.2.2.1]
  exact h5 i₀ hi j₀ hj
