theorem mm_arf {M : mg_M} {m₀ k₀ o n₀ : Nat} (h₀ : mm_ar M m₀ k₀ o n₀) (ho : 0 < o) : gr M m₀ k₀ = m₀ + o ∧ gr M m₀ k₀ ≠ 0 ∧ kd M (gr M m₀ k₀) = 8 ∧ ln M (gr M m₀ k₀) = n₀ := by
  obtain ⟨h1, h2, h3⟩ := h₀
  rw [h1]
  exact ⟨rfl, by omega, h2, h3⟩
set_option maxRecDepth 100000 in
theorem mm_laysD {D : mg_D} {l : Launch} (hl : l.stackTraces = false) {No : mg_O} {K : mg_K} (hK₀ : ∀ (pc : Nat) (ls : mg_L) (st₀ : List mg_V) (M : mg_M) (B₀ : Nat), mg_ev mc_X6_lays (mg_Mt D l) No mg_no K 1000 false pc ls st₀ M B₀ → K pc ls st₀ M B₀) {M Y : mg_M} {m₀ : Nat} {R C hd₀ : Int} {J₀ : Int → Int → Int} {cn sy wd ht : Int → Int} (stY : mm_st Y m₀) (hQ : ∀ P, mm_nw M P m₀ R C hd₀ J₀ cn sy wd ht → No none P) (hp : ∀ Z₀, mm_f (fun b₀ _ => b₀ = m₀ + 2 ∨ b₀ = m₀ + 3) Y Z₀ → (∀ k₀ : Nat, k₀ < 120 → gi Z₀ (m₀ + 2) k₀ = gi Y (m₀ + 16) k₀ ∧ gi Z₀ (m₀ + 3) k₀ = gi Y (m₀ + 12) k₀) → mm_pre M Z₀ m₀ R C hd₀ J₀ cn sy wd ht) : K 223 [(0, Sum.inr (Sum.inl m₀)), (1, Sum.inl 0)] [] Y 0 := by
  refine mh_for (P := fun j₀ Z₀ => mm_f (fun b₀ _ => b₀ = m₀ + 2 ∨ b₀ = m₀ + 3) Y Z₀ ∧ ∀ k₀ : Nat, (k₀ : Int) < j₀ → k₀ < 120 → gi Z₀ (m₀ + 2) k₀ = gi Y (m₀ + 16) k₀ ∧ gi Z₀ (m₀ + 3) k₀ = gi Y (m₀ + 12) k₀) (G := fun j₀ Z₀ => K 223 [(0, Sum.inr (Sum.inl m₀)), (1, Sum.inl j₀)] [] Z₀ 0) (lo := 0) (hi := 140) (by omega) ?_ ?_ Y ⟨mm_f_rfl, fun k₀ hk => by omega⟩
  · rintro Z₀ ⟨g₀, w₀⟩
    have stZ₀ := mm_f_st g₀ stY
    have k7Z := stZ₀.1
    have pr := hp Z₀ g₀ (fun k₀ hk => w₀ k₀ (by omega) hk)
    obtain ⟨y1, y2⟩ := mm_pre_rc pr
    have se := cX6_settles (D := D) hl stZ₀ y1 y2
    have PS₀ := fun P (s₀ : mm_set Z₀ P m₀) => hQ P (mm_pre_set pr s₀)
    clear w₀ hp pr y1 y2 stY stZ₀ hQ
    refine hK₀ _ _ _ _ _ ?_
    (repeat' (((conv => whnf); first | (show (_ : Option mg_V) = _ ∧ _; assumption) | (show K _ _ _ _ _; assumption) | (show mm_th _ _ _ _; assumption) | refine And.intro (by first | assumption | omega | (simp only [true_and, kd_si, ln_si, gr_si]; first | done | assumption | omega)) ?_ | (refine And.intro (fun _ => ?_) (fun _ => ?_) <;> first | (exfalso; omega) | skip) | intro _ | fail)))
    (conv => whnf)
    refine Exists.intro _ (Exists.intro _ (And.intro (se) (And.intro ?_ (fun _ _ h₀ => h₀.elim))))
    rintro _ N3 ⟨rfl, hs⟩
    have q₀ := PS₀ _ hs
    clear hs PS₀ se
    (repeat' (((conv => whnf); first | (show (_ : Option mg_V) = _ ∧ _; assumption) | (show K _ _ _ _ _; assumption) | (show mm_th _ _ _ _; assumption) | refine And.intro (by first | assumption | omega | (simp only [true_and, kd_si, ln_si, gr_si]; first | done | assumption | omega)) ?_ | (refine And.intro (fun _ => ?_) (fun _ => ?_) <;> first | (exfalso; omega) | skip) | intro _ | fail)))
    all_goals ((conv => whnf); exact q₀)
  · rintro j₀ Z₀ j0 j1 ⟨g₀, w₀⟩ nex
    have stZ₀ := mm_f_st g₀ stY
    have k7Z := stZ₀.1
    obtain ⟨a6, d6₀⟩ := mm_arf stZ₀.2.1.2.1 (by decide)
    obtain ⟨a7, d7₀⟩ := mm_arf stZ₀.2.1.2.2.1 (by decide)
    obtain ⟨a20, d20₀⟩ := mm_arf stZ₀.2.2.2.2.1 (by decide)
    obtain ⟨a31, d31₀⟩ := mm_arf stZ₀.2.2.2.2.2.2.1 (by decide)
    have w2₀ : ∀ x₀ y₀, (j₀ < 120 → x₀ = gi Y (m₀ + 16) j₀.toNat ∧ y₀ = gi Y (m₀ + 12) j₀.toNat) → K 223 [(0, Sum.inr (Sum.inl m₀)), (1, Sum.inl (j₀ + 1))] [] (si (si Z₀ (m₀ + 2) j₀.toNat x₀) (m₀ + 3) j₀.toNat y₀) 0 := by
      intro x₀ y₀ hxy
      clear d6₀ d7₀ d20₀ d31₀ a6 a7 a20 a31
      refine nex _ ⟨mm_f_si (mm_f_si g₀ (by omega)) (by omega), fun k₀ hk hk2 => ?_⟩
      by_cases e₀ : k₀ = j₀.toNat
      · rw [gi_si, if_neg (by omega), gi_si, if_pos ⟨rfl, e₀⟩, gi_si, if_pos ⟨rfl, e₀⟩, e₀]
        exact hxy (by omega)
      · rw [gi_si, if_neg (by omega), gi_si, if_neg (by omega), gi_si, if_neg (by omega), gi_si, if_neg (by omega)]
        exact w₀ k₀ (by omega) hk2
    have e1₀ := mm_f_gi g₀ (m₀ + 16) j₀.toNat (by omega)
    have e2₀ : ∀ x₀, gi (si Z₀ (m₀ + 2) j₀.toNat x₀) (m₀ + 12) j₀.toNat = gi Y (m₀ + 12) j₀.toNat := fun x₀ => by rw [gi_si, if_neg (by omega)]; exact mm_f_gi g₀ (m₀ + 12) j₀.toNat (by omega)
    clear nex w₀ hp hQ
    refine hK₀ _ _ _ _ _ ?_
    (repeat' (((conv => whnf); first | (show (_ : Option mg_V) = _ ∧ _; assumption) | (show K _ _ _ _ _; assumption) | (show mm_th _ _ _ _; assumption) | refine And.intro (by first | assumption | omega | (simp only [true_and, kd_si, ln_si, gr_si]; first | done | assumption | omega)) ?_ | (refine And.intro (fun _ => ?_) (fun _ => ?_) <;> first | (exfalso; omega) | skip) | intro _ | fail)))
    all_goals ((conv => whnf); simp only [gr_si, a6, a7, a20, a31, e1₀, e2₀]; refine w2₀ _ _ (fun hj => ?_); first | exact ⟨rfl, rfl⟩ | omega)
-- laying the squares: their numbers₀, and contents and styles by these
set_option maxRecDepth 100000 in
theorem mm_laysC {D : mg_D} {l : Launch} (hl : l.stackTraces = false) {No : mg_O} {K : mg_K} (hK₀ : ∀ (pc : Nat) (ls : mg_L) (st₀ : List mg_V) (M : mg_M) (B₀ : Nat), mg_ev mc_X6_lays (mg_Mt D l) No mg_no K 1000 false pc ls st₀ M B₀ → K pc ls st₀ M B₀) {M Y : mg_M} {m₀ : Nat} {R C f₀ e₀ a₀ b₀ : Int} {J₀ : Int → Int → Int} {cn sy : Int → Int} {T L₀ H₀ W₀ t₀ ll h₀ v₀ : Int → Int → Int} (stY : mm_st Y m₀) (rc : mm_rc M m₀) (hRC : R = gi M m₀ 1 ∧ C = gi M m₀ 2) (hY : mm_as M Y m₀) (hA : gi Y m₀ 32 = f₀ ∧ gi Y m₀ 33 = e₀ ∧ gi Y m₀ 34 = a₀ ∧ gi Y m₀ 35 = b₀) (hbk : (1 ≤ gi M m₀ 25 ∧ gi M m₀ 25 ≤ 12) ∧ (1 ≤ gi M m₀ 26 ∧ gi M m₀ 26 ≤ 10)) (h2526 : gi Y m₀ 25 = gi M m₀ 25 ∧ gi Y m₀ 26 = gi M m₀ 26) (hf : 0 ≤ f₀ ∧ 0 ≤ a₀) (hR : mm_rts M m₀ T L₀ H₀ W₀) (hB₀ : mm_brs M m₀ t₀ ll h₀ v₀) (hcp : ∀ k₀ : Nat, gi Y (m₀ + 13) k₀ = gi M (m₀ + 13) k₀) (hid₀ : ∀ r₀ c₀, mh_rg (gi M m₀ 1) (gi M m₀ 2) r₀ c₀ → 0 ≤ mi M (m₀ + 1) r₀ c₀ ∧ mi M (m₀ + 1) r₀ c₀ < 120) (hci : ∀ p₀ q₀, mh_rg (gi M m₀ 25) (gi M m₀ 26) p₀ q₀ → 0 ≤ mi M (m₀ + 13) p₀ q₀ ∧ mi M (m₀ + 13) p₀ q₀ < 120) (hJ : J₀ = mi_lp f₀ e₀ a₀ b₀ (gi M m₀ 25) (gi M m₀ 26) T L₀ t₀ ll)
    (hJb : ∀ r₀ c₀, mh_rg (gi M m₀ 1) (gi M m₀ 2) r₀ c₀ → 0 ≤ J₀ r₀ c₀ ∧ J₀ r₀ c₀ < 120) (hc1 : ∀ r₀ c₀, mh_rg (gi M m₀ 1) (gi M m₀ 2) r₀ c₀ → mh_inA f₀ e₀ a₀ b₀ r₀ c₀ → cn (J₀ r₀ c₀) = gi Y (m₀ + 14) (mi M (m₀ + 13) ((r₀ - f₀) % gi M m₀ 25) ((c₀ - a₀) % gi M m₀ 26)).toNat ∧ sy (J₀ r₀ c₀) = gi Y (m₀ + 15) (mi M (m₀ + 13) ((r₀ - f₀) % gi M m₀ 25) ((c₀ - a₀) % gi M m₀ 26)).toNat) (hc2 : ∀ r₀ c₀, mh_rg (gi M m₀ 1) (gi M m₀ 2) r₀ c₀ → ¬ mh_inA f₀ e₀ a₀ b₀ r₀ c₀ → cn (J₀ r₀ c₀) = gi Y (m₀ + 2) (mi M (m₀ + 1) r₀ c₀).toNat ∧ sy (J₀ r₀ c₀) = gi Y (m₀ + 3) (mi M (m₀ + 1) r₀ c₀).toNat)
    (hn : ∀ Z₀, mm_f (fun b₀ _ => b₀ = m₀ + 1 ∨ b₀ = m₀ + 12 ∨ b₀ = m₀ + 16) Y Z₀ → (∀ r₀ c₀, mh_rg (gi M m₀ 1) (gi M m₀ 2) r₀ c₀ → mi Z₀ (m₀ + 1) r₀ c₀ = J₀ r₀ c₀ ∧ gi Z₀ (m₀ + 16) (J₀ r₀ c₀).toNat = cn (J₀ r₀ c₀) ∧ gi Z₀ (m₀ + 12) (J₀ r₀ c₀).toNat = sy (J₀ r₀ c₀)) → K 223 [(0, Sum.inr (Sum.inl m₀)), (1, Sum.inl 0)] [] Z₀ 0) : K 34 [(0, Sum.inr (Sum.inl m₀)), (1, Sum.inl 0)] [] Y 0 := by
  have rc' := rc
  unfold mm_rc at rc'
  obtain ⟨rfl, rfl⟩ := hRC
  refine mh_for2d (P := fun r₀ c₀ Z₀ => mm_f (fun b₀ _ => b₀ = m₀ + 1 ∨ b₀ = m₀ + 12 ∨ b₀ = m₀ + 16) Y Z₀ ∧ ∀ p₀ q₀, mh_rg (gi M m₀ 1) (gi M m₀ 2) p₀ q₀ → (p₀ < r₀ ∨ (p₀ = r₀ ∧ q₀ < c₀)) → mi Z₀ (m₀ + 1) p₀ q₀ = J₀ p₀ q₀ ∧ gi Z₀ (m₀ + 16) (J₀ p₀ q₀).toNat = cn (J₀ p₀ q₀) ∧ gi Z₀ (m₀ + 12) (J₀ p₀ q₀).toNat = sy (J₀ p₀ q₀)) (G1 := fun r₀ Z₀ => K 34 [(0, Sum.inr (Sum.inl m₀)), (1, Sum.inl r₀)] [] Z₀ 0) (G2 := fun r₀ c₀ Z₀ => K 44 [(0, Sum.inr (Sum.inl m₀)), (1, Sum.inl r₀), (2, Sum.inl c₀)] [] Z₀ 0) (R := gi M m₀ 1) (C := gi M m₀ 2) (r0 := 0) (c0 := 0) (by omega) (by omega) ?_ ?_ ?_ ?_ Y ⟨mm_f_rfl, fun p₀ q₀ h1 h2 => by omega⟩
  · rintro Z₀ ⟨g₀, w₀⟩
    have q₀ := hn Z₀ g₀ (fun r₀ c₀ hr => w₀ r₀ c₀ hr (by omega))
    have k7Z := (mm_f_st g₀ stY).1
    have t1₀ := (mm_f_gi g₀ m₀ 1 (by omega)).trans hY.1
    clear w₀ hn hc1 hc2 hJb hid₀ hci hR hB₀ hcp hY
    refine hK₀ _ _ _ _ _ ?_
    (repeat' (((conv => whnf); first | (show (_ : Option mg_V) = _ ∧ _; assumption) | (show K _ _ _ _ _; assumption) | (show mm_th _ _ _ _; assumption) | refine And.intro (by first | assumption | omega | (simp only [true_and, kd_si, ln_si, gr_si]; first | done | assumption | omega)) ?_ | (refine And.intro (fun _ => ?_) (fun _ => ?_) <;> first | (exfalso; omega) | skip) | intro _ | fail)))
  · rintro r₀ Z₀ r1₀ r2 ⟨g₀, w₀⟩ q₀
    have k7Z := (mm_f_st g₀ stY).1
    have t1₀ := (mm_f_gi g₀ m₀ 1 (by omega)).trans hY.1
    clear w₀ hn hc1 hc2 hJb hid₀ hci hR hB₀ hcp hY
    refine hK₀ _ _ _ _ _ ?_
    (repeat' (((conv => whnf); first | (show (_ : Option mg_V) = _ ∧ _; assumption) | (show K _ _ _ _ _; assumption) | (show mm_th _ _ _ _; assumption) | refine And.intro (by first | assumption | omega | (simp only [true_and, kd_si, ln_si, gr_si]; first | done | assumption | omega)) ?_ | (refine And.intro (fun _ => ?_) (fun _ => ?_) <;> first | (exfalso; omega) | skip) | intro _ | fail)))
  · rintro r₀ Z₀ r1₀ r2 ⟨g₀, w₀⟩
    have k7Z := (mm_f_st g₀ stY).1
    have t2₀ := (mm_f_gi g₀ m₀ 2 (by omega)).trans hY.2.1
    refine ⟨⟨g₀, fun p₀ q₀ h1 h2 => w₀ p₀ q₀ h1 (by omega)⟩, fun q₀ => ?_⟩
    clear w₀ hn hc1 hc2 hJb hid₀ hci hR hB₀ hcp hY
    refine hK₀ _ _ _ _ _ ?_
    (repeat' (((conv => whnf); first | (show (_ : Option mg_V) = _ ∧ _; assumption) | (show K _ _ _ _ _; assumption) | (show mm_th _ _ _ _; assumption) | refine And.intro (by first | assumption | omega | (simp only [true_and, kd_si, ln_si, gr_si]; first | done | assumption | omega)) ?_ | (refine And.intro (fun _ => ?_) (fun _ => ?_) <;> first | (exfalso; omega) | skip) | intro _ | fail)))
  · rintro r₀ c₀ Z₀ r1₀ r2 c1₀ c2₀ ⟨g₀, w₀⟩ nex
    have hr : mh_rg (gi M m₀ 1) (gi M m₀ 2) r₀ c₀ := ⟨⟨r1₀, r2⟩, c1₀, c2₀⟩
    have stZ₀ := mm_f_st g₀ stY
    have k7Z := stZ₀.1
    have t2₀ := (mm_f_gi g₀ m₀ 2 (by omega)).trans hY.2.1
    have w2₀ : ∀ x₀ y₀ z₀ j₀, j₀ = J₀ r₀ c₀ → x₀ = (10 * r₀ + c₀).toNat → y₀ = cn (J₀ r₀ c₀) → z₀ = sy (J₀ r₀ c₀) → K 44 [(0, Sum.inr (Sum.inl m₀)), (1, Sum.inl r₀), (2, Sum.inl (c₀ + 1))] [] (si (si (si Z₀ (m₀ + 1) x₀ j₀) (m₀ + 16) j₀.toNat y₀) (m₀ + 12) j₀.toNat z₀) 0 := by
      intro x₀ y₀ z₀ j₀ hj hx hy hz
      subst hj
      subst hx
      have jb := hJb r₀ c₀ hr
      refine nex _ ⟨mm_f_si (mm_f_si (mm_f_si g₀ (by omega)) (by omega)) (by omega), fun p₀ q₀ hp hq => ?_⟩
      have jb2 := hJb p₀ q₀ hp
      have w9 := fun z₀ => w₀ p₀ q₀ hp z₀
      refine ⟨?_, ?_, ?_⟩
      · unfold mi
        rw [gi_si, if_neg (by omega), gi_si, if_neg (by omega), gi_si]
        by_cases e9₀ : p₀ = r₀ ∧ q₀ = c₀
        · rw [e9₀.1, e9₀.2, if_pos ⟨rfl, rfl⟩]
        · rw [if_neg (by omega)]
          exact (w9 (by omega)).1
      · rw [gi_si, if_neg (by omega), gi_si]
        by_cases e9₀ : (J₀ p₀ q₀).toNat = (J₀ r₀ c₀).toNat
        · rw [if_pos ⟨rfl, e9₀⟩, hy, show J₀ p₀ q₀ = J₀ r₀ c₀ by omega]
        · rw [if_neg (by omega), gi_si, if_neg (by omega)]
          exact (w9 (Classical.byContradiction (fun z₀ => e9₀ (by rw [show p₀ = r₀ by omega, show q₀ = c₀ by omega])))).2.1
      · rw [gi_si]
        by_cases e9₀ : (J₀ p₀ q₀).toNat = (J₀ r₀ c₀).toNat
        · rw [if_pos ⟨rfl, e9₀⟩, hz, show J₀ p₀ q₀ = J₀ r₀ c₀ by omega]
        · rw [if_neg (by omega), gi_si, if_neg (by omega), gi_si, if_neg (by omega)]
          exact (w9 (Classical.byContradiction (fun z₀ => e9₀ (by rw [show p₀ = r₀ by omega, show q₀ = c₀ by omega])))).2.2
    have jb := hJb r₀ c₀ hr
    have fr₀ : ∀ Z', mm_f (fun b₀ _ => b₀ = m₀ + 1 ∨ b₀ = m₀ + 12 ∨ b₀ = m₀ + 16) Y Z' → mm_st Z' m₀ ∧ (gi Z' m₀ 32 = f₀ ∧ gi Z' m₀ 33 = e₀ ∧ gi Z' m₀ 34 = a₀ ∧ gi Z' m₀ 35 = b₀) ∧ (gi Z' m₀ 25 = gi M m₀ 25 ∧ gi Z' m₀ 26 = gi M m₀ 26) ∧ (∀ q₀ k₀, (q₀ = m₀ + 2 ∨ q₀ = m₀ + 3 ∨ q₀ = m₀ + 11 ∨ q₀ = m₀ + 13 ∨ q₀ = m₀ + 14 ∨ q₀ = m₀ + 15) → gi Z' q₀ k₀ = gi Y q₀ k₀) := by
      intro Z' g'
      refine ⟨mm_f_st g' stY, ⟨?_, ?_, ?_, ?_⟩, ⟨?_, ?_⟩, fun q₀ k₀ hq => mm_f_gi g' q₀ k₀ (by omega)⟩
      · rw [mm_f_gi g' m₀ 32 (by omega)]; exact hA.1
      · rw [mm_f_gi g' m₀ 33 (by omega)]; exact hA.2.1
      · rw [mm_f_gi g' m₀ 34 (by omega)]; exact hA.2.2.1
      · rw [mm_f_gi g' m₀ 35 (by omega)]; exact hA.2.2.2
      · rw [mm_f_gi g' m₀ 25 (by omega)]; exact h2526.1
      · rw [mm_f_gi g' m₀ 26 (by omega)]; exact h2526.2
    have II : ∀ Z', mm_f (fun b₀ _ => b₀ = m₀ + 1 ∨ b₀ = m₀ + 12 ∨ b₀ = m₀ + 16) Y Z' → mg_Mt D l 132 [.inr (.inl m₀), .inl r₀, .inl c₀] Z' (fun v₀ P => v₀ = some (.inl (if mh_inA f₀ e₀ a₀ b₀ r₀ c₀ then 1 else 0)) ∧ P = Z') mg_no := by
      intro Z' g'
      obtain ⟨q1₀, ⟨q2₀, q3₀, q4₀, q5₀⟩, -⟩ := fr₀ Z' g'
      have z₀ := cX6_isIn (D := D) (r₀ := r₀) (c₀ := c₀) hl q1₀.1
      rw [q2₀, q3₀, q4₀, q5₀] at z₀
      exact z₀
    by_cases ci : mh_inA f₀ e₀ a₀ b₀ r₀ c₀
    · have I1 : ∀ Z', mm_f (fun b₀ _ => b₀ = m₀ + 1 ∨ b₀ = m₀ + 12 ∨ b₀ = m₀ + 16) Y Z' → mg_Mt D l 132 [.inr (.inl m₀), .inl r₀, .inl c₀] Z' (fun v₀ P => v₀ = some (.inl 1) ∧ P = Z') mg_no := fun Z' g' => by
        have z₀ := II Z' g'
        rw [if_pos ci] at z₀
        exact z₀
      have u0 : 0 ≤ (r₀ - f₀) % gi M m₀ 25 ∧ (r₀ - f₀) % gi M m₀ 25 < gi M m₀ 25 := ⟨Int.emod_nonneg _ (by omega), Int.emod_lt_of_pos _ (by omega)⟩
      have w0₀ : 0 ≤ (c₀ - a₀) % gi M m₀ 26 ∧ (c₀ - a₀) % gi M m₀ 26 < gi M m₀ 26 := ⟨Int.emod_nonneg _ (by omega), Int.emod_lt_of_pos _ (by omega)⟩
      have br := hB₀ _ _ ⟨u0, w0₀⟩
      have hc1' := hc1 r₀ c₀ hr ci
      have hci' := hci _ _ ⟨u0, w0₀⟩
      have ej : J₀ r₀ c₀ = 10 * (r₀ - (r₀ - f₀) % gi M m₀ 25 + t₀ ((r₀ - f₀) % gi M m₀ 25) ((c₀ - a₀) % gi M m₀ 26)) + (c₀ - (c₀ - a₀) % gi M m₀ 26 + ll ((r₀ - f₀) % gi M m₀ 25) ((c₀ - a₀) % gi M m₀ 26)) := by rw [hJ]; unfold mi_lp; rw [if_pos ci]
      have PB₀ : mg_Mt D l 187 [.inr (.inl m₀), .inl r₀, .inl c₀] Z₀ (fun v₀ P => v₀ = some (.inl (J₀ r₀ c₀)) ∧ P = Z₀) mg_no := by
        obtain ⟨q1₀, ⟨q2₀, q3₀, q4₀, q5₀⟩, ⟨q6₀, q7₀⟩, q8₀⟩ := fr₀ Z₀ g₀
        have mz : mi Z₀ (m₀ + 13) = mi M (m₀ + 13) := by funext x₀ y₀; unfold mi; rw [q8₀ _ _ (by omega), hcp]
        rw [ej]
        exact cX6_pastedBegin (D := D) hl q1₀ (by omega) (by omega) (by rw [q2₀, q6₀]) (by rw [q4₀, q7₀]) (by rw [q6₀, q7₀, mz]; exact br)
      have RD : ∀ Z', mm_f (fun b₀ _ => b₀ = m₀ + 1 ∨ b₀ = m₀ + 12 ∨ b₀ = m₀ + 16) Y Z' → gi Z' (m₀ + 13) (10 * ((r₀ - f₀) % gi M m₀ 25) + (c₀ - a₀) % gi M m₀ 26).toNat = mi M (m₀ + 13) ((r₀ - f₀) % gi M m₀ 25) ((c₀ - a₀) % gi M m₀ 26) := fun Z' g' => by rw [(fr₀ Z' g').2.2.2 _ _ (by omega), hcp]; rfl
      generalize hp : (r₀ - f₀) % gi M m₀ 25 = p₀ at *
      generalize hq : (c₀ - a₀) % gi M m₀ 26 = q₀ at *
      generalize hI : mi M (m₀ + 13) p₀ q₀ = I₀ at *
      generalize hj : J₀ r₀ c₀ = j₀ at *
      obtain ⟨a5, d5₀⟩ := mm_arf stZ₀.2.1.1 (by decide)
      clear nex w₀ hn hc1 hc2 hJb hid₀ hci hR hB₀ hcp hY ej br II
      refine hK₀ _ _ _ _ _ ?_
      (repeat' (((conv => whnf); first | (show (_ : Option mg_V) = _ ∧ _; assumption) | (show K _ _ _ _ _; assumption) | (show mm_th _ _ _ _; assumption) | refine And.intro (by first | assumption | omega | (simp only [true_and, kd_si, ln_si, gr_si]; first | done | assumption | omega)) ?_ | (refine And.intro (fun _ => ?_) (fun _ => ?_) <;> first | (exfalso; omega) | skip) | intro _ | fail)))
      all_goals (try ((conv => whnf); (refine Exists.intro _ (Exists.intro _ (And.intro (I1 Z₀ g₀) (And.intro ?_ (fun _ _ h₀ => h₀.elim)))); rintro _ _ ⟨rfl, e₀⟩; have e2₀ := e₀.symm; clear e₀; subst e2₀); (repeat' (((conv => whnf); first | (show (_ : Option mg_V) = _ ∧ _; assumption) | (show K _ _ _ _ _; assumption) | (show mm_th _ _ _ _; assumption) | refine And.intro (by first | assumption | omega | (simp only [true_and, kd_si, ln_si, gr_si]; first | done | assumption | omega)) ?_ | (refine And.intro (fun _ => ?_) (fun _ => ?_) <;> first | (exfalso; omega) | skip) | intro _ | fail)))))
      all_goals (try ((conv => whnf); (refine Exists.intro _ (Exists.intro _ (And.intro (PB₀) (And.intro ?_ (fun _ _ h₀ => h₀.elim)))); rintro _ _ ⟨rfl, e₀⟩; have e2₀ := e₀.symm; clear e₀; subst e2₀); (repeat' (((conv => whnf); first | (show (_ : Option mg_V) = _ ∧ _; assumption) | (show K _ _ _ _ _; assumption) | (show mm_th _ _ _ _; assumption) | refine And.intro (by first | assumption | omega | (simp only [true_and, kd_si, ln_si, gr_si]; first | done | assumption | omega)) ?_ | (refine And.intro (fun _ => ?_) (fun _ => ?_) <;> first | (exfalso; omega) | skip) | intro _ | fail)))))
      all_goals ((conv => whnf); rw [a5]; generalize hZ1 : si Z₀ (m₀ + 1) (10 * r₀ + c₀).toNat j₀ = Z1)
      have w3₀ := w2₀ _ _ _ _ rfl rfl rfl rfl
      have g1 : mm_f (fun b₀ _ => b₀ = m₀ + 1 ∨ b₀ = m₀ + 12 ∨ b₀ = m₀ + 16) Y Z1 := by rw [← hZ1]; exact mm_f_si g₀ (by omega)
      rw [hZ1] at w3₀
      clear hZ1 PB₀ w2₀ a5 d5₀
      obtain ⟨st1₀, ⟨q1₀, -, q3₀, -⟩, ⟨q5₀, q6₀⟩, qr⟩ := fr₀ Z1 g1
      have k71 := st1₀.1
      obtain ⟨a28, d28₀⟩ := mm_arf st1₀.2.2.2.2.2.1.1 (by decide)
      obtain ⟨a29, d29₀⟩ := mm_arf st1₀.2.2.2.2.2.1.2.1 (by decide)
      obtain ⟨a31, d31₀⟩ := mm_arf st1₀.2.2.2.2.2.2.1 (by decide)
      have e1₀ : (r₀ - gi Z1 m₀ 32) % gi Z1 m₀ 25 = p₀ := by rw [q1₀, q5₀]; exact hp
      have e2₀ : (c₀ - gi Z1 m₀ 34) % gi Z1 m₀ 26 = q₀ := by rw [q3₀, q6₀]; exact hq
      have v28 : gi Z1 (gr Z1 m₀ 28) (10 * ((r₀ - gi Z1 m₀ 32) % gi Z1 m₀ 25) + (c₀ - gi Z1 m₀ 34) % gi Z1 m₀ 26).toNat = I₀ := by rw [a28, e1₀, e2₀]; exact RD Z1 g1
      have v29 : gi Z1 (gr Z1 m₀ 29) I₀.toNat = cn j₀ := by rw [a29, qr _ _ (by omega)]; exact hc1'.1.symm
      have J1 := I1 Z1 g1
      have hs := hc1'.2
      clear RD qr hp hq hc1'
      (refine Exists.intro _ (Exists.intro _ (And.intro (J1) (And.intro ?_ (fun _ _ h₀ => h₀.elim)))); rintro _ _ ⟨rfl, e₀⟩; have e2₀ := e₀.symm; clear e₀; subst e2₀)
      (repeat' (((conv => whnf); first | (show (_ : Option mg_V) = _ ∧ _; assumption) | (show K _ _ _ _ _; assumption) | (show mm_th _ _ _ _; assumption) | refine And.intro (by first | assumption | omega | (simp only [true_and, kd_si, ln_si, gr_si]; first | done | assumption | omega)) ?_ | (refine And.intro (fun _ => ?_) (fun _ => ?_) <;> first | (exfalso; omega) | skip) | intro _ | fail)))
      all_goals (try ((conv => whnf); (refine Exists.intro _ (Exists.intro _ (And.intro (J1) (And.intro ?_ (fun _ _ h₀ => h₀.elim)))); rintro _ _ ⟨rfl, e₀⟩; have e2₀ := e₀.symm; clear e₀; subst e2₀); (repeat' (((conv => whnf); first | (show (_ : Option mg_V) = _ ∧ _; assumption) | (show K _ _ _ _ _; assumption) | (show mm_th _ _ _ _; assumption) | refine And.intro (by first | assumption | omega | (simp only [true_and, kd_si, ln_si, gr_si]; first | done | assumption | omega)) ?_ | (refine And.intro (fun _ => ?_) (fun _ => ?_) <;> first | (exfalso; omega) | skip) | intro _ | fail)))))
      all_goals ((conv => whnf); rw [a31, v28, v29]; generalize hZ2 : si Z1 (m₀ + 16) j₀.toNat (cn j₀) = Z2)
      have g2 : mm_f (fun b₀ _ => b₀ = m₀ + 1 ∨ b₀ = m₀ + 12 ∨ b₀ = m₀ + 16) Y Z2 := by rw [← hZ2]; exact mm_f_si g1 (by omega)
      rw [hZ2] at w3₀
      clear hZ2 J1 v28 v29 e1₀ e2₀ a28 a29 a31 d28₀ d29₀ d31₀
      obtain ⟨st2₀, -, -, qr2⟩ := fr₀ Z2 g2
      have k72 := st2₀.1
      obtain ⟨a30, d30₀⟩ := mm_arf st2₀.2.2.2.2.2.1.2.2 (by decide)
      obtain ⟨a20, d20₀⟩ := mm_arf st2₀.2.2.2.2.1 (by decide)
      have v30 : gi Z2 (gr Z2 m₀ 30) I₀.toNat = sy j₀ := by rw [a30, qr2 _ _ (by omega)]; exact hs.symm
      have J2 := I1 Z2 g2
      clear qr2 fr₀ I1
      (repeat' (((conv => whnf); first | (show (_ : Option mg_V) = _ ∧ _; assumption) | (show K _ _ _ _ _; assumption) | (show mm_th _ _ _ _; assumption) | refine And.intro (by first | assumption | omega | (simp only [true_and, kd_si, ln_si, gr_si]; first | done | assumption | omega)) ?_ | (refine And.intro (fun _ => ?_) (fun _ => ?_) <;> first | (exfalso; omega) | skip) | intro _ | fail)))
      all_goals (try ((conv => whnf); (refine Exists.intro _ (Exists.intro _ (And.intro (J2) (And.intro ?_ (fun _ _ h₀ => h₀.elim)))); rintro _ _ ⟨rfl, e₀⟩; have e2₀ := e₀.symm; clear e₀; subst e2₀); (repeat' (((conv => whnf); first | (show (_ : Option mg_V) = _ ∧ _; assumption) | (show K _ _ _ _ _; assumption) | (show mm_th _ _ _ _; assumption) | refine And.intro (by first | assumption | omega | (simp only [true_and, kd_si, ln_si, gr_si]; first | done | assumption | omega)) ?_ | (refine And.intro (fun _ => ?_) (fun _ => ?_) <;> first | (exfalso; omega) | skip) | intro _ | fail)))))
      all_goals ((conv => whnf); rw [a20, v30]; exact w3₀)
    · have I1 : ∀ Z', mm_f (fun b₀ _ => b₀ = m₀ + 1 ∨ b₀ = m₀ + 12 ∨ b₀ = m₀ + 16) Y Z' → mg_Mt D l 132 [.inr (.inl m₀), .inl r₀, .inl c₀] Z' (fun v₀ P => v₀ = some (.inl 0) ∧ P = Z') mg_no := fun Z' g' => by
        have z₀ := II Z' g'
        rw [if_neg ci] at z₀
        exact z₀
      have rr := hR r₀ c₀ hr
      have hc2' := hc2 r₀ c₀ hr ci
      have hid' := hid₀ r₀ c₀ hr
      have ej : J₀ r₀ c₀ = 10 * T r₀ c₀ + L₀ r₀ c₀ := by rw [hJ]; unfold mi_lp; rw [if_neg ci]
      have PB₀ : mg_Mt D l 186 [.inr (.inl m₀), .inl r₀, .inl c₀] Z₀ (fun v₀ P => v₀ = some (.inl (J₀ r₀ c₀)) ∧ P = Z₀) mg_no := by
        rw [ej]
        exact cX6_oldBegin (D := D) hl stZ₀ rc (mm_as_f g₀ (by omega) (by omega) (fun k₀ => by omega) hY) (by omega) rr
      have RD : ∀ Z', mm_f (fun b₀ _ => b₀ = m₀ + 1 ∨ b₀ = m₀ + 12 ∨ b₀ = m₀ + 16) Y Z' → gi Z' (m₀ + 11) (10 * r₀ + c₀).toNat = mi M (m₀ + 1) r₀ c₀ := fun Z' g' => by rw [(fr₀ Z' g').2.2.2 _ _ (by omega), hY.2.2 _ (by omega) (by omega)]; rfl
      generalize hI : mi M (m₀ + 1) r₀ c₀ = I₀ at *
      generalize hj : J₀ r₀ c₀ = j₀ at *
      obtain ⟨a5, d5₀⟩ := mm_arf stZ₀.2.1.1 (by decide)
      clear nex w₀ hn hc1 hc2 hJb hid₀ hci hR hB₀ hcp hY ej rr II
      refine hK₀ _ _ _ _ _ ?_
      (repeat' (((conv => whnf); first | (show (_ : Option mg_V) = _ ∧ _; assumption) | (show K _ _ _ _ _; assumption) | (show mm_th _ _ _ _; assumption) | refine And.intro (by first | assumption | omega | (simp only [true_and, kd_si, ln_si, gr_si]; first | done | assumption | omega)) ?_ | (refine And.intro (fun _ => ?_) (fun _ => ?_) <;> first | (exfalso; omega) | skip) | intro _ | fail)))
      all_goals (try ((conv => whnf); (refine Exists.intro _ (Exists.intro _ (And.intro (I1 Z₀ g₀) (And.intro ?_ (fun _ _ h₀ => h₀.elim)))); rintro _ _ ⟨rfl, e₀⟩; have e2₀ := e₀.symm; clear e₀; subst e2₀); (repeat' (((conv => whnf); first | (show (_ : Option mg_V) = _ ∧ _; assumption) | (show K _ _ _ _ _; assumption) | (show mm_th _ _ _ _; assumption) | refine And.intro (by first | assumption | omega | (simp only [true_and, kd_si, ln_si, gr_si]; first | done | assumption | omega)) ?_ | (refine And.intro (fun _ => ?_) (fun _ => ?_) <;> first | (exfalso; omega) | skip) | intro _ | fail)))))
      all_goals (try ((conv => whnf); (refine Exists.intro _ (Exists.intro _ (And.intro (PB₀) (And.intro ?_ (fun _ _ h₀ => h₀.elim)))); rintro _ _ ⟨rfl, e₀⟩; have e2₀ := e₀.symm; clear e₀; subst e2₀); (repeat' (((conv => whnf); first | (show (_ : Option mg_V) = _ ∧ _; assumption) | (show K _ _ _ _ _; assumption) | (show mm_th _ _ _ _; assumption) | refine And.intro (by first | assumption | omega | (simp only [true_and, kd_si, ln_si, gr_si]; first | done | assumption | omega)) ?_ | (refine And.intro (fun _ => ?_) (fun _ => ?_) <;> first | (exfalso; omega) | skip) | intro _ | fail)))))
      all_goals ((conv => whnf); rw [a5]; generalize hZ1 : si Z₀ (m₀ + 1) (10 * r₀ + c₀).toNat j₀ = Z1)
      have w3₀ := w2₀ _ _ _ _ rfl rfl rfl rfl
      have g1 : mm_f (fun b₀ _ => b₀ = m₀ + 1 ∨ b₀ = m₀ + 12 ∨ b₀ = m₀ + 16) Y Z1 := by rw [← hZ1]; exact mm_f_si g₀ (by omega)
      rw [hZ1] at w3₀
      clear hZ1 PB₀ w2₀ a5 d5₀
      obtain ⟨st1₀, -, -, qr⟩ := fr₀ Z1 g1
      have k71 := st1₀.1
      obtain ⟨a19, d19₀⟩ := mm_arf st1₀.2.2.2.1 (by decide)
      obtain ⟨a6, d6₀⟩ := mm_arf st1₀.2.1.2.1 (by decide)
      obtain ⟨a31, d31₀⟩ := mm_arf st1₀.2.2.2.2.2.2.1 (by decide)
      have v19 : gi Z1 (gr Z1 m₀ 19) (10 * r₀ + c₀).toNat = I₀ := by rw [a19]; exact RD Z1 g1
      have v6 : gi Z1 (gr Z1 m₀ 6) I₀.toNat = cn j₀ := by rw [a6, qr _ _ (by omega)]; exact hc2'.1.symm
      have J1 := I1 Z1 g1
      have hs := hc2'.2
      clear RD qr hc2'
      (refine Exists.intro _ (Exists.intro _ (And.intro (J1) (And.intro ?_ (fun _ _ h₀ => h₀.elim)))); rintro _ _ ⟨rfl, e₀⟩; have e2₀ := e₀.symm; clear e₀; subst e2₀)
      (repeat' (((conv => whnf); first | (show (_ : Option mg_V) = _ ∧ _; assumption) | (show K _ _ _ _ _; assumption) | (show mm_th _ _ _ _; assumption) | refine And.intro (by first | assumption | omega | (simp only [true_and, kd_si, ln_si, gr_si]; first | done | assumption | omega)) ?_ | (refine And.intro (fun _ => ?_) (fun _ => ?_) <;> first | (exfalso; omega) | skip) | intro _ | fail)))
      all_goals (try ((conv => whnf); (refine Exists.intro _ (Exists.intro _ (And.intro (J1) (And.intro ?_ (fun _ _ h₀ => h₀.elim)))); rintro _ _ ⟨rfl, e₀⟩; have e2₀ := e₀.symm; clear e₀; subst e2₀); (repeat' (((conv => whnf); first | (show (_ : Option mg_V) = _ ∧ _; assumption) | (show K _ _ _ _ _; assumption) | (show mm_th _ _ _ _; assumption) | refine And.intro (by first | assumption | omega | (simp only [true_and, kd_si, ln_si, gr_si]; first | done | assumption | omega)) ?_ | (refine And.intro (fun _ => ?_) (fun _ => ?_) <;> first | (exfalso; omega) | skip) | intro _ | fail)))))
      all_goals ((conv => whnf); rw [a31, v19, v6]; generalize hZ2 : si Z1 (m₀ + 16) j₀.toNat (cn j₀) = Z2)
      have g2 : mm_f (fun b₀ _ => b₀ = m₀ + 1 ∨ b₀ = m₀ + 12 ∨ b₀ = m₀ + 16) Y Z2 := by rw [← hZ2]; exact mm_f_si g1 (by omega)
      rw [hZ2] at w3₀
      clear hZ2 J1 v19 v6 a19 a6 a31 d19₀ d6₀ d31₀
      obtain ⟨st2₀, -, -, qr2⟩ := fr₀ Z2 g2
      have k72 := st2₀.1
      obtain ⟨a7, d7₀⟩ := mm_arf st2₀.2.1.2.2.1 (by decide)
      obtain ⟨a20, d20₀⟩ := mm_arf st2₀.2.2.2.2.1 (by decide)
      have v7 : gi Z2 (gr Z2 m₀ 7) I₀.toNat = sy j₀ := by rw [a7, qr2 _ _ (by omega)]; exact hs.symm
      have J2 := I1 Z2 g2
      clear qr2 fr₀ I1
      (repeat' (((conv => whnf); first | (show (_ : Option mg_V) = _ ∧ _; assumption) | (show K _ _ _ _ _; assumption) | (show mm_th _ _ _ _; assumption) | refine And.intro (by first | assumption | omega | (simp only [true_and, kd_si, ln_si, gr_si]; first | done | assumption | omega)) ?_ | (refine And.intro (fun _ => ?_) (fun _ => ?_) <;> first | (exfalso; omega) | skip) | intro _ | fail)))
      all_goals (try ((conv => whnf); (refine Exists.intro _ (Exists.intro _ (And.intro (J2) (And.intro ?_ (fun _ _ h₀ => h₀.elim)))); rintro _ _ ⟨rfl, e₀⟩; have e2₀ := e₀.symm; clear e₀; subst e2₀); (repeat' (((conv => whnf); first | (show (_ : Option mg_V) = _ ∧ _; assumption) | (show K _ _ _ _ _; assumption) | (show mm_th _ _ _ _; assumption) | refine And.intro (by first | assumption | omega | (simp only [true_and, kd_si, ln_si, gr_si]; first | done | assumption | omega)) ?_ | (refine And.intro (fun _ => ?_) (fun _ => ?_) <;> first | (exfalso; omega) | skip) | intro _ | fail)))))
      all_goals ((conv => whnf); rw [a20, v7]; exact w3₀)
