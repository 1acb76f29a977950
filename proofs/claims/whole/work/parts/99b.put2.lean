def mh_pA (f₀ e₀ a₀ b₀ U₀ V i₀ j₀ p₀ q₀ : Int) : Prop := ¬ ((f₀ ≤ p₀ ∧ p₀ ≤ e₀) ∧ (a₀ ≤ q₀ ∧ q₀ ≤ b₀)) ∨ (p₀ - f₀) / U₀ < i₀ ∨ ((p₀ - f₀) / U₀ = i₀ ∧ (q₀ - a₀) / V < j₀)
theorem mh_dve {U₀ i₀ u₀ : Int} (h₀ : 0 ≤ u₀ ∧ u₀ < U₀) : (i₀ * U₀ + u₀) / U₀ = i₀ ∧ (i₀ * U₀ + u₀) % U₀ = u₀ := by
  have e₀ : i₀ * U₀ + u₀ = u₀ + U₀ * i₀ := by rw [Int.mul_comm, Int.add_comm]
  rw [e₀, Int.add_mul_ediv_left _ _ (show U₀ ≠ 0 by omega), Int.add_mul_emod_self_left, Int.ediv_eq_zero_of_lt h₀.1 h₀.2, Int.emod_eq_of_lt h₀.1 h₀.2]
  omega
theorem mh_dvb {U₀ i₀ x₀ : Int} (hU : 0 < U₀) : x₀ / U₀ = i₀ ↔ i₀ * U₀ ≤ x₀ ∧ x₀ < i₀ * U₀ + U₀ := by
  constructor
  · intro h₀
    have h1 := Int.emod_add_mul_ediv x₀ U₀
    have h2 := Int.emod_lt_of_pos x₀ hU
    have h3 := Int.emod_nonneg x₀ (show U₀ ≠ 0 by omega)
    rw [h₀, Int.mul_comm] at h1
    omega
  · intro h₀
    have := (@mh_dve U₀ i₀ (x₀ - i₀ * U₀) (by omega)).1
    rw [show i₀ * U₀ + (x₀ - i₀ * U₀) = x₀ by omega] at this
    exact this
theorem mh_mle {U₀ i₀ n₀ : Int} (hU : 0 < U₀) (hi : 0 ≤ i₀ ∧ i₀ < n₀) : 0 ≤ i₀ * U₀ ∧ i₀ * U₀ + U₀ ≤ n₀ * U₀ := by
  have h1 : (i₀ + 1) * U₀ ≤ n₀ * U₀ := Int.mul_le_mul_of_nonneg_right (by omega) (by omega)
  rw [Int.add_mul, Int.one_mul] at h1
  exact ⟨Int.mul_nonneg hi.1 (by omega), h1⟩
abbrev mh_iR (f₀ e₀ a₀ b₀ p₀ q₀ : Int) : Prop := (f₀ ≤ p₀ ∧ p₀ ≤ e₀) ∧ (a₀ ≤ q₀ ∧ q₀ ≤ b₀)
def mh_u0 (M : mg_M) (t₀ : Nat) (f₀ e₀ a₀ b₀ U₀ V : Int) (g₀ : Int → Int → Int) (p₀ q₀ : Int) : Int := if mh_iR f₀ e₀ a₀ b₀ p₀ q₀ then p₀ - (p₀ - f₀) % U₀ + g₀ ((p₀ - f₀) % U₀) ((q₀ - a₀) % V) else gi M (mh_co M t₀ p₀ q₀) 0
def mh_u1 (M : mg_M) (t₀ : Nat) (f₀ e₀ a₀ b₀ U₀ V : Int) (g₀ : Int → Int → Int) (p₀ q₀ : Int) : Int := if mh_iR f₀ e₀ a₀ b₀ p₀ q₀ then q₀ - (q₀ - a₀) % V + g₀ ((p₀ - f₀) % U₀) ((q₀ - a₀) % V) else gi M (mh_co M t₀ p₀ q₀) 1
def mh_u2 (M : mg_M) (t₀ n₀ : Nat) (f₀ e₀ a₀ b₀ U₀ V : Int) (g₀ : Int → Int → Int) (p₀ q₀ : Int) : Int := if mh_iR f₀ e₀ a₀ b₀ p₀ q₀ then g₀ ((p₀ - f₀) % U₀) ((q₀ - a₀) % V) else gi M (mh_co M t₀ p₀ q₀) n₀
set_option maxRecDepth 100000 in
theorem cX4_put {D : mg_D} {l : Launch} (hl : l.stackTraces = false) {M : mg_M} {t₀ b₀ k₀ : Nat} {x₀ y₀ U₀ V f₀ e₀ a₀ d₀ : Int} {g0 g1 g2 g3₀ g4 g5₀ : Int → Int → Int} (tl : mh_tl M t₀) (nb : mh_nb M t₀) (hb₀ : kd M b₀ = 1) (har : mh_ar M t₀ b₀) (hf : gi M b₀ 0 = f₀ ∧ gi M b₀ 2 = e₀ ∧ gi M b₀ 1 = a₀ ∧ gi M b₀ 3 = d₀) (hbt : b₀ < t₀ ∨ t₀ + 129 ≤ b₀) (hcl : ∀ i₀ : Nat, (i₀ : Int) < gi M (t₀ + 3) 0 → ∀ p₀ q₀, mh_cv M t₀ i₀ p₀ q₀ → (gi M b₀ 0 ≤ p₀ ∧ p₀ ≤ gi M b₀ 2) ∧ (gi M b₀ 1 ≤ q₀ ∧ q₀ ≤ gi M b₀ 3) → mh_in M (gr M (t₀ + 3 + 1) i₀) b₀ = true) (hk : kd M k₀ = 2 ∧ gr M k₀ 2 = k₀ + 1 ∧ gi M k₀ 0 = U₀ ∧ gi M k₀ 1 = V) (hkt : k₀ + 124 ≤ t₀ ∨ t₀ + 129 ≤ k₀) (bl : mh_bl M (k₀ + 1) U₀ V) (hU : 1 ≤ U₀ ∧ 1 ≤ V) (hx : (1 ≤ x₀ ∧ x₀ ≤ 4) ∧ (1 ≤ y₀ ∧ y₀ ≤ 4)) (ha₀ : e₀ = f₀ + x₀ * U₀ - 1 ∧ d₀ = a₀ + y₀ * V - 1) (hg : ∀ i₀ : Nat, (i₀ : Int) < gi M (k₀ + 1) 0 → ∀ u₀ v₀, mh_cb M (k₀ + 1) i₀ u₀ v₀ → (gi M (gr M (k₀ + 1 + 1) i₀) 0 = g0 u₀ v₀ ∧ gi M (gr M (k₀ + 1 + 1) i₀) 1 = g1 u₀ v₀ ∧ gi M (gr M (k₀ + 1 + 1) i₀) 2 = g2 u₀ v₀ ∧ gi M (gr M (k₀ + 1 + 1) i₀) 3 = g3₀ u₀ v₀) ∧ gi M (gr M (k₀ + 1 + 1) i₀) 4 = g4 u₀ v₀ ∧ gi M (gr M (k₀ + 1 + 1) i₀) 5 = g5₀ u₀ v₀) : mg_Mt D l 66 [.inr (.inl t₀), .inr (.inl k₀), .inr (.inl b₀), .inl x₀, .inl y₀] M (fun v₀ N => v₀ = none ∧ mh_np M N t₀ (gi M t₀ 0) (gi M t₀ 1) (gi M t₀ 2) (mh_u0 M t₀ f₀ e₀ a₀ d₀ U₀ V g0) (mh_u1 M t₀ f₀ e₀ a₀ d₀ U₀ V g1) (mh_u2 M t₀ 2 f₀ e₀ a₀ d₀ U₀ V g2) (mh_u2 M t₀ 3 f₀ e₀ a₀ d₀ U₀ V g3₀) (mh_u2 M t₀ 4 f₀ e₀ a₀ d₀ U₀ V g4) (mh_u2 M t₀ 5 f₀ e₀ a₀ d₀ U₀ V g5₀) (fun k₀ => gi M (t₀ + 2) k₀.toNat) (fun k₀ => gi M (t₀ + 1) k₀.toNat)) mg_no := by
  refine mg_of2 hl ok_X4_put al_X4_put rfl (fun K hK₀ => ?_)
  have tb₀ := tl.1
  have cl₀ := tl.2.1
  have bb := tb₀.2.2
  have ar := har
  unfold mh_ar at ar
  have csm := mh_tl_sm tl
  have ri := @cX3_removeIn D l hl M (t₀ + 3) b₀ cl₀ csm hb₀
  have LR := mh_lz_ri (T := mh_u0 M t₀ f₀ e₀ a₀ d₀ U₀ V g0) (L₀ := mh_u1 M t₀ f₀ e₀ a₀ d₀ U₀ V g1) (H₀ := mh_u2 M t₀ 2 f₀ e₀ a₀ d₀ U₀ V g2) (W₀ := mh_u2 M t₀ 3 f₀ e₀ a₀ d₀ U₀ V g3₀) (cn := mh_u2 M t₀ 4 f₀ e₀ a₀ d₀ U₀ V g4) (sy := mh_u2 M t₀ 5 f₀ e₀ a₀ d₀ U₀ V g5₀) tl nb (by omega) hcl (fun p₀ q₀ h₀ n₀ => by
    have n' : ¬ mh_iR f₀ e₀ a₀ d₀ p₀ q₀ := by omega
    unfold mh_u0 mh_u1 mh_u2; simp only [if_neg n']; exact ⟨⟨trivial, trivial, trivial, trivial⟩, trivial, trivial⟩)
  generalize mh_ri (t₀ + 3) b₀ (gi M (t₀ + 3) 0).toNat M = X₀ at *
  have k5₀ := tb₀.1.1
  have g5' : gr M t₀ 5 = t₀ + 3 := tb₀.1.2.2.2.1
  have g5n : gr M t₀ 5 ≠ 0 := by omega
  have kc₀ : kd M (gr M t₀ 5) = 4 := by rw [g5']; exact cl₀.1
  have xU : x₀ * U₀ ≤ 12 ∧ y₀ * V ≤ 10 := by omega
  have U12 : U₀ ≤ 12 ∧ V ≤ 10 := by
    have h1 := Int.mul_le_mul_of_nonneg_right hx.1.1 (show 0 ≤ U₀ by omega)
    have h2 := Int.mul_le_mul_of_nonneg_right hx.2.1 (show 0 ≤ V by omega)
    rw [Int.one_mul] at h1 h2
    omega
  obtain ⟨hf0, hf2, hf1, hf3⟩ := hf
  rw [hf0, hf1, hf2, hf3] at ar
  have e00 : (fun p₀ q₀ => ¬ ((gi M b₀ 0 ≤ p₀ ∧ p₀ ≤ gi M b₀ 2) ∧ (gi M b₀ 1 ≤ q₀ ∧ q₀ ≤ gi M b₀ 3))) = mh_pA f₀ e₀ a₀ d₀ U₀ V 0 0 := by
    funext p₀ q₀
    unfold mh_pA
    rw [hf0, hf1, hf2, hf3]
    refine propext ⟨Or.inl, fun w₀ => ?_⟩
    rcases w₀ with w₀ | w₀ | w₀
    · exact w₀
    · intro z₀
      have := Int.ediv_nonneg (show 0 ≤ p₀ - f₀ by omega) (show 0 ≤ U₀ by omega)
      omega
    · intro z₀
      have := Int.ediv_nonneg (show 0 ≤ q₀ - a₀ by omega) (show 0 ≤ V by omega)
      omega
  rw [e00] at LR
  clear e00
  have LP₀ : K 11 [(0, Sum.inr (Sum.inl t₀)), (1, Sum.inr (Sum.inl k₀)), (2, Sum.inr (Sum.inl b₀)), (3, Sum.inl x₀), (4, Sum.inl y₀), (5, Sum.inl 0)] [] X₀ 0 := by
    refine mh_for (P := fun i₀ Z₀ => mh_lz M Z₀ t₀ (mh_pA f₀ e₀ a₀ d₀ U₀ V i₀ 0) (mh_u0 M t₀ f₀ e₀ a₀ d₀ U₀ V g0) (mh_u1 M t₀ f₀ e₀ a₀ d₀ U₀ V g1) (mh_u2 M t₀ 2 f₀ e₀ a₀ d₀ U₀ V g2) (mh_u2 M t₀ 3 f₀ e₀ a₀ d₀ U₀ V g3₀) (mh_u2 M t₀ 4 f₀ e₀ a₀ d₀ U₀ V g4) (mh_u2 M t₀ 5 f₀ e₀ a₀ d₀ U₀ V g5₀)) (G := fun i₀ Z₀ => K 11 [(0, Sum.inr (Sum.inl t₀)), (1, Sum.inr (Sum.inl k₀)), (2, Sum.inr (Sum.inl b₀)), (3, Sum.inl x₀), (4, Sum.inl y₀), (5, Sum.inl i₀)] [] Z₀ 0) (lo := 0) (hi := x₀) (by omega) ?_ ?_ X₀ LR
    · intro Z₀ lt₀
      have ST₀ := cX4_settleL (D := D) hl tb₀ lt₀ (fun p₀ q₀ _ => by
        unfold mh_pA
        by_cases z₀ : (f₀ ≤ p₀ ∧ p₀ ≤ e₀) ∧ (a₀ ≤ q₀ ∧ q₀ ≤ d₀)
        · exact Or.inr (Or.inl (Int.ediv_lt_of_lt_mul (by omega) (by omega)))
        · exact Or.inl z₀)
      have x5₀ : kd Z₀ t₀ = 5 := (lt₀.1.1.1 t₀).trans k5₀
      clear lt₀ tl nb tb₀ cl₀ LR bl hg hcl
      refine hK₀ _ _ _ _ _ ?_
      (repeat' (((conv => whnf); first | (show (_ : Option mg_V) = _ ∧ _; assumption) | (show K _ _ _ _ _; assumption) | (show mm_th _ _ _ _; assumption) | refine And.intro (by first | assumption | omega | (simp only [true_and, kd_si, gr_si]; first | done | assumption | omega)) ?_ | (refine And.intro (fun _ => ?_) (fun _ => ?_) <;> first | (exfalso; omega) | skip) | intro _ | fail)))
      all_goals ((conv => whnf); skip)
      refine Exists.intro _ (Exists.intro _ (And.intro (ST₀) (And.intro ?_ (fun _ _ h₀ => h₀.elim))))
      rintro _ N9 ⟨rfl, Q1₀⟩
      have Q₀ := And.intro (Eq.refl (none : Option mg_V)) Q1₀
      (repeat' (((conv => whnf); first | (show (_ : Option mg_V) = _ ∧ _; assumption) | (show K _ _ _ _ _; assumption) | (show mm_th _ _ _ _; assumption) | refine And.intro (by first | assumption | omega | (simp only [true_and, kd_si, gr_si]; first | done | assumption | omega)) ?_ | (refine And.intro (fun _ => ?_) (fun _ => ?_) <;> first | (exfalso; omega) | skip) | intro _ | fail)))
    · intro i₀ Z0 i0₀ i1₀ lt0 nex
      have LP2 : K 20 [(0, Sum.inr (Sum.inl t₀)), (1, Sum.inr (Sum.inl k₀)), (2, Sum.inr (Sum.inl b₀)), (3, Sum.inl x₀), (4, Sum.inl y₀), (5, Sum.inl i₀), (6, Sum.inl 0)] [] Z0 0 := by
        refine mh_for (P := fun j₀ Z₀ => mh_lz M Z₀ t₀ (mh_pA f₀ e₀ a₀ d₀ U₀ V i₀ j₀) (mh_u0 M t₀ f₀ e₀ a₀ d₀ U₀ V g0) (mh_u1 M t₀ f₀ e₀ a₀ d₀ U₀ V g1) (mh_u2 M t₀ 2 f₀ e₀ a₀ d₀ U₀ V g2) (mh_u2 M t₀ 3 f₀ e₀ a₀ d₀ U₀ V g3₀) (mh_u2 M t₀ 4 f₀ e₀ a₀ d₀ U₀ V g4) (mh_u2 M t₀ 5 f₀ e₀ a₀ d₀ U₀ V g5₀)) (G := fun j₀ Z₀ => K 20 [(0, Sum.inr (Sum.inl t₀)), (1, Sum.inr (Sum.inl k₀)), (2, Sum.inr (Sum.inl b₀)), (3, Sum.inl x₀), (4, Sum.inl y₀), (5, Sum.inl i₀), (6, Sum.inl j₀)] [] Z₀ 0) (lo := 0) (hi := y₀) (by omega) ?_ ?_ Z0 lt0
        · intro Z₀ lt₀
          have e1₀ : mh_pA f₀ e₀ a₀ d₀ U₀ V i₀ y₀ = mh_pA f₀ e₀ a₀ d₀ U₀ V (i₀ + 1) 0 := by
            funext p₀ q₀
            unfold mh_pA
            by_cases z₀ : (f₀ ≤ p₀ ∧ p₀ ≤ e₀) ∧ (a₀ ≤ q₀ ∧ q₀ ≤ d₀)
            · have h1 : (q₀ - a₀) / V < y₀ := Int.ediv_lt_of_lt_mul (by omega) (by omega)
              have h2 := Int.ediv_nonneg (show 0 ≤ q₀ - a₀ by omega) (show 0 ≤ V by omega)
              generalize (p₀ - f₀) / U₀ = u₀ at *
              generalize (q₀ - a₀) / V = v₀ at *
              refine propext ⟨fun w₀ => ?_, fun w₀ => ?_⟩ <;> omega
            · exact propext ⟨fun _ => Or.inl z₀, fun _ => Or.inl z₀⟩
          rw [e1₀] at lt₀
          have g₀ := nex Z₀ lt₀
          clear nex lt₀ lt0 tl nb tb₀ cl₀ LR bl hg hcl e1₀
          refine hK₀ _ _ _ _ _ ?_
          (repeat' (((conv => whnf); first | (show (_ : Option mg_V) = _ ∧ _; assumption) | (show K _ _ _ _ _; assumption) | (show mm_th _ _ _ _; assumption) | refine And.intro (by first | assumption | omega | (simp only [true_and, kd_si, gr_si]; first | done | assumption | omega)) ?_ | (refine And.intro (fun _ => ?_) (fun _ => ?_) <;> first | (exfalso; omega) | skip) | intro _ | fail)))
        · intro j₀ Z₀ j0 j1 lt₀ nex2
          have fw := lt₀.1.1
          have mi := @mh_mle U₀ i₀ x₀ (by omega) ⟨i0₀, i1₀⟩
          have mj := @mh_mle V j₀ y₀ (by omega) ⟨j0, j1⟩
          have xk : kd Z₀ k₀ = 2 := (fw.1 k₀).trans hk.1
          have xt : kd Z₀ t₀ = 5 := (fw.1 t₀).trans k5₀
          have xb : kd Z₀ b₀ = 1 := (fw.1 b₀).trans hb₀
          have w0₀ : gi Z₀ k₀ 0 = U₀ := ((fw.2.2.2.2.2.2 k₀ 0).resolve_left (by omega)).trans hk.2.2.1
          have w1₀ : gi Z₀ k₀ 1 = V := ((fw.2.2.2.2.2.2 k₀ 1).resolve_left (by omega)).trans hk.2.2.2
          have w2₀ : gi Z₀ b₀ 0 = f₀ := ((fw.2.2.2.2.2.2 b₀ 0).resolve_left (by omega)).trans hf0
          have w3₀ : gi Z₀ b₀ 1 = a₀ := ((fw.2.2.2.2.2.2 b₀ 1).resolve_left (by omega)).trans hf1
          have kg : gr Z₀ k₀ 2 = k₀ + 1 := ((fw.2.2.1 k₀ 2).resolve_left (by omega)).trans hk.2.1
          have kgn : gr Z₀ k₀ 2 ≠ 0 := by omega
          have p1₀ : i₀ * gi Z₀ k₀ 0 = i₀ * U₀ := by rw [w0₀]
          have p2₀ : j₀ * gi Z₀ k₀ 1 = j₀ * V := by rw [w1₀]
          have IN₀ : ∀ u₀ v₀, mh_rg U₀ V u₀ v₀ → mh_iR f₀ e₀ a₀ d₀ (f₀ + i₀ * U₀ + u₀) (a₀ + j₀ * V + v₀) ∧ (f₀ + i₀ * U₀ + u₀ - f₀) / U₀ = i₀ ∧ (f₀ + i₀ * U₀ + u₀ - f₀) % U₀ = u₀ ∧ (a₀ + j₀ * V + v₀ - a₀) / V = j₀ ∧ (a₀ + j₀ * V + v₀ - a₀) % V = v₀ := by
            intro u₀ v₀ h₀
            have h1 := @mh_dve U₀ i₀ u₀ h₀.1
            have h2 := @mh_dve V j₀ v₀ h₀.2
            rw [show f₀ + i₀ * U₀ + u₀ - f₀ = i₀ * U₀ + u₀ by omega, show a₀ + j₀ * V + v₀ - a₀ = j₀ * V + v₀ by omega]
            exact ⟨by omega, h1.1, h1.2, h2.1, h2.2⟩
          have PO := @cX4_putOne D l hl M Z₀ t₀ (k₀ + 1) _ _ _ _ _ _ _ (f₀ + i₀ * U₀) (a₀ + j₀ * V) U₀ V tb₀ lt₀ bl (by omega) U12 (by omega) (by omega) (fun u₀ v₀ h₀ => by
            obtain ⟨h0, h1, h2, h3, h4⟩ := IN₀ u₀ v₀ h₀
            unfold mh_pA
            rw [h1, h3]
            rintro (z₀ | z₀ | z₀)
            · exact z₀ h0
            · omega
            · omega) (fun i' hi' u₀ v₀ h₀ => by
            have o := bl.2.1 i' hi'
            have h' := h₀
            unfold mh_cb at h'
            obtain ⟨h0, h1, h2, h3, h4⟩ := IN₀ u₀ v₀ (by omega)
            obtain ⟨⟨q0, q1₀, q2₀, q3₀⟩, q4₀, q5₀⟩ := hg i' hi' u₀ v₀ h₀
            unfold mh_u0 mh_u1 mh_u2
            rw [if_pos h0, if_pos h0, if_pos h0, if_pos h0, if_pos h0, if_pos h0, h2, h4]
            exact ⟨⟨by omega, by omega, q2₀, q3₀⟩, q4₀, q5₀⟩)
          have e2₀ : (fun p₀ q₀ => mh_pA f₀ e₀ a₀ d₀ U₀ V i₀ j₀ p₀ q₀ ∨ ((f₀ + i₀ * U₀ ≤ p₀ ∧ p₀ < f₀ + i₀ * U₀ + U₀) ∧ (a₀ + j₀ * V ≤ q₀ ∧ q₀ < a₀ + j₀ * V + V))) = mh_pA f₀ e₀ a₀ d₀ U₀ V i₀ (j₀ + 1) := by
            funext p₀ q₀
            unfold mh_pA
            by_cases z₀ : (f₀ ≤ p₀ ∧ p₀ ≤ e₀) ∧ (a₀ ≤ q₀ ∧ q₀ ≤ d₀)
            · have h1 := @mh_dvb U₀ i₀ (p₀ - f₀) (by omega)
              have h2 := @mh_dvb V j₀ (q₀ - a₀) (by omega)
              generalize (p₀ - f₀) / U₀ = u₀ at *
              generalize (q₀ - a₀) / V = v₀ at *
              refine propext ⟨fun w₀ => ?_, fun w₀ => ?_⟩ <;> omega
            · exact propext ⟨fun _ => Or.inl z₀, fun _ => Or.inl (Or.inl z₀)⟩
          rw [e2₀] at PO
          have nex3 : ∀ Y, mh_lz M Y t₀ (mh_pA f₀ e₀ a₀ d₀ U₀ V i₀ (j₀ + 1)) (mh_u0 M t₀ f₀ e₀ a₀ d₀ U₀ V g0) (mh_u1 M t₀ f₀ e₀ a₀ d₀ U₀ V g1) (mh_u2 M t₀ 2 f₀ e₀ a₀ d₀ U₀ V g2) (mh_u2 M t₀ 3 f₀ e₀ a₀ d₀ U₀ V g3₀) (mh_u2 M t₀ 4 f₀ e₀ a₀ d₀ U₀ V g4) (mh_u2 M t₀ 5 f₀ e₀ a₀ d₀ U₀ V g5₀) → K 20 [(0, Sum.inr (Sum.inl t₀)), (1, Sum.inr (Sum.inl k₀)), (2, Sum.inr (Sum.inl b₀)), (3, Sum.inl x₀), (4, Sum.inl y₀), (5, Sum.inl i₀), (6, Sum.inl (j₀ + 1))] [] Y 0 := nex2
          clear nex nex2 lt₀ lt0 tl nb tb₀ cl₀ LR bl hg hcl e2₀ IN₀ fw
          refine hK₀ _ _ _ _ _ ?_
          (repeat' (((conv => whnf); first | (show (_ : Option mg_V) = _ ∧ _; assumption) | (show K _ _ _ _ _; assumption) | (show mm_th _ _ _ _; assumption) | refine And.intro (by first | assumption | omega | (simp only [true_and, kd_si, gr_si]; first | done | assumption | omega)) ?_ | (refine And.intro (fun _ => ?_) (fun _ => ?_) <;> first | (exfalso; omega) | skip) | intro _ | fail)))
          all_goals ((conv => whnf); try rw [kg, w0₀, w1₀, w2₀, w3₀])
          refine Exists.intro _ (Exists.intro _ (And.intro (PO) (And.intro ?_ (fun _ _ h₀ => h₀.elim))))
          rintro _ Y ⟨rfl, lt2⟩
          have G9 := nex3 Y lt2
          clear nex3 lt2 PO
          (repeat' (((conv => whnf); first | (show (_ : Option mg_V) = _ ∧ _; assumption) | (show K _ _ _ _ _; assumption) | (show mm_th _ _ _ _; assumption) | refine And.intro (by first | assumption | omega | (simp only [true_and, kd_si, gr_si]; first | done | assumption | omega)) ?_ | (refine And.intro (fun _ => ?_) (fun _ => ?_) <;> first | (exfalso; omega) | skip) | intro _ | fail)))
      clear nex lt0 tl nb tb₀ cl₀ LR bl hg hcl
      refine hK₀ _ _ _ _ _ ?_
      (repeat' (((conv => whnf); first | (show (_ : Option mg_V) = _ ∧ _; assumption) | (show K _ _ _ _ _; assumption) | (show mm_th _ _ _ _; assumption) | refine And.intro (by first | assumption | omega | (simp only [true_and, kd_si, gr_si]; first | done | assumption | omega)) ?_ | (refine And.intro (fun _ => ?_) (fun _ => ?_) <;> first | (exfalso; omega) | skip) | intro _ | fail)))
  clear tl nb tb₀ cl₀ LR bl hg hcl
  refine hK₀ _ _ _ _ _ ?_
  (repeat' (((conv => whnf); first | (show (_ : Option mg_V) = _ ∧ _; assumption) | (show K _ _ _ _ _; assumption) | (show mm_th _ _ _ _; assumption) | refine And.intro (by first | assumption | omega | (simp only [true_and, kd_si, gr_si]; first | done | assumption | omega)) ?_ | (refine And.intro (fun _ => ?_) (fun _ => ?_) <;> first | (exfalso; omega) | skip) | intro _ | fail)))
  all_goals ((conv => whnf); try rw [g5'])
  (refine Exists.intro _ (Exists.intro _ (And.intro (ri) (And.intro ?_ (fun _ _ h₀ => h₀.elim)))); rintro _ _ ⟨rfl, e₀⟩; have e2₀ := e₀.symm; clear e₀; subst e2₀)
  (repeat' (((conv => whnf); first | (show (_ : Option mg_V) = _ ∧ _; assumption) | (show K _ _ _ _ _; assumption) | (show mm_th _ _ _ _; assumption) | refine And.intro (by first | assumption | omega | (simp only [true_and, kd_si, gr_si]; first | done | assumption | omega)) ?_ | (refine And.intro (fun _ => ?_) (fun _ => ?_) <;> first | (exfalso; omega) | skip) | intro _ | fail)))
