/-- contents and styles by the squares at which cells₀ begin -/
def mi_sc (M : mg_M) (m₀ : Nat) (i₀ b₀ k₀ : Int) : Int := if gi M (m₀ + 1) k₀.toNat = i₀ then (if k₀ = b₀ then gi M (m₀ + 2) i₀.toNat else 0) else gi M (m₀ + 2) (gi M (m₀ + 1) k₀.toNat).toNat
def mi_ss (M : mg_M) (m₀ : Nat) (k₀ : Int) : Int := gi M (m₀ + 3) (gi M (m₀ + 1) k₀.toNat).toNat
set_option maxHeartbeats 6000000 in
set_option maxRecDepth 100000 in
theorem cX6_spreads {D : mg_D} {l : Launch} (hl : l.stackTraces = false) {M N : mg_M} {m₀ : Nat} {i₀ T L₀ H₀ W₀ : Int} (stN₀ : mm_st N m₀) (rc : mm_rc M m₀) (a₀ : mm_as M N m₀) (a2 : ∀ k₀ : Nat, k₀ < 140 → gi N (m₀ + 2) k₀ = gi M (m₀ + 2) k₀ ∧ gi N (m₀ + 3) k₀ = gi M (m₀ + 3) k₀) (hR : mm_rect M m₀ i₀ T L₀ H₀ W₀) (hi : 0 ≤ i₀ ∧ i₀ < 120) (hid₀ : ∀ r₀ c₀, mh_rg (gi M m₀ 1) (gi M m₀ 2) r₀ c₀ → 0 ≤ mi M (m₀ + 1) r₀ c₀ ∧ mi M (m₀ + 1) r₀ c₀ < 120) : mg_Mt D l 179 [.inr (.inl m₀), .inl i₀] N (fun v₀ P => v₀ = none ∧ mm_f (fun b₀ _ => b₀ = m₀ + 2 ∨ b₀ = m₀ + 3 ∨ b₀ = m₀ + 12 ∨ b₀ = m₀ + 16) N P ∧ ∀ k₀, 0 ≤ k₀ ∧ k₀ < 120 → k₀ / 10 < gi M m₀ 1 → k₀ % 10 < gi M m₀ 2 → gi N (m₀ + 1) k₀.toNat = k₀ → gi P (m₀ + 2) k₀.toNat = mi_sc M m₀ i₀ (10 * T + L₀) k₀ ∧ gi P (m₀ + 3) k₀.toNat = mi_ss M m₀ k₀) mg_no := by
  refine mg_of2 hl ok_X6_spreads al_X6_spreads rfl (fun K hK₀ => ?_)
  have k7₀ := stN₀.1
  have rc' := rc
  unfold mm_rc at rc'
  obtain ⟨⟨a5, b5, c5₀⟩, ⟨a6, b6, c6₀⟩, ⟨a7, b7, c7₀⟩, -⟩ := stN₀.2.1
  obtain ⟨⟨a19, b19, c19₀⟩, ⟨a20, b20, c20₀⟩, -, ⟨a31, b31, c31₀⟩, -⟩ := stN₀.2.2.2
  have b₀ := hR.1
  have b2 := hR.2.1
  obtain ⟨q1₀, q2₀, q3₀⟩ := a₀
  have hid' : ∀ k₀, 0 ≤ k₀ ∧ k₀ < 120 → k₀ / 10 < gi M m₀ 1 → k₀ % 10 < gi M m₀ 2 → 0 ≤ gi M (m₀ + 1) k₀.toNat ∧ gi M (m₀ + 1) k₀.toNat < 120 := by
    intro k₀ hk h1 h2
    have := hid₀ (k₀ / 10) (k₀ % 10) (by omega)
    unfold mi at this
    rw [show 10 * (k₀ / 10) + k₀ % 10 = k₀ by omega] at this
    exact this
  have L3₀ : ∀ Y, mm_f (fun b₀ _ => b₀ = m₀ + 12 ∨ b₀ = m₀ + 16) N Y → (∀ k₀, 0 ≤ k₀ ∧ k₀ < 120 → k₀ / 10 < gi M m₀ 1 → k₀ % 10 < gi M m₀ 2 → gi N (m₀ + 1) k₀.toNat = k₀ → gi Y (m₀ + 16) k₀.toNat = mi_sc M m₀ i₀ (10 * T + L₀) k₀ ∧ gi Y (m₀ + 12) k₀.toNat = mi_ss M m₀ k₀) → K 175 [(0, Sum.inr (Sum.inl m₀)), (3, Sum.inl 0)] [] Y 0 := by
    intro Y f₀ v₀
    have stY := mm_f_st f₀ stN₀
    refine mh_for (P := fun j₀ Z₀ => mm_f (fun b₀ _ => b₀ = m₀ + 2 ∨ b₀ = m₀ + 3) Y Z₀ ∧ ∀ k₀ : Nat, (k₀ : Int) < j₀ → k₀ < 120 → gi Z₀ (m₀ + 2) k₀ = gi Y (m₀ + 16) k₀ ∧ gi Z₀ (m₀ + 3) k₀ = gi Y (m₀ + 12) k₀) (G := fun j₀ Z₀ => K 175 [(0, Sum.inr (Sum.inl m₀)), (3, Sum.inl j₀)] [] Z₀ 0) (lo := 0) (hi := 140) (by omega) ?_ ?_ Y ⟨mm_f_rfl, fun k₀ hk => by omega⟩
    · rintro Z₀ ⟨g₀, w₀⟩
      have k7Z := (mm_f_st g₀ stY).1
      have Q₀ : (none : Option mg_V) = none ∧ mm_f (fun b₀ _ => b₀ = m₀ + 2 ∨ b₀ = m₀ + 3 ∨ b₀ = m₀ + 12 ∨ b₀ = m₀ + 16) N Z₀ ∧ ∀ k₀, 0 ≤ k₀ ∧ k₀ < 120 → k₀ / 10 < gi M m₀ 1 → k₀ % 10 < gi M m₀ 2 → gi N (m₀ + 1) k₀.toNat = k₀ → gi Z₀ (m₀ + 2) k₀.toNat = mi_sc M m₀ i₀ (10 * T + L₀) k₀ ∧ gi Z₀ (m₀ + 3) k₀.toNat = mi_ss M m₀ k₀ := by
        refine ⟨rfl, mm_f_tr (mm_f_mono f₀ (fun b₀ k₀ z₀ => by omega)) (mm_f_mono g₀ (fun b₀ k₀ z₀ => by omega)), fun k₀ hk h1 h2 h3 => ?_⟩
        rw [(w₀ k₀.toNat (by omega) (by omega)).1, (w₀ k₀.toNat (by omega) (by omega)).2]
        exact v₀ k₀ hk h1 h2 h3
      clear w₀ v₀ hid₀ hid' q3₀ a2 hR
      refine hK₀ _ _ _ _ _ ?_
      (repeat' (((conv => whnf); first | (show (_ : Option mg_V) = _ ∧ _; assumption) | (show K _ _ _ _ _; assumption) | refine And.intro (by first | assumption | omega | (simp only [true_and, a5, b5, c5₀, a6, b6, c6₀, a7, b7, c7₀, a19, b19, c19₀, a20, b20, c20₀, a31, b31, c31₀, kd_si, ln_si, gr_si]; first | done | assumption | omega)) ?_ | (refine And.intro (fun _ => ?_) (fun _ => ?_) <;> first | (exfalso; omega) | skip) | intro _ | fail)))
    · rintro j₀ Z₀ j0 j1 ⟨g₀, w₀⟩ nex
      have stZ₀ := mm_f_st g₀ stY
      have k7Z := stZ₀.1
      obtain ⟨-, ⟨a6, b6, c6₀⟩, ⟨a7, b7, c7₀⟩, -⟩ := stZ₀.2.1
      obtain ⟨-, ⟨a20, b20, c20₀⟩, -, ⟨a31, b31, c31₀⟩, -⟩ := stZ₀.2.2.2
      have w2₀ : ∀ x₀ y₀, (j₀ < 120 → x₀ = gi Y (m₀ + 16) j₀.toNat ∧ y₀ = gi Y (m₀ + 12) j₀.toNat) → K 175 [(0, Sum.inr (Sum.inl m₀)), (3, Sum.inl (j₀ + 1))] [] (si (si Z₀ (m₀ + 2) j₀.toNat x₀) (m₀ + 3) j₀.toNat y₀) 0 := by
        intro x₀ y₀ hxy
        refine nex _ ⟨mm_f_si (mm_f_si g₀ (by omega)) (by omega), fun k₀ hk hk2 => ?_⟩
        by_cases e₀ : k₀ = j₀.toNat
        · rw [gi_si, if_neg (by omega), gi_si, if_pos ⟨rfl, e₀⟩, gi_si, if_pos ⟨rfl, e₀⟩, e₀]
          exact hxy (by omega)
        · rw [gi_si, if_neg (by omega), gi_si, if_neg (by omega), gi_si, if_neg (by omega), gi_si, if_neg (by omega)]
          exact w₀ k₀ (by omega) hk2
      have e1₀ := mm_f_gi g₀ (m₀ + 16) j₀.toNat (by omega)
      have e2₀ : ∀ x₀, gi (si Z₀ (m₀ + 2) j₀.toNat x₀) (m₀ + 12) j₀.toNat = gi Y (m₀ + 12) j₀.toNat := fun x₀ => by rw [gi_si, if_neg (by omega)]; exact mm_f_gi g₀ (m₀ + 12) j₀.toNat (by omega)
      clear nex w₀ v₀ hid₀ hid' q3₀ a2 hR
      refine hK₀ _ _ _ _ _ ?_
      (repeat' (((conv => whnf); first | (show (_ : Option mg_V) = _ ∧ _; assumption) | (show K _ _ _ _ _; assumption) | refine And.intro (by first | assumption | omega | (simp only [true_and, a5, b5, c5₀, a6, b6, c6₀, a7, b7, c7₀, a19, b19, c19₀, a20, b20, c20₀, a31, b31, c31₀, kd_si, ln_si, gr_si]; first | done | assumption | omega)) ?_ | (refine And.intro (fun _ => ?_) (fun _ => ?_) <;> first | (exfalso; omega) | skip) | intro _ | fail)))
      all_goals ((conv => whnf); simp only [gr_si, a6, a7, a20, a31, e1₀, e2₀]; refine w2₀ _ _ (fun hj => ?_); first | exact ⟨rfl, rfl⟩ | omega)
  have L2₀ : K 42 [(0, Sum.inr (Sum.inl m₀)), (1, Sum.inl i₀), (2, Sum.inl (10 * T + L₀)), (3, Sum.inl 0)] [] N 0 := by
    refine mh_for (P := fun j₀ Z₀ => mm_f (fun b₀ _ => b₀ = m₀ + 12 ∨ b₀ = m₀ + 16) N Z₀ ∧ ∀ k₀, 0 ≤ k₀ ∧ k₀ < j₀ → k₀ / 10 < gi M m₀ 1 → k₀ % 10 < gi M m₀ 2 → gi N (m₀ + 1) k₀.toNat = k₀ → gi Z₀ (m₀ + 16) k₀.toNat = mi_sc M m₀ i₀ (10 * T + L₀) k₀ ∧ gi Z₀ (m₀ + 12) k₀.toNat = mi_ss M m₀ k₀) (G := fun j₀ Z₀ => K 42 [(0, Sum.inr (Sum.inl m₀)), (1, Sum.inl i₀), (2, Sum.inl (10 * T + L₀)), (3, Sum.inl j₀)] [] Z₀ 0) (lo := 0) (hi := 120) (by omega) ?_ ?_ N ⟨mm_f_rfl, fun k₀ hk => by omega⟩
    · rintro Z₀ ⟨g₀, w₀⟩
      have k7Z := (mm_f_st g₀ stN₀).1
      have g2 := L3₀ Z₀ g₀ w₀
      clear w₀ hid₀ hid' q3₀ a2 hR L3₀
      refine hK₀ _ _ _ _ _ ?_
      (repeat' (((conv => whnf); first | (show (_ : Option mg_V) = _ ∧ _; assumption) | (show K _ _ _ _ _; assumption) | refine And.intro (by first | assumption | omega | (simp only [true_and, a5, b5, c5₀, a6, b6, c6₀, a7, b7, c7₀, a19, b19, c19₀, a20, b20, c20₀, a31, b31, c31₀, kd_si, ln_si, gr_si]; first | done | assumption | omega)) ?_ | (refine And.intro (fun _ => ?_) (fun _ => ?_) <;> first | (exfalso; omega) | skip) | intro _ | fail)))
    · rintro j₀ Z₀ j0 j1 ⟨g₀, w₀⟩ nex
      have stZ₀ := mm_f_st g₀ stN₀
      have k7Z := stZ₀.1
      obtain ⟨⟨a5, b5, c5₀⟩, ⟨a6, b6, c6₀⟩, ⟨a7, b7, c7₀⟩, -⟩ := stZ₀.2.1
      obtain ⟨⟨a19, b19, c19₀⟩, ⟨a20, b20, c20₀⟩, -, ⟨a31, b31, c31₀⟩, -⟩ := stZ₀.2.2.2
      have t1₀ := (mm_f_gi g₀ m₀ 1 (by omega)).trans q1₀
      have t2₀ := (mm_f_gi g₀ m₀ 2 (by omega)).trans q2₀
      have w2₀ : ∀ x₀ y₀, (j₀ / 10 < gi M m₀ 1 → j₀ % 10 < gi M m₀ 2 → gi N (m₀ + 1) j₀.toNat = j₀ → x₀ = mi_sc M m₀ i₀ (10 * T + L₀) j₀ ∧ y₀ = mi_ss M m₀ j₀) → K 42 [(0, Sum.inr (Sum.inl m₀)), (1, Sum.inl i₀), (2, Sum.inl (10 * T + L₀)), (3, Sum.inl (j₀ + 1))] [] (si (si Z₀ (m₀ + 16) j₀.toNat x₀) (m₀ + 12) j₀.toNat y₀) 0 := by
        intro x₀ y₀ hxy
        refine nex _ ⟨mm_f_si (mm_f_si g₀ (by omega)) (by omega), fun k₀ hk h1 h2 h3 => ?_⟩
        by_cases e₀ : k₀ = j₀
        · subst e₀
          rw [gi_si, if_neg (by omega), gi_si, if_pos ⟨rfl, rfl⟩, gi_si, if_pos ⟨rfl, rfl⟩]
          exact hxy h1 h2 h3
        · rw [gi_si, if_neg (by omega), gi_si, if_neg (by omega), gi_si, if_neg (by omega), gi_si, if_neg (by omega)]
          exact w₀ k₀ (by omega) h1 h2 h3
      have e5₀ : gi Z₀ (m₀ + 1) j₀.toNat = gi N (m₀ + 1) j₀.toNat := mm_f_gi g₀ (m₀ + 1) _ (by omega)
      have e5' : gi Z₀ (gr Z₀ m₀ 5) j₀.toNat = gi N (m₀ + 1) j₀.toNat := by rw [a5]; exact e5₀
      have e19₀ : gi Z₀ (m₀ + 11) j₀.toNat = gi M (m₀ + 1) j₀.toNat := (mm_f_gi g₀ (m₀ + 11) _ (by omega)).trans (q3₀ j₀ j0 j1)
      have e19' : gi Z₀ (gr Z₀ m₀ 19) j₀.toNat = gi M (m₀ + 1) j₀.toNat := by rw [a19]; exact e19₀
      have e19'' : ∀ x₀, gi (si Z₀ (m₀ + 16) j₀.toNat x₀) (m₀ + 11) j₀.toNat = gi M (m₀ + 1) j₀.toNat := fun x₀ => by rw [gi_si, if_neg (by omega)]; exact e19₀
      have cz : ∀ x₀ : Int, 0 ≤ x₀ ∧ x₀ < 120 → gi Z₀ (m₀ + 2) x₀.toNat = gi M (m₀ + 2) x₀.toNat := fun x₀ hx => (mm_f_gi g₀ (m₀ + 2) _ (by omega)).trans (a2 _ (by omega)).1
      have cs : ∀ y₀ x₀ : Int, 0 ≤ x₀ ∧ x₀ < 120 → gi (si Z₀ (m₀ + 16) j₀.toNat y₀) (m₀ + 3) x₀.toNat = gi M (m₀ + 3) x₀.toNat := fun y₀ x₀ hx => by rw [gi_si, if_neg (by omega)]; exact (mm_f_gi g₀ (m₀ + 3) _ (by omega)).trans (a2 _ (by omega)).2
      have hj := hid' j₀ ⟨j0, j1⟩
      have ci := cz i₀ hi
      have sc₀ : mi_sc M m₀ i₀ (10 * T + L₀) j₀ = if gi M (m₀ + 1) j₀.toNat = i₀ then (if j₀ = 10 * T + L₀ then gi M (m₀ + 2) i₀.toNat else 0) else gi M (m₀ + 2) (gi M (m₀ + 1) j₀.toNat).toNat := rfl
      have ss : mi_ss M m₀ j₀ = gi M (m₀ + 3) (gi M (m₀ + 1) j₀.toNat).toNat := rfl
      rw [sc₀, ss] at w2₀
      clear nex w₀ hid₀ hid' q3₀ a2 hR L3₀ sc₀ ss
      by_cases c₀ : (j₀ / 10 < gi M m₀ 1 ∧ j₀ % 10 < gi M m₀ 2) ∧ gi N (m₀ + 1) j₀.toNat = j₀
      · have hj2 := hj c₀.1.1 c₀.1.2
        have cz' := cz _ hj2
        have cs' := fun y₀ => cs y₀ _ hj2
        clear cz cs hj
        generalize gi M (m₀ + 1) j₀.toNat = u₀ at *
        refine hK₀ _ _ _ _ _ ?_
        (repeat' (((conv => whnf); first | (show (_ : Option mg_V) = _ ∧ _; assumption) | (show K _ _ _ _ _; assumption) | refine And.intro (by first | assumption | omega | (simp only [true_and, a5, b5, c5₀, a6, b6, c6₀, a7, b7, c7₀, a19, b19, c19₀, a20, b20, c20₀, a31, b31, c31₀, kd_si, ln_si, gr_si]; first | done | assumption | omega)) ?_ | (refine And.intro (fun _ => ?_) (fun _ => ?_) <;> first | (exfalso; omega) | skip) | intro _ | fail)))
        all_goals (try ((conv => whnf); simp only [gr_si, a5, a6, a7, a19, a20, a31, e5₀, e19₀, e19'', ci, cz', cs']))
        (repeat' (((conv => whnf); first | (show (_ : Option mg_V) = _ ∧ _; assumption) | (show K _ _ _ _ _; assumption) | refine And.intro (by first | assumption | omega | (simp only [true_and, a5, b5, c5₀, a6, b6, c6₀, a7, b7, c7₀, a19, b19, c19₀, a20, b20, c20₀, a31, b31, c31₀, kd_si, ln_si, gr_si]; first | done | assumption | omega)) ?_ | (refine And.intro (fun _ => ?_) (fun _ => ?_) <;> first | (exfalso; omega) | skip) | intro _ | fail)))
        all_goals (try ((conv => whnf); simp only [gr_si, a5, a6, a7, a19, a20, a31, e5₀, e19₀, e19'', ci, cz', cs']))
        (repeat' (((conv => whnf); first | (show (_ : Option mg_V) = _ ∧ _; assumption) | (show K _ _ _ _ _; assumption) | refine And.intro (by first | assumption | omega | (simp only [true_and, a5, b5, c5₀, a6, b6, c6₀, a7, b7, c7₀, a19, b19, c19₀, a20, b20, c20₀, a31, b31, c31₀, kd_si, ln_si, gr_si]; first | done | assumption | omega)) ?_ | (refine And.intro (fun _ => ?_) (fun _ => ?_) <;> first | (exfalso; omega) | skip) | intro _ | fail)))
        all_goals ((conv => whnf); refine w2₀ _ _ (fun _ _ _ => ⟨?_, rfl⟩); (repeat' split) <;> first | rfl | (exfalso; omega))
      · clear cz cs hj ci e19'' e19₀ e19' b₀ b2 rc' hi
        refine hK₀ _ _ _ _ _ ?_
        (repeat' (((conv => whnf); first | (show (_ : Option mg_V) = _ ∧ _; assumption) | (show K _ _ _ _ _; assumption) | refine And.intro (by first | assumption | omega | (simp only [true_and, a5, b5, c5₀, a6, b6, c6₀, a7, b7, c7₀, a19, b19, c19₀, a20, b20, c20₀, a31, b31, c31₀, kd_si, ln_si, gr_si]; first | done | assumption | omega)) ?_ | (refine And.intro (fun _ => ?_) (fun _ => ?_) <;> first | (exfalso; omega) | skip) | intro _ | fail)))
        all_goals ((conv => whnf); simp only [gr_si, a20, a31]; exact w2₀ _ _ (fun h1 h2 h3 => absurd ⟨⟨h1, h2⟩, h3⟩ c₀))
  have L1 : K 2 [(0, Sum.inr (Sum.inl m₀)), (1, Sum.inl i₀), (2, Sum.inl 0)] [] N 0 := by
    refine mh_for (P := fun _ (_ : Unit) => True) (G := fun j₀ _ => K 2 [(0, Sum.inr (Sum.inl m₀)), (1, Sum.inl i₀), (2, Sum.inl j₀)] [] N 0) (lo := 0) (hi := 10 * T + L₀) (by omega) ?_ ?_ () trivial
    · intro _ _
      have e₀ : gi N (gr N m₀ 19) (10 * T + L₀).toNat = i₀ := by rw [a19, q3₀ _ (by omega) (by omega)]; exact mm_first1 hR
      clear hR q3₀ hid₀ hid' L3₀ a2
      refine hK₀ _ _ _ _ _ ?_
      (repeat' (((conv => whnf); first | (show (_ : Option mg_V) = _ ∧ _; assumption) | (show K _ _ _ _ _; assumption) | refine And.intro (by first | assumption | omega | (simp only [true_and, a5, b5, c5₀, a6, b6, c6₀, a7, b7, c7₀, a19, b19, c19₀, a20, b20, c20₀, a31, b31, c31₀, kd_si, ln_si, gr_si]; first | done | assumption | omega)) ?_ | (refine And.intro (fun _ => ?_) (fun _ => ?_) <;> first | (exfalso; omega) | skip) | intro _ | fail)))
      all_goals ((conv => whnf); first | exact L2₀ | (exfalso; omega))
    · intro j₀ _ j0 j1 _ nex
      have g₀ := nex () trivial
      have fi := mm_first rc hR ⟨j0, j1⟩
      have e₀ : gi N (gr N m₀ 19) j₀.toNat = gi M (m₀ + 1) j₀.toNat := by rw [a19, q3₀ _ (by omega) (by omega)]
      clear hR q3₀ nex hid₀ hid' L3₀ a2 L2₀
      refine hK₀ _ _ _ _ _ ?_
      (repeat' (((conv => whnf); first | (show (_ : Option mg_V) = _ ∧ _; assumption) | (show K _ _ _ _ _; assumption) | refine And.intro (by first | assumption | omega | (simp only [true_and, a5, b5, c5₀, a6, b6, c6₀, a7, b7, c7₀, a19, b19, c19₀, a20, b20, c20₀, a31, b31, c31₀, kd_si, ln_si, gr_si]; first | done | assumption | omega)) ?_ | (refine And.intro (fun _ => ?_) (fun _ => ?_) <;> first | (exfalso; omega) | skip) | intro _ | fail)))
      all_goals ((conv => whnf); first | exact g₀ | (exfalso; omega))
  clear hR q3₀ hid₀ hid' L3₀ a2 L2₀
  refine hK₀ _ _ _ _ _ ?_
  (repeat' (((conv => whnf); first | (show (_ : Option mg_V) = _ ∧ _; assumption) | (show K _ _ _ _ _; assumption) | refine And.intro (by first | assumption | omega | (simp only [true_and, a5, b5, c5₀, a6, b6, c6₀, a7, b7, c7₀, a19, b19, c19₀, a20, b20, c20₀, a31, b31, c31₀, kd_si, ln_si, gr_si]; first | done | assumption | omega)) ?_ | (refine And.intro (fun _ => ?_) (fun _ => ?_) <;> first | (exfalso; omega) | skip) | intro _ | fail)))
