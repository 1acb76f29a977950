set_option maxRecDepth 100000 in
theorem cX6_copy {D : mg_D} {l : Launch} (hl : l.stackTraces = false) {M : mg_M} {m₀ : Nat} {tp lf₀ hg wd : Int → Int} {a₀ : Int} (st₀ : mm_st M m₀) (rc : mm_rc M m₀) (h4 : 0 ≤ gi M m₀ 4 ∧ gi M m₀ 4 ≤ 120) (hs : mm_si M m₀) (rt : mm_RT M m₀ tp lf₀ hg wd) (ha₀ : mh_sum (fun k₀ => if mm_ch M m₀ tp lf₀ hg wd k₀ then 1 else 0) (gi M m₀ 4).toNat = a₀) : mg_Mt D l 181 [.inr (.inl m₀)] M (fun v₀ N => v₀ = some (.inl a₀) ∧ mm_f (fun b₀ k₀ => (b₀ = m₀ ∧ (k₀ = 0 ∨ (25 ≤ k₀ ∧ k₀ ≤ 27))) ∨ b₀ = m₀ + 13 ∨ b₀ = m₀ + 14 ∨ b₀ = m₀ + 15) M N ∧ (gi N m₀ 0 = 0 ∧ gi N m₀ 25 = gi M m₀ 22 - gi M m₀ 21 + 1 ∧ gi N m₀ 26 = gi M m₀ 24 - gi M m₀ 23 + 1 ∧ gi N m₀ 27 = a₀) ∧ (∀ p₀ q₀, mh_rg (gi M m₀ 22 - gi M m₀ 21 + 1) (gi M m₀ 24 - gi M m₀ 23 + 1) p₀ q₀ → mi N (m₀ + 13) p₀ q₀ = mi M (m₀ + 1) (gi M m₀ 21 + p₀) (gi M m₀ 23 + q₀)) ∧ ∀ k₀ : Nat, k₀ < 140 → gi N (m₀ + 14) k₀ = gi M (m₀ + 2) k₀ ∧ gi N (m₀ + 15) k₀ = gi M (m₀ + 3) k₀) mg_no := by
  refine mg_of2 hl ok_X6_copy al_X6_copy rfl (fun K hK₀ => ?_)
  have k7₀ := st₀.1
  have rc' := rc
  unfold mm_rc at rc'
  obtain ⟨a6, b6, c6₀⟩ := st₀.2.1.2.1
  obtain ⟨a7, b7, c7₀⟩ := st₀.2.1.2.2.1
  obtain ⟨⟨a28, b28, c28₀⟩, ⟨a29, b29, c29₀⟩, ⟨a30, b30, c30₀⟩⟩ := st₀.2.2.2.2.2.1
  generalize eR : gi M m₀ 22 - gi M m₀ 21 + 1 = R at *
  generalize eC₀ : gi M m₀ 24 - gi M m₀ 23 + 1 = C at *
  have LC₀ : ∀ N, mm_f (fun b₀ k₀ => (b₀ = m₀ ∧ (k₀ = 0 ∨ k₀ = 25 ∨ k₀ = 26)) ∨ b₀ = m₀ + 13) M N → gi N m₀ 0 = 0 → gi N m₀ 25 = R → gi N m₀ 26 = C → (∀ p₀ q₀, mh_rg R C p₀ q₀ → mi N (m₀ + 13) p₀ q₀ = mi M (m₀ + 1) (gi M m₀ 21 + p₀) (gi M m₀ 23 + q₀)) → K 96 [(0, Sum.inr (Sum.inl m₀)), (1, Sum.inl 0)] [] N 0 := by
    intro N f₀ h0 h25 h26 v13
    refine mh_for (P := fun k₀ N' => mm_f (fun b₀ _ => b₀ = m₀ + 14 ∨ b₀ = m₀ + 15) N N' ∧ ∀ i₀ : Nat, (i₀ : Int) < k₀ → gi N' (m₀ + 14) i₀ = gi M (m₀ + 2) i₀ ∧ gi N' (m₀ + 15) i₀ = gi M (m₀ + 3) i₀) (G := fun k₀ N' => K 96 [(0, Sum.inr (Sum.inl m₀)), (1, Sum.inl k₀)] [] N' 0) (lo := 0) (hi := 140) (by omega) ?_ ?_ N ⟨mm_f_rfl, fun i₀ hi => by omega⟩
    · rintro N' ⟨f', v'⟩
      have fA : mm_f (fun b₀ k₀ => ((b₀ = m₀ ∧ (k₀ = 0 ∨ k₀ = 25 ∨ k₀ = 26)) ∨ b₀ = m₀ + 13) ∨ b₀ = m₀ + 14 ∨ b₀ = m₀ + 15) M N' := mm_f_tr (mm_f_mono f₀ (fun b₀ k₀ z₀ => Or.inl z₀)) (mm_f_mono f' (fun b₀ k₀ z₀ => Or.inr z₀))
      have stN₀ := mm_f_st fA st₀
      have k7N := stN₀.1
      have t1₀ := mm_f_gi fA m₀ 1 (by omega)
      have t2₀ := mm_f_gi fA m₀ 2 (by omega)
      have t4₀ := mm_f_gi fA m₀ 4 (by omega)
      have t21 := mm_f_gi fA m₀ 21 (by omega)
      have t22 := mm_f_gi fA m₀ 22 (by omega)
      have t23 := mm_f_gi fA m₀ 23 (by omega)
      have t24 := mm_f_gi fA m₀ 24 (by omega)
      have c₀ := cX6_chosen (D := D) hl stN₀ (mm_rc_f fA (by omega) (by omega) rc) (by omega) (by omega) (mm_RT_f fA (by omega) (by omega) (by omega) (fun j₀ => by omega) rt)
      simp only [mm_ch, t21, t22, t23, t24, t4₀] at c₀
      simp only [mm_ch] at ha₀
      rw [ha₀] at c₀
      have Q₀ : some (Sum.inl (gi (si N' m₀ 27 a₀) m₀ 27) : mg_V) = some (.inl a₀) ∧ mm_f (fun b₀ k₀ => (b₀ = m₀ ∧ (k₀ = 0 ∨ (25 ≤ k₀ ∧ k₀ ≤ 27))) ∨ b₀ = m₀ + 13 ∨ b₀ = m₀ + 14 ∨ b₀ = m₀ + 15) M (si N' m₀ 27 a₀) ∧ (gi (si N' m₀ 27 a₀) m₀ 0 = 0 ∧ gi (si N' m₀ 27 a₀) m₀ 25 = R ∧ gi (si N' m₀ 27 a₀) m₀ 26 = C ∧ gi (si N' m₀ 27 a₀) m₀ 27 = a₀) ∧ (∀ p₀ q₀, mh_rg R C p₀ q₀ → mi (si N' m₀ 27 a₀) (m₀ + 13) p₀ q₀ = mi M (m₀ + 1) (gi M m₀ 21 + p₀) (gi M m₀ 23 + q₀)) ∧ ∀ k₀ : Nat, k₀ < 140 → gi (si N' m₀ 27 a₀) (m₀ + 14) k₀ = gi M (m₀ + 2) k₀ ∧ gi (si N' m₀ 27 a₀) (m₀ + 15) k₀ = gi M (m₀ + 3) k₀ := by
        refine ⟨by rw [gi_si, if_pos ⟨rfl, rfl⟩], mm_f_si (mm_f_mono fA (fun b₀ k₀ z₀ => by omega)) (by omega), ⟨?_, ?_, ?_, ?_⟩, fun p₀ q₀ hp => ?_, fun k₀ hk => ?_⟩
        · rw [gi_si, if_neg (by omega), mm_f_gi f' m₀ 0 (by omega)]; exact h0
        · rw [gi_si, if_neg (by omega), mm_f_gi f' m₀ 25 (by omega)]; exact h25
        · rw [gi_si, if_neg (by omega), mm_f_gi f' m₀ 26 (by omega)]; exact h26
        · rw [gi_si, if_pos ⟨rfl, rfl⟩]
        · have := v13 p₀ q₀ hp
          unfold mi at this ⊢
          rw [gi_si, if_neg (by omega), mm_f_gi f' (m₀ + 13) _ (by omega)]
          exact this
        · rw [gi_si, if_neg (by omega), gi_si, if_neg (by omega)]
          exact v' k₀ (by omega)
      clear v' v13 rt ha₀
      refine hK₀ _ _ _ _ _ ?_
      (repeat' (((conv => whnf); first | (show (_ : Option mg_V) = _ ∧ _; assumption) | (show K _ _ _ _ _; assumption) | refine And.intro (by first | assumption | omega | (simp only [true_and, a28, b28, c28₀, a29, b29, c29₀, a30, b30, c30₀, a6, b6, c6₀, a7, b7, c7₀, kd_si, ln_si, gr_si]; first | done | assumption | omega)) ?_ | (refine And.intro (fun _ => ?_) (fun _ => ?_) <;> first | (exfalso; omega) | skip) | intro _ | fail)))
      all_goals (try ((conv => whnf); (refine Exists.intro _ (Exists.intro _ (And.intro (c₀) (And.intro ?_ (fun _ _ h₀ => h₀.elim)))); rintro _ _ ⟨rfl, e₀⟩; have e2₀ := e₀.symm; clear e₀; subst e2₀); (repeat' (((conv => whnf); first | (show (_ : Option mg_V) = _ ∧ _; assumption) | (show K _ _ _ _ _; assumption) | refine And.intro (by first | assumption | omega | (simp only [true_and, a28, b28, c28₀, a29, b29, c29₀, a30, b30, c30₀, a6, b6, c6₀, a7, b7, c7₀, kd_si, ln_si, gr_si]; first | done | assumption | omega)) ?_ | (refine And.intro (fun _ => ?_) (fun _ => ?_) <;> first | (exfalso; omega) | skip) | intro _ | fail)))))
    · rintro k₀ N' k0₀ k1₀ ⟨f', v'⟩ nex
      have fA : mm_f (fun b₀ k₀ => ((b₀ = m₀ ∧ (k₀ = 0 ∨ k₀ = 25 ∨ k₀ = 26)) ∨ b₀ = m₀ + 13) ∨ b₀ = m₀ + 14 ∨ b₀ = m₀ + 15) M N' := mm_f_tr (mm_f_mono f₀ (fun b₀ k₀ z₀ => Or.inl z₀)) (mm_f_mono f' (fun b₀ k₀ z₀ => Or.inr z₀))
      have stN₀ := mm_f_st fA st₀
      have k7N := stN₀.1
      obtain ⟨a6, b6, c6₀⟩ := stN₀.2.1.2.1
      obtain ⟨a7, b7, c7₀⟩ := stN₀.2.1.2.2.1
      obtain ⟨-, ⟨a29, b29, c29₀⟩, ⟨a30, b30, c30₀⟩⟩ := stN₀.2.2.2.2.2.1
      have e2₀ := mm_f_gi fA (m₀ + 2) k₀.toNat (by omega)
      have e3₀ : gi (si N' (m₀ + 14) k₀.toNat (gi M (m₀ + 2) k₀.toNat)) (m₀ + 3) k₀.toNat = gi M (m₀ + 3) k₀.toNat := by rw [gi_si, if_neg (by omega)]; exact mm_f_gi fA (m₀ + 3) k₀.toNat (by omega)
      have w₀ := nex (si (si N' (m₀ + 14) k₀.toNat (gi M (m₀ + 2) k₀.toNat)) (m₀ + 15) k₀.toNat (gi M (m₀ + 3) k₀.toNat)) ⟨mm_f_si (mm_f_si f' (by omega)) (by omega), fun i₀ hi => by
        by_cases e₀ : i₀ = k₀.toNat
        · rw [gi_si, if_neg (by omega), gi_si, if_pos ⟨rfl, e₀⟩, gi_si, if_pos ⟨rfl, e₀⟩, e₀]
          exact ⟨rfl, rfl⟩
        · rw [gi_si, if_neg (by omega), gi_si, if_neg (by omega), gi_si, if_neg (by omega), gi_si, if_neg (by omega)]
          exact v' i₀ (by omega)⟩
      clear nex v' v13 rt ha₀
      refine hK₀ _ _ _ _ _ ?_
      (repeat' (((conv => whnf); first | (show (_ : Option mg_V) = _ ∧ _; assumption) | (show K _ _ _ _ _; assumption) | refine And.intro (by first | assumption | omega | (simp only [true_and, a28, b28, c28₀, a29, b29, c29₀, a30, b30, c30₀, a6, b6, c6₀, a7, b7, c7₀, kd_si, ln_si, gr_si]; first | done | assumption | omega)) ?_ | (refine And.intro (fun _ => ?_) (fun _ => ?_) <;> first | (exfalso; omega) | skip) | intro _ | fail)))
      all_goals ((conv => whnf); simp only [gr_si, a6, a7, a29, a30, e2₀, e3₀]; exact w₀)
  have LI₀ : ∀ N, mm_f (fun b₀ k₀ => (b₀ = m₀ ∧ (k₀ = 0 ∨ k₀ = 25 ∨ k₀ = 26)) ∨ b₀ = m₀ + 13) M N → gi N m₀ 0 = 0 → gi N m₀ 25 = R → gi N m₀ 26 = C → K 37 [(0, Sum.inr (Sum.inl m₀)), (1, Sum.inl 0)] [] N 0 := by
    intro N0 f0₀ h0 h25 h26
    have st0 := mm_f_st f0₀ st₀
    refine mh_for2d (P := fun r₀ c₀ N => mm_f (fun b₀ _ => b₀ = m₀ + 13) N0 N ∧ ∀ p₀ q₀, 0 ≤ p₀ ∧ 0 ≤ q₀ ∧ q₀ < C → (p₀ < r₀ ∨ (p₀ = r₀ ∧ q₀ < c₀)) → mi N (m₀ + 13) p₀ q₀ = mi M (m₀ + 1) (gi M m₀ 21 + p₀) (gi M m₀ 23 + q₀)) (G1 := fun r₀ N => K 37 [(0, Sum.inr (Sum.inl m₀)), (1, Sum.inl r₀)] [] N 0) (G2 := fun r₀ c₀ N => K 47 [(0, Sum.inr (Sum.inl m₀)), (1, Sum.inl r₀), (2, Sum.inl c₀)] [] N 0) (R := R) (C := C) (r0 := 0) (c0 := 0) (by omega) (by omega) ?_ ?_ ?_ ?_ N0 ⟨mm_f_rfl, fun p₀ q₀ h1 h2 => by omega⟩
    · rintro N ⟨f₀, v₀⟩
      have k7N := (mm_f_st f₀ st0).1
      have t25 := (mm_f_gi f₀ m₀ 25 (by omega)).trans h25
      have g₀ := LC₀ N (mm_f_tr f0₀ (mm_f_mono f₀ (fun b₀ k₀ z₀ => by omega))) (by rw [mm_f_gi f₀ m₀ 0 (by omega)]; exact h0) t25 (by rw [mm_f_gi f₀ m₀ 26 (by omega)]; exact h26) (fun p₀ q₀ hp => v₀ p₀ q₀ (by omega) (by omega))
      clear v₀ LC₀ rt ha₀
      refine hK₀ _ _ _ _ _ ?_
      (repeat' (((conv => whnf); first | (show (_ : Option mg_V) = _ ∧ _; assumption) | (show K _ _ _ _ _; assumption) | refine And.intro (by first | assumption | omega | (simp only [true_and, a28, b28, c28₀, a29, b29, c29₀, a30, b30, c30₀, a6, b6, c6₀, a7, b7, c7₀, kd_si, ln_si, gr_si]; first | done | assumption | omega)) ?_ | (refine And.intro (fun _ => ?_) (fun _ => ?_) <;> first | (exfalso; omega) | skip) | intro _ | fail)))
    · rintro r₀ N r1₀ r2 ⟨f₀, v₀⟩ g₀
      have k7N := (mm_f_st f₀ st0).1
      have t25 := (mm_f_gi f₀ m₀ 25 (by omega)).trans h25
      clear v₀ LC₀ rt ha₀
      refine hK₀ _ _ _ _ _ ?_
      (repeat' (((conv => whnf); first | (show (_ : Option mg_V) = _ ∧ _; assumption) | (show K _ _ _ _ _; assumption) | refine And.intro (by first | assumption | omega | (simp only [true_and, a28, b28, c28₀, a29, b29, c29₀, a30, b30, c30₀, a6, b6, c6₀, a7, b7, c7₀, kd_si, ln_si, gr_si]; first | done | assumption | omega)) ?_ | (refine And.intro (fun _ => ?_) (fun _ => ?_) <;> first | (exfalso; omega) | skip) | intro _ | fail)))
    · rintro r₀ N r1₀ r2 ⟨f₀, v₀⟩
      have k7N := (mm_f_st f₀ st0).1
      have t26 := (mm_f_gi f₀ m₀ 26 (by omega)).trans h26
      refine ⟨⟨f₀, fun p₀ q₀ h1 h2 => v₀ p₀ q₀ h1 (by omega)⟩, fun g₀ => ?_⟩
      clear v₀ LC₀ rt ha₀
      refine hK₀ _ _ _ _ _ ?_
      (repeat' (((conv => whnf); first | (show (_ : Option mg_V) = _ ∧ _; assumption) | (show K _ _ _ _ _; assumption) | refine And.intro (by first | assumption | omega | (simp only [true_and, a28, b28, c28₀, a29, b29, c29₀, a30, b30, c30₀, a6, b6, c6₀, a7, b7, c7₀, kd_si, ln_si, gr_si]; first | done | assumption | omega)) ?_ | (refine And.intro (fun _ => ?_) (fun _ => ?_) <;> first | (exfalso; omega) | skip) | intro _ | fail)))
    · rintro r₀ c₀ N r1₀ r2 c1₀ c2₀ ⟨f₀, v₀⟩ nex
      have fA : mm_f (fun b₀ k₀ => (b₀ = m₀ ∧ (k₀ = 0 ∨ k₀ = 25 ∨ k₀ = 26)) ∨ b₀ = m₀ + 13) M N := mm_f_tr f0₀ (mm_f_mono f₀ (fun b₀ k₀ z₀ => Or.inr z₀))
      have stN₀ := mm_f_st fA st₀
      have k7N := stN₀.1
      have t26 := (mm_f_gi f₀ m₀ 26 (by omega)).trans h26
      have t21 := mm_f_gi fA m₀ 21 (by omega)
      have t23 := mm_f_gi fA m₀ 23 (by omega)
      obtain ⟨⟨a28, b28, c28₀⟩, -⟩ := stN₀.2.2.2.2.2.1
      have ei : mi N (m₀ + 1) (gi M m₀ 21 + r₀) (gi M m₀ 23 + c₀) = mi M (m₀ + 1) (gi M m₀ 21 + r₀) (gi M m₀ 23 + c₀) := mm_f_gi fA (m₀ + 1) _ (by omega)
      have w₀ := nex (si N (m₀ + 13) (10 * r₀ + c₀).toNat (mi M (m₀ + 1) (gi M m₀ 21 + r₀) (gi M m₀ 23 + c₀))) ⟨mm_f_si f₀ rfl, fun p₀ q₀ h1 h2 => by
        unfold mi
        rw [gi_si]
        by_cases e₀ : p₀ = r₀ ∧ q₀ = c₀
        · rw [e₀.1, e₀.2, if_pos ⟨rfl, rfl⟩]
        · rw [if_neg (by omega)]
          exact v₀ p₀ q₀ h1 (by omega)⟩
      clear nex v₀ LC₀ rt ha₀
      refine hK₀ _ _ _ _ _ ?_
      (repeat' (((conv => whnf); first | (show (_ : Option mg_V) = _ ∧ _; assumption) | (show K _ _ _ _ _; assumption) | refine And.intro (by first | assumption | omega | (simp only [true_and, a28, b28, c28₀, a29, b29, c29₀, a30, b30, c30₀, a6, b6, c6₀, a7, b7, c7₀, kd_si, ln_si, gr_si]; first | done | assumption | omega)) ?_ | (refine And.intro (fun _ => ?_) (fun _ => ?_) <;> first | (exfalso; omega) | skip) | intro _ | fail)))
      all_goals (try ((conv => whnf); (refine Exists.intro _ (Exists.intro _ (And.intro (cX6_id hl stN₀ (by omega) (by omega)) (And.intro ?_ (fun _ _ h₀ => h₀.elim)))); rintro _ _ ⟨rfl, e₀⟩; have e2₀ := e₀.symm; clear e₀; subst e2₀); (repeat' (((conv => whnf); first | (show (_ : Option mg_V) = _ ∧ _; assumption) | (show K _ _ _ _ _; assumption) | refine And.intro (by first | assumption | omega | (simp only [true_and, a28, b28, c28₀, a29, b29, c29₀, a30, b30, c30₀, a6, b6, c6₀, a7, b7, c7₀, kd_si, ln_si, gr_si]; first | done | assumption | omega)) ?_ | (refine And.intro (fun _ => ?_) (fun _ => ?_) <;> first | (exfalso; omega) | skip) | intro _ | fail)))))
      all_goals ((conv => whnf); rw [a28, t21, t23, ei]; exact w₀)
  have B₀ : ∀ x₀ y₀, x₀ = R → y₀ = C → K 37 [(0, Sum.inr (Sum.inl m₀)), (1, Sum.inl 0)] [] (si (si (si M m₀ 0 0) m₀ 25 x₀) m₀ 26 y₀) 0 := by
    intro x₀ y₀ hx hy
    exact LI₀ _ (mm_f_si (mm_f_si (mm_f_si mm_f_rfl (by omega)) (by omega)) (by omega)) (by simp [gi_si]) (by simp [gi_si]; exact hx) (by simp [gi_si]; exact hy)
  have s1₀ : gi (si M m₀ 0 0) m₀ 22 = gi M m₀ 22 := by rw [gi_si, if_neg (by omega)]
  have s2₀ : gi (si M m₀ 0 0) m₀ 21 = gi M m₀ 21 := by rw [gi_si, if_neg (by omega)]
  have s3₀ : ∀ v₀, gi (si (si M m₀ 0 0) m₀ 25 v₀) m₀ 24 = gi M m₀ 24 := fun v₀ => by rw [gi_si, if_neg (by omega), gi_si, if_neg (by omega)]
  have s4₀ : ∀ v₀, gi (si (si M m₀ 0 0) m₀ 25 v₀) m₀ 23 = gi M m₀ 23 := fun v₀ => by rw [gi_si, if_neg (by omega), gi_si, if_neg (by omega)]
  have s5 := s3₀ R
  have s6₀ := s4₀ R
  clear LC₀ LI₀ rt ha₀
  refine hK₀ _ _ _ _ _ ?_
  (repeat' (((conv => whnf); first | (show (_ : Option mg_V) = _ ∧ _; assumption) | (show K _ _ _ _ _; assumption) | refine And.intro (by first | assumption | omega | (simp only [true_and, a28, b28, c28₀, a29, b29, c29₀, a30, b30, c30₀, a6, b6, c6₀, a7, b7, c7₀, kd_si, ln_si, gr_si]; first | done | assumption | omega)) ?_ | (refine And.intro (fun _ => ?_) (fun _ => ?_) <;> first | (exfalso; omega) | skip) | intro _ | fail)))
  all_goals (try ((conv => whnf); simp only [s1₀, s2₀, s3₀, s4₀]))
  (repeat' (((conv => whnf); first | (show (_ : Option mg_V) = _ ∧ _; assumption) | (show K _ _ _ _ _; assumption) | refine And.intro (by first | assumption | omega | (simp only [true_and, a28, b28, c28₀, a29, b29, c29₀, a30, b30, c30₀, a6, b6, c6₀, a7, b7, c7₀, kd_si, ln_si, gr_si]; first | done | assumption | omega)) ?_ | (refine And.intro (fun _ => ?_) (fun _ => ?_) <;> first | (exfalso; omega) | skip) | intro _ | fail)))
  all_goals (try ((conv => whnf); simp only [s1₀, s2₀, s3₀, s4₀]))
  (repeat' (((conv => whnf); first | (show (_ : Option mg_V) = _ ∧ _; assumption) | (show K _ _ _ _ _; assumption) | refine And.intro (by first | assumption | omega | (simp only [true_and, a28, b28, c28₀, a29, b29, c29₀, a30, b30, c30₀, a6, b6, c6₀, a7, b7, c7₀, kd_si, ln_si, gr_si]; first | done | assumption | omega)) ?_ | (refine And.intro (fun _ => ?_) (fun _ => ?_) <;> first | (exfalso; omega) | skip) | intro _ | fail)))
  all_goals ((conv => whnf); (try simp only [s1₀, s2₀, s3₀, s4₀]); exact B₀ _ _ eR eC₀)
set_option maxRecDepth 100000 in
theorem cX6_isParted {D : mg_D} {l : Launch} (hl : l.stackTraces = false) {M : mg_M} {m₀ : Nat} {x₀ d₀ : Int} (st₀ : mm_st M m₀) (hx : 0 ≤ x₀ ∧ x₀ ≤ 12) (hd₀ : 1 ≤ d₀ ∧ d₀ ≤ 4) (hR : 1 ≤ gi M m₀ 25 ∧ gi M m₀ 25 ≤ 12) (hC : 1 ≤ gi M m₀ 26 ∧ gi M m₀ 26 ≤ 10) : mg_Mt D l 182 [.inr (.inl m₀), .inl x₀, .inl d₀] M (fun v₀ N => v₀ = some (.inl (mh_pr (∃ k₀, (1 ≤ k₀ ∧ k₀ < gi M m₀ 25 * d₀) ∧ (x₀ + k₀ = gi M m₀ 3 ∧ 0 < k₀ % gi M m₀ 25) ∧ ∃ c₀, (0 ≤ c₀ ∧ c₀ < gi M m₀ 26) ∧ mi M (m₀ + 13) (k₀ % gi M m₀ 25) c₀ = mi M (m₀ + 13) (k₀ % gi M m₀ 25 - 1) c₀))) ∧ N = M) mg_no := by
  refine mg_of2 hl ok_X6_isParted al_X6_isParted rfl (fun K hK₀ => ?_)
  have k7₀ := st₀.1
  obtain ⟨⟨a28, b28, c28₀⟩, -⟩ := st₀.2.2.2.2.2.1
  have hm₀ : 1 ≤ gi M m₀ 25 * d₀ ∧ gi M m₀ 25 * d₀ ≤ 48 := by
    have h1 := Int.mul_le_mul hR.2 hd₀.2 (by omega : (0 : Int) ≤ d₀) (by omega : (0 : Int) ≤ 12)
    have h2 := Int.mul_le_mul hR.1 hd₀.1 (by omega : (0 : Int) ≤ 1) (by omega : (0 : Int) ≤ gi M m₀ 25)
    omega
  have F₀ : K 5 [(0, Sum.inr (Sum.inl m₀)), (1, Sum.inl x₀), (2, Sum.inl d₀), (3, Sum.inl 0), (4, Sum.inl 1)] [] M 0 := by
    refine mh_for (P := fun k₀ u₀ => (u₀ = 0 ∨ u₀ = 1) ∧ (u₀ ≠ 0 ↔ ∃ j₀, (1 ≤ j₀ ∧ j₀ < k₀) ∧ (x₀ + j₀ = gi M m₀ 3 ∧ 0 < j₀ % gi M m₀ 25) ∧ ∃ c₀, (0 ≤ c₀ ∧ c₀ < gi M m₀ 26) ∧ mi M (m₀ + 13) (j₀ % gi M m₀ 25) c₀ = mi M (m₀ + 13) (j₀ % gi M m₀ 25 - 1) c₀)) (G := fun k₀ u₀ => K 5 [(0, Sum.inr (Sum.inl m₀)), (1, Sum.inl x₀), (2, Sum.inl d₀), (3, Sum.inl u₀), (4, Sum.inl k₀)] [] M 0) (lo := 1) (hi := gi M m₀ 25 * d₀) (by omega) ?_ ?_ 0 ⟨Or.inl rfl, ⟨fun z₀ => absurd rfl z₀, fun ⟨j₀, z₀, _⟩ => by omega⟩⟩
    · rintro u₀ ⟨p1₀, p2₀⟩
      have Q₀ : some (Sum.inl u₀ : mg_V) = some (.inl (mh_pr (∃ k₀, (1 ≤ k₀ ∧ k₀ < gi M m₀ 25 * d₀) ∧ (x₀ + k₀ = gi M m₀ 3 ∧ 0 < k₀ % gi M m₀ 25) ∧ ∃ c₀, (0 ≤ c₀ ∧ c₀ < gi M m₀ 26) ∧ mi M (m₀ + 13) (k₀ % gi M m₀ 25) c₀ = mi M (m₀ + 13) (k₀ % gi M m₀ 25 - 1) c₀))) ∧ M = M := by
        refine ⟨?_, rfl⟩
        congr 2
        refine mh_pre ?_
        rw [← p2₀]
        clear p2₀
        omega
      clear p2₀
      refine hK₀ _ _ _ _ _ ?_
      (repeat' (((conv => whnf); first | (show (_ : Option mg_V) = _ ∧ _; assumption) | (show K _ _ _ _ _; assumption) | refine And.intro (by first | assumption | omega | (simp only [true_and, a28, b28, c28₀]; first | done | assumption | omega)) ?_ | (refine And.intro (fun _ => ?_) (fun _ => ?_) <;> first | (exfalso; omega) | skip) | intro _ | fail)))
    · rintro k₀ u₀ k0₀ k1₀ ⟨p1₀, p2₀⟩ nex
      have e1₀ := Int.emod_nonneg k₀ (show gi M m₀ 25 ≠ 0 by omega)
      have e2₀ := Int.emod_lt_of_pos k₀ (show 0 < gi M m₀ 25 by omega)
      have k48 : k₀ < 48 := by omega
      have E1₀ : ∀ q₀ : Prop, (q₀ ↔ ((x₀ + k₀ = gi M m₀ 3 ∧ 0 < k₀ % gi M m₀ 25) ∧ ∃ c₀, (0 ≤ c₀ ∧ c₀ < gi M m₀ 26) ∧ mi M (m₀ + 13) (k₀ % gi M m₀ 25) c₀ = mi M (m₀ + 13) (k₀ % gi M m₀ 25 - 1) c₀)) → ((∃ j₀, (1 ≤ j₀ ∧ j₀ < k₀ + 1) ∧ (x₀ + j₀ = gi M m₀ 3 ∧ 0 < j₀ % gi M m₀ 25) ∧ ∃ c₀, (0 ≤ c₀ ∧ c₀ < gi M m₀ 26) ∧ mi M (m₀ + 13) (j₀ % gi M m₀ 25) c₀ = mi M (m₀ + 13) (j₀ % gi M m₀ 25 - 1) c₀) ↔ u₀ ≠ 0 ∨ q₀) := by
        intro q₀ hq
        rw [p2₀, hq]
        constructor
        · rintro ⟨j₀, hj, g₀⟩
          by_cases z₀ : j₀ = k₀
          · rw [z₀] at g₀; exact Or.inr g₀
          · exact Or.inl ⟨j₀, by omega, g₀⟩
        · rintro (⟨j₀, hj, g₀⟩ | g₀)
          · exact ⟨j₀, by omega, g₀⟩
          · exact ⟨k₀, by omega, g₀⟩
      by_cases c₀ : x₀ + k₀ = gi M m₀ 3 ∧ 0 < k₀ % gi M m₀ 25
      · have G9 : K 19 [(0, Sum.inr (Sum.inl m₀)), (1, Sum.inl x₀), (2, Sum.inl d₀), (3, Sum.inl u₀), (4, Sum.inl k₀), (5, Sum.inl 0)] [] M 0 := by
          refine mh_for (P := fun j₀ z₀ => (z₀ = 0 ∨ z₀ = 1) ∧ (z₀ ≠ 0 ↔ u₀ ≠ 0 ∨ ∃ i₀, (0 ≤ i₀ ∧ i₀ < j₀) ∧ mi M (m₀ + 13) (k₀ % gi M m₀ 25) i₀ = mi M (m₀ + 13) (k₀ % gi M m₀ 25 - 1) i₀)) (G := fun j₀ z₀ => K 19 [(0, Sum.inr (Sum.inl m₀)), (1, Sum.inl x₀), (2, Sum.inl d₀), (3, Sum.inl z₀), (4, Sum.inl k₀), (5, Sum.inl j₀)] [] M 0) (lo := 0) (hi := gi M m₀ 26) (by omega) ?_ ?_ u₀ ⟨p1₀, ⟨fun z₀ => Or.inl z₀, fun z₀ => z₀.elim id (fun ⟨i₀, z₀, _⟩ => by omega)⟩⟩
          · rintro z₀ ⟨z1, z2⟩
            have g₀ := nex z₀ ⟨z1, by rw [z2]; exact (E1₀ _ ⟨fun w₀ => ⟨c₀, w₀⟩, fun w₀ => w₀.2⟩).symm⟩
            clear nex E1₀ p2₀ z2
            refine hK₀ _ _ _ _ _ ?_
            (repeat' (((conv => whnf); first | (show (_ : Option mg_V) = _ ∧ _; assumption) | (show K _ _ _ _ _; assumption) | refine And.intro (by first | assumption | omega | (simp only [true_and, a28, b28, c28₀]; first | done | assumption | omega)) ?_ | (refine And.intro (fun _ => ?_) (fun _ => ?_) <;> first | (exfalso; omega) | skip) | intro _ | fail)))
          · rintro j₀ z₀ j0 j1 ⟨z1, z2⟩ nex2
            have E2 : (∃ i₀, (0 ≤ i₀ ∧ i₀ < j₀ + 1) ∧ mi M (m₀ + 13) (k₀ % gi M m₀ 25) i₀ = mi M (m₀ + 13) (k₀ % gi M m₀ 25 - 1) i₀) ↔ (∃ i₀, (0 ≤ i₀ ∧ i₀ < j₀) ∧ mi M (m₀ + 13) (k₀ % gi M m₀ 25) i₀ = mi M (m₀ + 13) (k₀ % gi M m₀ 25 - 1) i₀) ∨ mi M (m₀ + 13) (k₀ % gi M m₀ 25) j₀ = mi M (m₀ + 13) (k₀ % gi M m₀ 25 - 1) j₀ := by
              constructor
              · rintro ⟨i₀, hi, e₀⟩
                by_cases w₀ : i₀ = j₀
                · rw [w₀] at e₀; exact Or.inr e₀
                · exact Or.inl ⟨i₀, by omega, e₀⟩
              · rintro (⟨i₀, hi, e₀⟩ | e₀)
                · exact ⟨i₀, by omega, e₀⟩
                · exact ⟨j₀, by omega, e₀⟩
            have nex3 : ∀ w₀, (w₀ = 0 ∨ w₀ = 1) → (w₀ ≠ 0 ↔ z₀ ≠ 0 ∨ mi M (m₀ + 13) (k₀ % gi M m₀ 25) j₀ = mi M (m₀ + 13) (k₀ % gi M m₀ 25 - 1) j₀) → K 19 [(0, Sum.inr (Sum.inl m₀)), (1, Sum.inl x₀), (2, Sum.inl d₀), (3, Sum.inl w₀), (4, Sum.inl k₀), (5, Sum.inl (j₀ + 1))] [] M 0 := by
              intro w₀ w1₀ w2₀
              refine nex2 w₀ ⟨w1₀, ?_⟩
              rw [w2₀, E2, z2, or_assoc]
            have y1 : gi M (gr M m₀ 28) (10 * (k₀ % gi M m₀ 25) + j₀).toNat = mi M (m₀ + 13) (k₀ % gi M m₀ 25) j₀ := by rw [a28]; rfl
            have y2 : gi M (gr M m₀ 28) (10 * (k₀ % gi M m₀ 25 - 1) + j₀).toNat = mi M (m₀ + 13) (k₀ % gi M m₀ 25 - 1) j₀ := by rw [a28]; rfl
            clear nex nex2 E1₀ E2 p2₀ z2
            refine hK₀ _ _ _ _ _ ?_
            (repeat' (((conv => whnf); first | (show (_ : Option mg_V) = _ ∧ _; assumption) | (show K _ _ _ _ _; assumption) | refine And.intro (by first | assumption | omega | (simp only [true_and, a28, b28, c28₀]; first | done | assumption | omega)) ?_ | (refine And.intro (fun _ => ?_) (fun _ => ?_) <;> first | (exfalso; omega) | skip) | intro _ | fail)))
            all_goals ((conv => whnf); exact nex3 _ (by omega) (by omega))
        clear nex E1₀ p2₀
        refine hK₀ _ _ _ _ _ ?_
        (repeat' (((conv => whnf); first | (show (_ : Option mg_V) = _ ∧ _; assumption) | (show K _ _ _ _ _; assumption) | refine And.intro (by first | assumption | omega | (simp only [true_and, a28, b28, c28₀]; first | done | assumption | omega)) ?_ | (refine And.intro (fun _ => ?_) (fun _ => ?_) <;> first | (exfalso; omega) | skip) | intro _ | fail)))
      · have g₀ := nex u₀ ⟨p1₀, by rw [(E1₀ False ⟨fun z₀ => z₀.elim, fun z₀ => c₀ z₀.1⟩)]; exact ⟨fun z₀ => Or.inl z₀, fun z₀ => z₀.elim id (fun w₀ => w₀.elim)⟩⟩
        have G9 : K 19 [(0, Sum.inr (Sum.inl m₀)), (1, Sum.inl x₀), (2, Sum.inl d₀), (3, Sum.inl u₀), (4, Sum.inl k₀), (5, Sum.inl 0)] [] M 0 := by
          clear nex E1₀ p2₀
          refine hK₀ _ _ _ _ _ ?_
          (repeat' (((conv => whnf); first | (show (_ : Option mg_V) = _ ∧ _; assumption) | (show K _ _ _ _ _; assumption) | refine And.intro (by first | assumption | omega | (simp only [true_and, a28, b28, c28₀]; first | done | assumption | omega)) ?_ | (refine And.intro (fun _ => ?_) (fun _ => ?_) <;> first | (exfalso; omega) | skip) | intro _ | fail)))
        clear nex E1₀ p2₀
        refine hK₀ _ _ _ _ _ ?_
        (repeat' (((conv => whnf); first | (show (_ : Option mg_V) = _ ∧ _; assumption) | (show K _ _ _ _ _; assumption) | refine And.intro (by first | assumption | omega | (simp only [true_and, a28, b28, c28₀]; first | done | assumption | omega)) ?_ | (refine And.intro (fun _ => ?_) (fun _ => ?_) <;> first | (exfalso; omega) | skip) | intro _ | fail)))
  refine hK₀ _ _ _ _ _ ?_
  (repeat' (((conv => whnf); first | (show (_ : Option mg_V) = _ ∧ _; assumption) | (show K _ _ _ _ _; assumption) | refine And.intro (by first | assumption | omega | (simp only [true_and, a28, b28, c28₀]; first | done | assumption | omega)) ?_ | (refine And.intro (fun _ => ?_) (fun _ => ?_) <;> first | (exfalso; omega) | skip) | intro _ | fail)))
