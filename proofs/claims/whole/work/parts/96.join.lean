/-! Table₀.join: the cells₀ of an area become one -/
set_option maxRecDepth 100000 in
theorem cX4_join {D : mg_D} {l : Launch} (hl : l.stackTraces = false) {M : mg_M} {t₀ b₀ : Nat} {su : Int} (tl : mh_tl M t₀) (nb : mh_nb M t₀) (hb₀ : kd M b₀ = 1) (har : mh_ar M t₀ b₀) (hbt : b₀ < t₀ ∨ t₀ + 129 ≤ b₀) (h4 : ∀ i₀ : Nat, (i₀ : Int) < gi M (t₀ + 3) 0 → 0 ≤ gi M (gr M (t₀ + 3 + 1) i₀) 4 ∧ gi M (gr M (t₀ + 3 + 1) i₀) 4 ≤ 999) (hcl : ∀ i₀ : Nat, (i₀ : Int) < gi M (t₀ + 3) 0 → ∀ p₀ q₀, mh_cv M t₀ i₀ p₀ q₀ → (gi M b₀ 0 ≤ p₀ ∧ p₀ ≤ gi M b₀ 2) ∧ (gi M b₀ 1 ≤ q₀ ∧ q₀ ≤ gi M b₀ 3) → mh_in M (gr M (t₀ + 3 + 1) i₀) b₀ = true) (hsu : mh_sum (fun i₀ => (if mh_bi (mh_in M (gr M (t₀ + 3 + 1) i₀) b₀) = 0 then (0 : Int) else gi M (gr M (t₀ + 3 + 1) i₀) 4)) (gi M (t₀ + 3) 0).toNat = su) : mg_Mt D l 64 [.inr (.inl t₀), .inr (.inl b₀)] M (fun v₀ N => v₀ = none ∧ mh_np M N t₀ (gi M t₀ 0) (gi M t₀ 1) (gi M t₀ 2) (fun p₀ q₀ => if (gi M b₀ 0 ≤ p₀ ∧ p₀ ≤ gi M b₀ 2) ∧ (gi M b₀ 1 ≤ q₀ ∧ q₀ ≤ gi M b₀ 3) then gi M b₀ 0 else gi M (mh_co M t₀ p₀ q₀) 0) (fun p₀ q₀ => if (gi M b₀ 0 ≤ p₀ ∧ p₀ ≤ gi M b₀ 2) ∧ (gi M b₀ 1 ≤ q₀ ∧ q₀ ≤ gi M b₀ 3) then gi M b₀ 1 else gi M (mh_co M t₀ p₀ q₀) 1) (fun p₀ q₀ => if (gi M b₀ 0 ≤ p₀ ∧ p₀ ≤ gi M b₀ 2) ∧ (gi M b₀ 1 ≤ q₀ ∧ q₀ ≤ gi M b₀ 3) then gi M b₀ 2 - gi M b₀ 0 + 1 else gi M (mh_co M t₀ p₀ q₀) 2) (fun p₀ q₀ => if (gi M b₀ 0 ≤ p₀ ∧ p₀ ≤ gi M b₀ 2) ∧ (gi M b₀ 1 ≤ q₀ ∧ q₀ ≤ gi M b₀ 3) then gi M b₀ 3 - gi M b₀ 1 + 1 else gi M (mh_co M t₀ p₀ q₀) 3) (fun p₀ q₀ => if (gi M b₀ 0 ≤ p₀ ∧ p₀ ≤ gi M b₀ 2) ∧ (gi M b₀ 1 ≤ q₀ ∧ q₀ ≤ gi M b₀ 3) then su else gi M (mh_co M t₀ p₀ q₀) 4) (fun p₀ q₀ => if (gi M b₀ 0 ≤ p₀ ∧ p₀ ≤ gi M b₀ 2) ∧ (gi M b₀ 1 ≤ q₀ ∧ q₀ ≤ gi M b₀ 3) then gi M (mh_co M t₀ (gi M b₀ 0) (gi M b₀ 1)) 5 else gi M (mh_co M t₀ p₀ q₀) 5) (fun k₀ => gi M (t₀ + 2) k₀.toNat) (fun k₀ => gi M (t₀ + 1) k₀.toNat)) mg_no := by
  refine mg_of2 hl ok_X4_join al_X4_join rfl (fun K hK₀ => ?_)
  have tb₀ := tl.1
  have cl₀ := tl.2.1
  have bb := tb₀.2.2
  have ar := har
  unfold mh_ar at ar
  have csm := mh_tl_sm tl
  have sum₀ := @cX3_sumIn D l hl M (t₀ + 3) b₀ cl₀ csm hb₀ h4
  rw [hsu] at sum₀
  have ce := @cX4_cellAt D l hl M t₀ (gi M b₀ 0) (gi M b₀ 1) tl (by omega) (by omega) (nb _ _ (by omega) (by omega) (by omega) (by omega))
  have kce : kd M (mh_co M t₀ (gi M b₀ 0) (gi M b₀ 1)) = 3 := by
    obtain ⟨i₀, hi, _, e₀⟩ := @mh_tl_ow M t₀ (gi M b₀ 0) (gi M b₀ 1) tl (by omega) (by omega) (nb _ _ (by omega) (by omega) (by omega) (by omega))
    unfold mh_co
    rw [e₀, Int.toNat_natCast]
    have z₀ := cl₀.2.2.2.2.2.2.1
    exact (cl₀.2.2.2.2.2.2.2.1 i₀ (by omega)).1
  have ri := @cX3_removeIn D l hl M (t₀ + 3) b₀ cl₀ csm hb₀
  have LR := mh_lz_ri (T := fun p₀ q₀ => if (gi M b₀ 0 ≤ p₀ ∧ p₀ ≤ gi M b₀ 2) ∧ (gi M b₀ 1 ≤ q₀ ∧ q₀ ≤ gi M b₀ 3) then gi M b₀ 0 else gi M (mh_co M t₀ p₀ q₀) 0) (L₀ := fun p₀ q₀ => if (gi M b₀ 0 ≤ p₀ ∧ p₀ ≤ gi M b₀ 2) ∧ (gi M b₀ 1 ≤ q₀ ∧ q₀ ≤ gi M b₀ 3) then gi M b₀ 1 else gi M (mh_co M t₀ p₀ q₀) 1) (H₀ := fun p₀ q₀ => if (gi M b₀ 0 ≤ p₀ ∧ p₀ ≤ gi M b₀ 2) ∧ (gi M b₀ 1 ≤ q₀ ∧ q₀ ≤ gi M b₀ 3) then gi M b₀ 2 - gi M b₀ 0 + 1 else gi M (mh_co M t₀ p₀ q₀) 2) (W₀ := fun p₀ q₀ => if (gi M b₀ 0 ≤ p₀ ∧ p₀ ≤ gi M b₀ 2) ∧ (gi M b₀ 1 ≤ q₀ ∧ q₀ ≤ gi M b₀ 3) then gi M b₀ 3 - gi M b₀ 1 + 1 else gi M (mh_co M t₀ p₀ q₀) 3) (cn := fun p₀ q₀ => if (gi M b₀ 0 ≤ p₀ ∧ p₀ ≤ gi M b₀ 2) ∧ (gi M b₀ 1 ≤ q₀ ∧ q₀ ≤ gi M b₀ 3) then su else gi M (mh_co M t₀ p₀ q₀) 4) (sy := fun p₀ q₀ => if (gi M b₀ 0 ≤ p₀ ∧ p₀ ≤ gi M b₀ 2) ∧ (gi M b₀ 1 ≤ q₀ ∧ q₀ ≤ gi M b₀ 3) then gi M (mh_co M t₀ (gi M b₀ 0) (gi M b₀ 1)) 5 else gi M (mh_co M t₀ p₀ q₀) 5) tl nb (by omega) hcl (fun p₀ q₀ h₀ n₀ => by simp only [if_neg n₀]; exact ⟨⟨trivial, trivial, trivial, trivial⟩, trivial, trivial⟩)
  have k5₀ := tb₀.1.1
  have g5₀ : gr M t₀ 5 = t₀ + 3 := tb₀.1.2.2.2.1
  have g5n : gr M t₀ 5 ≠ 0 := by omega
  have kc₀ : kd M (gr M t₀ 5) = 4 := by rw [g5₀]; exact cl₀.1
  generalize mh_ri (t₀ + 3) b₀ (gi M (t₀ + 3) 0).toNat M = X₀ at *
  obtain ⟨n120, AD₀⟩ := mh_lz_add (Z₀ := X₀) (r₀ := gi M b₀ 0) (s₀ := gi M b₀ 1) (u₀ := gi M b₀ 2 - gi M b₀ 0 + 1) (v₀ := gi M b₀ 3 - gi M b₀ 1 + 1) (c₀ := su) (y₀ := gi M (mh_co M t₀ (gi M b₀ 0) (gi M b₀ 1)) 5) (A' := fun _ _ => True) tb₀ LR (by omega) (by omega) (fun p₀ q₀ h1 h2 => by
    have w₀ : (gi M b₀ 0 ≤ p₀ ∧ p₀ ≤ gi M b₀ 2) ∧ (gi M b₀ 1 ≤ q₀ ∧ q₀ ≤ gi M b₀ 3) := by omega
    refine ⟨fun h₀ => h₀ w₀, ?_⟩
    simp only [if_pos w₀]
    exact ⟨⟨trivial, trivial, trivial, trivial⟩, trivial, trivial⟩) (fun p₀ q₀ => ⟨fun _ => by omega, fun _ => trivial⟩) rfl
  have ST₀ := cX4_settleL (D := D) hl tb₀ AD₀ (fun _ _ _ => trivial)
  have f₀ := LR.1.1
  have clX := LR.1.2
  have x5₀ : kd X₀ t₀ = 5 := (f₀.1 t₀).trans k5₀
  have xb : kd X₀ b₀ = 1 := (f₀.1 b₀).trans hb₀
  have xg : gr X₀ t₀ 5 = t₀ + 3 := ((f₀.2.2.1 t₀ 5).resolve_left (by omega)).trans g5₀
  have xgn : gr X₀ t₀ 5 ≠ 0 := by omega
  have kcX : kd X₀ (gr X₀ t₀ 5) = 4 := by rw [xg]; exact clX.1
  have v0₀ : gi X₀ b₀ 0 = gi M b₀ 0 := (f₀.2.2.2.2.2.2 b₀ 0).resolve_left (by omega)
  have v1₀ : gi X₀ b₀ 1 = gi M b₀ 1 := (f₀.2.2.2.2.2.2 b₀ 1).resolve_left (by omega)
  have ad := @cX3_add D l hl X₀ (t₀ + 3) (gi M b₀ 0) (gi M b₀ 1) (gi M b₀ 2 - gi M b₀ 0 + 1) (gi M b₀ 3 - gi M b₀ 1 + 1) clX n120
  have z₀ := clX.2.2.2.2.2.2.1
  obtain ⟨a₀, ha₀⟩ : ∃ a₀, gr X₀ (t₀ + 3 + 1) (gi X₀ (t₀ + 3) 0).toNat = a₀ := ⟨_, rfl⟩
  have ka : kd X₀ a₀ = 3 := by rw [← ha₀]; exact (clX.2.2.2.2.2.2.2.1 _ (by omega)).1
  have ad2 : mg_Mt D l 20 [.inr (.inl (t₀ + 3)), .inl (gi M b₀ 0), .inl (gi M b₀ 1), .inl (gi M b₀ 2 - gi M b₀ 0 + 1), .inl (gi M b₀ 3 - gi M b₀ 1 + 1)] X₀ (fun v₀ M' => v₀ = some (.inr (.inl (gr X₀ (t₀ + 3 + 1) (gi X₀ (t₀ + 3) 0).toNat))) ∧ M' = mh_ad X₀ (t₀ + 3) (gi M b₀ 0) (gi M b₀ 1) (gi M b₀ 2 - gi M b₀ 0 + 1) (gi M b₀ 3 - gi M b₀ 1 + 1)) mg_no := ad
  rw [ha₀] at ad2 ST₀
  have yk : kd (mh_ad X₀ (t₀ + 3) (gi M b₀ 0) (gi M b₀ 1) (gi M b₀ 2 - gi M b₀ 0 + 1) (gi M b₀ 3 - gi M b₀ 1 + 1)) a₀ = 3 := ka
  have yt : kd (mh_ad X₀ (t₀ + 3) (gi M b₀ 0) (gi M b₀ 1) (gi M b₀ 2 - gi M b₀ 0 + 1) (gi M b₀ 3 - gi M b₀ 1 + 1)) t₀ = 5 := x5₀
  have fi := @cX2_fill D l hl (mh_ad X₀ (t₀ + 3) (gi M b₀ 0) (gi M b₀ 1) (gi M b₀ 2 - gi M b₀ 0 + 1) (gi M b₀ 3 - gi M b₀ 1 + 1)) a₀ su (gi M (mh_co M t₀ (gi M b₀ 0) (gi M b₀ 1)) 5) yk
  generalize mh_ad X₀ (t₀ + 3) (gi M b₀ 0) (gi M b₀ 1) (gi M b₀ 2 - gi M b₀ 0 + 1) (gi M b₀ 3 - gi M b₀ 1 + 1) = Y at *
  clear LR AD₀ tl nb tb₀ cl₀ csm hcl h4 hsu ad f₀ clX
  refine hK₀ _ _ _ _ _ ?_
  (repeat' (((conv => whnf); first | (show (_ : Option mg_V) = _ ∧ _; assumption) | (show K _ _ _ _ _; assumption) | (show mm_th _ _ _ _; assumption) | refine And.intro (by first | assumption | omega | (simp only [true_and, kd_si, gr_si]; first | done | assumption | omega)) ?_ | (refine And.intro (fun _ => ?_) (fun _ => ?_) <;> first | (exfalso; omega) | skip) | intro _ | fail)))
  all_goals ((conv => whnf); try rw [g5₀])
  (refine Exists.intro _ (Exists.intro _ (And.intro (sum₀) (And.intro ?_ (fun _ _ h₀ => h₀.elim)))); rintro _ _ ⟨rfl, e₀⟩; have e2₀ := e₀.symm; clear e₀; subst e2₀)
  (repeat' (((conv => whnf); first | (show (_ : Option mg_V) = _ ∧ _; assumption) | (show K _ _ _ _ _; assumption) | (show mm_th _ _ _ _; assumption) | refine And.intro (by first | assumption | omega | (simp only [true_and, kd_si, gr_si]; first | done | assumption | omega)) ?_ | (refine And.intro (fun _ => ?_) (fun _ => ?_) <;> first | (exfalso; omega) | skip) | intro _ | fail)))
  all_goals ((conv => whnf); skip)
  (refine Exists.intro _ (Exists.intro _ (And.intro (ce) (And.intro ?_ (fun _ _ h₀ => h₀.elim)))); rintro _ _ ⟨rfl, e₀⟩; have e2₀ := e₀.symm; clear e₀; subst e2₀)
  (repeat' (((conv => whnf); first | (show (_ : Option mg_V) = _ ∧ _; assumption) | (show K _ _ _ _ _; assumption) | (show mm_th _ _ _ _; assumption) | refine And.intro (by first | assumption | omega | (simp only [true_and, kd_si, gr_si]; first | done | assumption | omega)) ?_ | (refine And.intro (fun _ => ?_) (fun _ => ?_) <;> first | (exfalso; omega) | skip) | intro _ | fail)))
  all_goals ((conv => whnf); try rw [g5₀])
  (refine Exists.intro _ (Exists.intro _ (And.intro (ri) (And.intro ?_ (fun _ _ h₀ => h₀.elim)))); rintro _ _ ⟨rfl, e₀⟩; have e2₀ := e₀.symm; clear e₀; subst e2₀)
  (repeat' (((conv => whnf); first | (show (_ : Option mg_V) = _ ∧ _; assumption) | (show K _ _ _ _ _; assumption) | (show mm_th _ _ _ _; assumption) | refine And.intro (by first | assumption | omega | (simp only [true_and, kd_si, gr_si]; first | done | assumption | omega)) ?_ | (refine And.intro (fun _ => ?_) (fun _ => ?_) <;> first | (exfalso; omega) | skip) | intro _ | fail)))
  all_goals ((conv => whnf); try rw [xg, v0₀, v1₀])
  (refine Exists.intro _ (Exists.intro _ (And.intro (ad2) (And.intro ?_ (fun _ _ h₀ => h₀.elim)))); rintro _ _ ⟨rfl, e₀⟩; have e2₀ := e₀.symm; clear e₀; subst e2₀)
  (repeat' (((conv => whnf); first | (show (_ : Option mg_V) = _ ∧ _; assumption) | (show K _ _ _ _ _; assumption) | (show mm_th _ _ _ _; assumption) | refine And.intro (by first | assumption | omega | (simp only [true_and, kd_si, gr_si]; first | done | assumption | omega)) ?_ | (refine And.intro (fun _ => ?_) (fun _ => ?_) <;> first | (exfalso; omega) | skip) | intro _ | fail)))
  all_goals ((conv => whnf); skip)
  (refine Exists.intro _ (Exists.intro _ (And.intro (fi) (And.intro ?_ (fun _ _ h₀ => h₀.elim)))); rintro _ _ ⟨rfl, e₀⟩; have e2₀ := e₀.symm; clear e₀; subst e2₀)
  (repeat' (((conv => whnf); first | (show (_ : Option mg_V) = _ ∧ _; assumption) | (show K _ _ _ _ _; assumption) | (show mm_th _ _ _ _; assumption) | refine And.intro (by first | assumption | omega | (simp only [true_and, kd_si, gr_si]; first | done | assumption | omega)) ?_ | (refine And.intro (fun _ => ?_) (fun _ => ?_) <;> first | (exfalso; omega) | skip) | intro _ | fail)))
  all_goals ((conv => whnf); skip)
  refine Exists.intro _ (Exists.intro _ (And.intro (ST₀) (And.intro ?_ (fun _ _ h₀ => h₀.elim))))
  rintro _ N9 ⟨rfl, Q1₀⟩
  have Q₀ := And.intro (Eq.refl (none : Option mg_V)) Q1₀
  (repeat' (((conv => whnf); first | (show (_ : Option mg_V) = _ ∧ _; assumption) | (show K _ _ _ _ _; assumption) | (show mm_th _ _ _ _; assumption) | refine And.intro (by first | assumption | omega | (simp only [true_and, kd_si, gr_si]; first | done | assumption | omega)) ?_ | (refine And.intro (fun _ => ?_) (fun _ => ?_) <;> first | (exfalso; omega) | skip) | intro _ | fail)))
