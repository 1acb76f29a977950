set_option maxRecDepth 100000 in
theorem cX1_take {D : mg_D} {l : Launch} (hl : l.stackTraces = false) {M : mg_M} {t₀ b₀ k₀ : Nat} {U₀ V : Int} (tl : mh_tl M t₀) (nb : mh_nb M t₀) (hb₀ : kd M b₀ = 1) (har : mh_ar M t₀ b₀) (hk : kd M k₀ = 2 ∧ gr M k₀ 2 = k₀ + 1) (clB₀ : mg_cL M (k₀ + 1)) (hkt : k₀ + 124 ≤ t₀ ∨ t₀ + 129 ≤ k₀) (hbk : b₀ < k₀ ∨ k₀ + 124 ≤ b₀) (hcl : ∀ i₀ : Nat, (i₀ : Int) < gi M (t₀ + 3) 0 → ∀ p₀ q₀, mh_cv M t₀ i₀ p₀ q₀ → (gi M b₀ 0 ≤ p₀ ∧ p₀ ≤ gi M b₀ 2) ∧ (gi M b₀ 1 ≤ q₀ ∧ q₀ ≤ gi M b₀ 3) → mh_in M (gr M (t₀ + 3 + 1) i₀) b₀ = true) (hU : U₀ = gi M b₀ 2 - gi M b₀ 0 + 1) (hV : V = gi M b₀ 3 - gi M b₀ 1 + 1) : mg_Mt D l 36 [.inr (.inl k₀), .inr (.inl (t₀ + 3)), .inr (.inl b₀)] M (fun v₀ N => v₀ = none ∧ mh_tK M N t₀ b₀ k₀ U₀ V) mg_no := by
  refine mg_of2 hl ok_X1_take al_X1_take rfl (fun K hK₀ => ?_)
  have tb₀ := tl.1
  have cl₀ := tl.2.1
  have bb := tb₀.2.2
  have z₀ := cl₀.2.2.2.2.2.2.1
  have ar := har
  unfold mh_ar at ar
  obtain ⟨n₀, hn⟩ : ∃ n₀ : Nat, gi M (t₀ + 3) 0 = n₀ := ⟨(gi M (t₀ + 3) 0).toNat, by omega⟩
  have cnb : ∀ j₀ : Nat, 0 ≤ mh_cnt M t₀ b₀ j₀ ∧ mh_cnt M t₀ b₀ j₀ ≤ j₀ := fun j₀ => by
    have := mh_suml (fun i₀ => mh_bi (mh_in M (gr M (t₀ + 3 + 1) i₀) b₀)) 1 j₀ (fun i₀ _ => mh_bi9 _)
    unfold mh_cnt
    omega
  have LP₀ : ∀ Z0, mm_f (mh_tf k₀) M Z0 → (gi Z0 k₀ 0 = U₀ ∧ gi Z0 k₀ 1 = V) → mg_cL Z0 (k₀ + 1) → gi Z0 (k₀ + 1) 0 = 0 → K 40 [(0, Sum.inr (Sum.inl k₀)), (1, Sum.inr (Sum.inl (t₀ + 3))), (2, Sum.inr (Sum.inl b₀)), (3, Sum.inl 0)] [] Z0 0 := by
    intro Z0 a0₀ a1₀ a2 a3
    refine mh_for (P := fun j₀ Z₀ => mm_f (mh_tf k₀) M Z₀ ∧ (gi Z₀ k₀ 0 = U₀ ∧ gi Z₀ k₀ 1 = V) ∧ mg_cL Z₀ (k₀ + 1) ∧ gi Z₀ (k₀ + 1) 0 = mh_cnt M t₀ b₀ j₀.toNat ∧ (∀ j' : Nat, (j' : Int) < j₀ → mh_in M (gr M (t₀ + 3 + 1) j') b₀ = true → mh_cnt M t₀ b₀ j' < mh_cnt M t₀ b₀ j₀.toNat ∧ mh_tv M Z₀ b₀ (gr M (t₀ + 3 + 1) j') (gr Z₀ (k₀ + 1 + 1) (mh_cnt M t₀ b₀ j').toNat)) ∧ ∀ i₀ : Nat, (i₀ : Int) < mh_cnt M t₀ b₀ j₀.toNat → ∃ j' : Nat, (j' : Int) < j₀ ∧ mh_in M (gr M (t₀ + 3 + 1) j') b₀ = true ∧ mh_cnt M t₀ b₀ j' = i₀) (G := fun j₀ Z₀ => K 40 [(0, Sum.inr (Sum.inl k₀)), (1, Sum.inr (Sum.inl (t₀ + 3))), (2, Sum.inr (Sum.inl b₀)), (3, Sum.inl j₀)] [] Z₀ 0) (lo := 0) (hi := n₀) (by omega) ?_ ?_ Z0 ⟨a0₀, a1₀, a2, a3, fun j' h₀ => by omega, fun i₀ h₀ => by
      have h' : (i₀ : Int) < 0 := h₀
      omega⟩
    · rintro Z₀ ⟨f₀, e0₀, clZ, es, h1, h2⟩
      rw [Int.toNat_natCast] at es h1 h2
      have Q₀ : (none : Option mg_V) = none ∧ mh_tK M Z₀ t₀ b₀ k₀ U₀ V := ⟨rfl, mh_tK_of tl nb har hkt hcl hn hU hV f₀ clZ e0₀ es (fun j₀ hj hin => h1 j₀ (by omega) hin) (fun i₀ hi => by
        obtain ⟨j₀, x₀, y₀⟩ := h2 i₀ hi
        exact ⟨j₀, by omega, y₀⟩)⟩
      have kc₀ : kd Z₀ (t₀ + 3) = 4 := (f₀.1 _).trans cl₀.1
      have sz₀ : gi Z₀ (t₀ + 3) 0 = n₀ := (mm_f_gi f₀ (t₀ + 3) 0 (by unfold mh_tf; omega)).trans hn
      clear f₀ h1 h2 tl nb hcl cl₀ tb₀ clZ
      refine hK₀ _ _ _ _ _ ?_
      (repeat' (((conv => whnf); first | (show (_ : Option mg_V) = _ ∧ _; assumption) | (show K _ _ _ _ _; assumption) | (show mm_th _ _ _ _; assumption) | refine And.intro (by first | assumption | omega | (simp only [true_and, kd_si, gr_si]; first | done | assumption | omega)) ?_ | (refine And.intro (fun _ => ?_) (fun _ => ?_) <;> first | (exfalso; omega) | skip) | intro _ | fail)))
    · rintro j₀ Z₀ j0 j1 ⟨f₀, e0₀, clZ, es, h1, h2⟩ nex
      obtain ⟨a₀, ha₀⟩ : ∃ a₀, gr M (t₀ + 3 + 1) j₀.toNat = a₀ := ⟨_, rfl⟩
      have ai := cl₀.2.2.2.2.2.2.2.1 j₀.toNat (by omega)
      have o := tl.2.2.1 j₀.toNat (by omega)
      unfold mh_ok at o
      rw [ha₀] at ai o
      have av : ∀ x₀, gi Z₀ a₀ x₀ = gi M a₀ x₀ := fun x₀ => mm_f_gi f₀ a₀ x₀ (by unfold mh_tf; omega)
      have bv₀ : ∀ x₀, gi Z₀ b₀ x₀ = gi M b₀ x₀ := fun x₀ => mm_f_gi f₀ b₀ x₀ (by unfold mh_tf; omega)
      have c1₀ : mh_cnt M t₀ b₀ (j₀ + 1).toNat = mh_cnt M t₀ b₀ j₀.toNat + mh_bi (mh_in M a₀ b₀) := by
        rw [← ha₀]
        exact mh_sumI (g₀ := fun i₀ => mh_bi (mh_in M (gr M (t₀ + 3 + 1) i₀) b₀)) j0
      have cj := cnb j₀.toNat
      have kc₀ : kd Z₀ (t₀ + 3) = 4 := (f₀.1 _).trans cl₀.1
      have sz₀ : gi Z₀ (t₀ + 3) 0 = n₀ := (mm_f_gi f₀ (t₀ + 3) 0 (by unfold mh_tf; omega)).trans hn
      have clT : mg_cL Z₀ (t₀ + 3) := mh_fr_cL cl₀ f₀.1 f₀.2.1 f₀.2.2.1 (sz₀.trans hn.symm)
      have gt := @cX3_get D l hl Z₀ (t₀ + 3) j₀ clT (by omega)
      rw [f₀.2.2.1, ha₀] at gt
      have ka : kd Z₀ a₀ = 3 := (f₀.1 a₀).trans ai.1
      have kb : kd Z₀ b₀ = 1 := (f₀.1 b₀).trans hb₀
      have kk : kd Z₀ k₀ = 2 := (f₀.1 k₀).trans hk.1
      have kg : gr Z₀ k₀ 2 = k₀ + 1 := (f₀.2.2.1 k₀ 2).trans hk.2
      have kgn : gr Z₀ k₀ 2 ≠ 0 := by omega
      have kcZ : kd Z₀ (gr Z₀ k₀ 2) = 4 := by rw [kg]; exact clZ.1
      have sm₀ : mg_sm Z₀ a₀ := ⟨ka, by rw [av, av]; omega, by rw [av, av]; omega⟩
      have wi := @cX2_within D l hl Z₀ a₀ b₀ sm₀ kb
      have ein : mh_in Z₀ a₀ b₀ = mh_in M a₀ b₀ := by
        unfold mh_in
        simp only [av, bv₀]
      rw [ein] at wi
      cases hin : mh_in M a₀ b₀ with
      | false =>
        rw [hin] at wi c1₀
        have wi' : mg_Mt D l 7 [.inr (.inl a₀), .inr (.inl b₀)] Z₀ (fun v₀ M' => v₀ = some (.inl 0) ∧ M' = Z₀) mg_no := wi
        have c2₀ : mh_cnt M t₀ b₀ (j₀ + 1).toNat = mh_cnt M t₀ b₀ j₀.toNat := by rw [c1₀]; show _ + 0 = _; omega
        have G9 := nex Z₀ ⟨f₀, e0₀, clZ, by rw [c2₀]; exact es, fun j' hj' hi' => by
          rw [c2₀]
          by_cases y₀ : (j' : Int) < j₀
          · exact h1 j' y₀ hi'
          · rw [show j' = j₀.toNat by omega, ha₀, hin] at hi'
            exact Bool.noConfusion hi', fun i₀ hi => by
          rw [c2₀] at hi
          obtain ⟨j', x₀, y₀⟩ := h2 i₀ hi
          exact ⟨j', by omega, y₀⟩⟩
        clear nex f₀ h1 h2 tl nb hcl cl₀ tb₀ clZ clT wi
        refine hK₀ _ _ _ _ _ ?_
        (repeat' (((conv => whnf); first | (show (_ : Option mg_V) = _ ∧ _; assumption) | (show K _ _ _ _ _; assumption) | (show mm_th _ _ _ _; assumption) | refine And.intro (by first | assumption | omega | (simp only [true_and, kd_si, gr_si]; first | done | assumption | omega)) ?_ | (refine And.intro (fun _ => ?_) (fun _ => ?_) <;> first | (exfalso; omega) | skip) | intro _ | fail)))
        all_goals ((conv => whnf); skip)
        (refine Exists.intro _ (Exists.intro _ (And.intro (gt) (And.intro ?_ (fun _ _ h₀ => h₀.elim)))); rintro _ _ ⟨rfl, e₀⟩; have e2₀ := e₀.symm; clear e₀; subst e2₀)
        (repeat' (((conv => whnf); first | (show (_ : Option mg_V) = _ ∧ _; assumption) | (show K _ _ _ _ _; assumption) | (show mm_th _ _ _ _; assumption) | refine And.intro (by first | assumption | omega | (simp only [true_and, kd_si, gr_si]; first | done | assumption | omega)) ?_ | (refine And.intro (fun _ => ?_) (fun _ => ?_) <;> first | (exfalso; omega) | skip) | intro _ | fail)))
        all_goals ((conv => whnf); skip)
        (refine Exists.intro _ (Exists.intro _ (And.intro (wi') (And.intro ?_ (fun _ _ h₀ => h₀.elim)))); rintro _ _ ⟨rfl, e₀⟩; have e2₀ := e₀.symm; clear e₀; subst e2₀)
        (repeat' (((conv => whnf); first | (show (_ : Option mg_V) = _ ∧ _; assumption) | (show K _ _ _ _ _; assumption) | (show mm_th _ _ _ _; assumption) | refine And.intro (by first | assumption | omega | (simp only [true_and, kd_si, gr_si]; first | done | assumption | omega)) ?_ | (refine And.intro (fun _ => ?_) (fun _ => ?_) <;> first | (exfalso; omega) | skip) | intro _ | fail)))
      | true =>
        rw [hin] at wi c1₀
        have wi' : mg_Mt D l 7 [.inr (.inl a₀), .inr (.inl b₀)] Z₀ (fun v₀ M' => v₀ = some (.inl 1) ∧ M' = Z₀) mg_no := wi
        have c2₀ : mh_cnt M t₀ b₀ (j₀ + 1).toNat = mh_cnt M t₀ b₀ j₀.toNat + 1 := c1₀
        have s120 : gi Z₀ (k₀ + 1) 0 < 120 := by omega
        obtain ⟨d₀, hd₀⟩ : ∃ d₀, gr Z₀ (k₀ + 1 + 1) (gi Z₀ (k₀ + 1) 0).toNat = d₀ := ⟨_, rfl⟩
        have di := clZ.2.2.2.2.2.2.2.1 (gi Z₀ (k₀ + 1) 0).toNat (by omega)
        rw [hd₀] at di
        obtain ⟨F₀, g0, g1, g2⟩ := mh_ad6 (r₀ := gi M a₀ 0 - gi M b₀ 0) (s₀ := gi M a₀ 1 - gi M b₀ 1) (u₀ := gi M a₀ 2) (v₀ := gi M a₀ 3) (x₀ := gi M a₀ 4) (y₀ := gi M a₀ 5) clZ s120 hd₀ rfl
        have ad : mg_Mt D l 20 [.inr (.inl (k₀ + 1)), .inl (gi M a₀ 0 - gi M b₀ 0), .inl (gi M a₀ 1 - gi M b₀ 1), .inl (gi M a₀ 2), .inl (gi M a₀ 3)] Z₀ (fun v₀ M' => v₀ = some (.inr (.inl (gr Z₀ (k₀ + 1 + 1) (gi Z₀ (k₀ + 1) 0).toNat))) ∧ M' = mh_ad Z₀ (k₀ + 1) (gi M a₀ 0 - gi M b₀ 0) (gi M a₀ 1 - gi M b₀ 1) (gi M a₀ 2) (gi M a₀ 3)) mg_no := @cX3_add D l hl Z₀ (k₀ + 1) (gi M a₀ 0 - gi M b₀ 0) (gi M a₀ 1 - gi M b₀ 1) (gi M a₀ 2) (gi M a₀ 3) clZ s120
        rw [hd₀] at ad
        have ya := fun x₀ => @mh_ad_ne Z₀ (k₀ + 1) a₀ x₀ (gi M a₀ 0 - gi M b₀ 0) (gi M a₀ 1 - gi M b₀ 1) (gi M a₀ 2) (gi M a₀ 3) (by rw [hd₀]; omega) (by omega)
        have yk : kd (mh_ad Z₀ (k₀ + 1) (gi M a₀ 0 - gi M b₀ 0) (gi M a₀ 1 - gi M b₀ 1) (gi M a₀ 2) (gi M a₀ 3)) d₀ = 3 := di.1
        have yka : kd (mh_ad Z₀ (k₀ + 1) (gi M a₀ 0 - gi M b₀ 0) (gi M a₀ 1 - gi M b₀ 1) (gi M a₀ 2) (gi M a₀ 3)) a₀ = 3 := ka
        have fi := @cX2_fill D l hl (mh_ad Z₀ (k₀ + 1) (gi M a₀ 0 - gi M b₀ 0) (gi M a₀ 1 - gi M b₀ 1) (gi M a₀ 2) (gi M a₀ 3)) d₀ (gi M a₀ 4) (gi M a₀ 5) yk
        have v0₀ := av 0
        have v1₀ := av 1
        have v2 := av 2
        have v3 := av 3
        have v4₀ := (ya 4).trans (av 4)
        have v5 := (ya 5).trans (av 5)
        have u0 := bv₀ 0
        have u1₀ := bv₀ 1
        generalize mh_ad Z₀ (k₀ + 1) (gi M a₀ 0 - gi M b₀ 0) (gi M a₀ 1 - gi M b₀ 1) (gi M a₀ 2) (gi M a₀ 3) = Y at *
        have FM : mm_f (mh_tf k₀) M (si (si Y d₀ 4 (gi M a₀ 4)) d₀ 5 (gi M a₀ 5)) := mm_f_tr f₀ (mm_f_mono F₀ (fun x₀ y₀ w₀ => by unfold mh_tf; omega))
        have od : ∀ j' : Nat, mh_cnt M t₀ b₀ j' < mh_cnt M t₀ b₀ j₀.toNat → gr Z₀ (k₀ + 1 + 1) (mh_cnt M t₀ b₀ j').toNat ≠ d₀ := by
          intro j' h₀ x₀
          have cj' := cnb j'
          have := clZ.2.2.2.2.2.2.2.2 _ _ (by omega) (by omega) (x₀.trans hd₀.symm)
          omega
        have G9 := nex (si (si Y d₀ 4 (gi M a₀ 4)) d₀ 5 (gi M a₀ 5)) ⟨FM, ⟨(mm_f_gi F₀ k₀ 0 (by omega)).trans e0₀.1, (mm_f_gi F₀ k₀ 1 (by omega)).trans e0₀.2⟩, g2, by rw [g0, c2₀, es], fun j' hj' hi' => by
          rw [c2₀]
          by_cases y₀ : (j' : Int) < j₀
          · obtain ⟨y1, y2⟩ := h1 j' y₀ hi'
            refine ⟨by omega, ?_⟩
            have ne₀ := od j' y1
            have cj' := cnb j'
            have ad' := clZ.2.2.2.2.2.2.2.1 (mh_cnt M t₀ b₀ j').toNat (by omega)
            unfold mh_tv at y2 ⊢
            rw [F₀.2.2.1, mm_f_gi F₀ _ 0 (by omega), mm_f_gi F₀ _ 1 (by omega), mm_f_gi F₀ _ 2 (by omega), mm_f_gi F₀ _ 3 (by omega), mm_f_gi F₀ _ 4 (by omega), mm_f_gi F₀ _ 5 (by omega)]
            exact y2
          · have y2 : j' = j₀.toNat := by omega
            rw [y2]
            refine ⟨by omega, ?_⟩
            rw [F₀.2.2.1, ← es, hd₀, ha₀]
            exact g1, fun i₀ hi => by
          rw [c2₀] at hi
          by_cases y₀ : (i₀ : Int) < mh_cnt M t₀ b₀ j₀.toNat
          · obtain ⟨j', x₀, y₀⟩ := h2 i₀ y₀
            exact ⟨j', by omega, y₀⟩
          · exact ⟨j₀.toNat, by omega, by rw [ha₀]; exact hin, by omega⟩⟩
        clear nex f₀ h1 h2 tl nb hcl cl₀ tb₀ clZ clT wi F₀ FM od g0 g1 g2 ya av bv₀ ein
        refine hK₀ _ _ _ _ _ ?_
        (repeat' (((conv => whnf); first | (show (_ : Option mg_V) = _ ∧ _; assumption) | (show K _ _ _ _ _; assumption) | (show mm_th _ _ _ _; assumption) | refine And.intro (by first | assumption | omega | (simp only [true_and, kd_si, gr_si]; first | done | assumption | omega)) ?_ | (refine And.intro (fun _ => ?_) (fun _ => ?_) <;> first | (exfalso; omega) | skip) | intro _ | fail)))
        all_goals ((conv => whnf); skip)
        (refine Exists.intro _ (Exists.intro _ (And.intro (gt) (And.intro ?_ (fun _ _ h₀ => h₀.elim)))); rintro _ _ ⟨rfl, e₀⟩; have e2₀ := e₀.symm; clear e₀; subst e2₀)
        (repeat' (((conv => whnf); first | (show (_ : Option mg_V) = _ ∧ _; assumption) | (show K _ _ _ _ _; assumption) | (show mm_th _ _ _ _; assumption) | refine And.intro (by first | assumption | omega | (simp only [true_and, kd_si, gr_si]; first | done | assumption | omega)) ?_ | (refine And.intro (fun _ => ?_) (fun _ => ?_) <;> first | (exfalso; omega) | skip) | intro _ | fail)))
        all_goals ((conv => whnf); skip)
        (refine Exists.intro _ (Exists.intro _ (And.intro (wi') (And.intro ?_ (fun _ _ h₀ => h₀.elim)))); rintro _ _ ⟨rfl, e₀⟩; have e2₀ := e₀.symm; clear e₀; subst e2₀)
        (repeat' (((conv => whnf); first | (show (_ : Option mg_V) = _ ∧ _; assumption) | (show K _ _ _ _ _; assumption) | (show mm_th _ _ _ _; assumption) | refine And.intro (by first | assumption | omega | (simp only [true_and, kd_si, gr_si]; first | done | assumption | omega)) ?_ | (refine And.intro (fun _ => ?_) (fun _ => ?_) <;> first | (exfalso; omega) | skip) | intro _ | fail)))
        all_goals ((conv => whnf); try rw [kg, v0₀, v1₀, v2, v3, u0, u1₀])
        (refine Exists.intro _ (Exists.intro _ (And.intro (ad) (And.intro ?_ (fun _ _ h₀ => h₀.elim)))); rintro _ _ ⟨rfl, e₀⟩; have e2₀ := e₀.symm; clear e₀; subst e2₀)
        (repeat' (((conv => whnf); first | (show (_ : Option mg_V) = _ ∧ _; assumption) | (show K _ _ _ _ _; assumption) | (show mm_th _ _ _ _; assumption) | refine And.intro (by first | assumption | omega | (simp only [true_and, kd_si, gr_si]; first | done | assumption | omega)) ?_ | (refine And.intro (fun _ => ?_) (fun _ => ?_) <;> first | (exfalso; omega) | skip) | intro _ | fail)))
        all_goals ((conv => whnf); try rw [v4₀, v5])
        (refine Exists.intro _ (Exists.intro _ (And.intro (fi) (And.intro ?_ (fun _ _ h₀ => h₀.elim)))); rintro _ _ ⟨rfl, e₀⟩; have e2₀ := e₀.symm; clear e₀; subst e2₀)
        (repeat' (((conv => whnf); first | (show (_ : Option mg_V) = _ ∧ _; assumption) | (show K _ _ _ _ _; assumption) | (show mm_th _ _ _ _; assumption) | refine And.intro (by first | assumption | omega | (simp only [true_and, kd_si, gr_si]; first | done | assumption | omega)) ?_ | (refine And.intro (fun _ => ?_) (fun _ => ?_) <;> first | (exfalso; omega) | skip) | intro _ | fail)))
        all_goals ((conv => whnf); exact G9)
  have L1 := LP₀ (si (si (si M k₀ 0 U₀) k₀ 1 V) (k₀ + 1) 0 0) (mm_f_si (mm_f_si (mm_f_si mm_f_rfl (Or.inl ⟨rfl, by omega⟩)) (Or.inl ⟨rfl, by omega⟩)) (Or.inr (Or.inl ⟨rfl, rfl⟩))) ⟨by simp [gi_si], by simp [gi_si]⟩ (mg_cL_siz (mg_cL_si (mg_cL_si clB₀ (by omega)) (by omega)) (by omega)) (by simp [gi_si])
  have kk := hk.1
  have kg := hk.2
  have kgn : gr M k₀ 2 ≠ 0 := by omega
  have kc₀ : kd M (gr M k₀ 2) = 4 := by rw [kg]; exact clB₀.1
  clear LP₀ tl nb hcl cl₀ tb₀ clB₀ cnb hn
  have b1 : gi (si M k₀ 0 U₀) b₀ 1 = gi M b₀ 1 := by rw [gi_si, if_neg (by omega)]
  have b3 : gi (si M k₀ 0 U₀) b₀ 3 = gi M b₀ 3 := by rw [gi_si, if_neg (by omega)]
  refine hK₀ _ _ _ _ _ ?_
  (repeat' (((conv => whnf); first | (show (_ : Option mg_V) = _ ∧ _; assumption) | (show K _ _ _ _ _; assumption) | (show mm_th _ _ _ _; assumption) | refine And.intro (by first | assumption | omega | (simp only [true_and, kd_si, gr_si]; first | done | assumption | omega)) ?_ | (refine And.intro (fun _ => ?_) (fun _ => ?_) <;> first | (exfalso; omega) | skip) | intro _ | fail)))
  all_goals ((conv => whnf); rw [← hU, b1, b3])
  (repeat' (((conv => whnf); first | (show (_ : Option mg_V) = _ ∧ _; assumption) | (show K _ _ _ _ _; assumption) | (show mm_th _ _ _ _; assumption) | refine And.intro (by first | assumption | omega | (simp only [true_and, kd_si, gr_si]; first | done | assumption | omega)) ?_ | (refine And.intro (fun _ => ?_) (fun _ => ?_) <;> first | (exfalso; omega) | skip) | intro _ | fail)))
  all_goals ((conv => whnf); try rw [← hV])
  (repeat' (((conv => whnf); first | (show (_ : Option mg_V) = _ ∧ _; assumption) | (show K _ _ _ _ _; assumption) | (show mm_th _ _ _ _; assumption) | refine And.intro (by first | assumption | omega | (simp only [true_and, kd_si, gr_si]; first | done | assumption | omega)) ?_ | (refine And.intro (fun _ => ?_) (fun _ => ?_) <;> first | (exfalso; omega) | skip) | intro _ | fail)))
  all_goals ((conv => whnf); try rw [gr_si, gr_si, kg]; exact L1)
