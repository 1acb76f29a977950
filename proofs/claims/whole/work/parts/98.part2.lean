theorem mh_qst {k₀ T L₀ H₀ W₀ hg wd ax dn e₀ f₀ e' f' E₀ F₀ p₀ q₀ : Int} (hdn : dn = if k₀ = 99 then 1 else H₀) (hax : ax = if k₀ = 114 then 1 else W₀) (hhg : hg = if k₀ = 99 then H₀ else 1) (hwd : wd = if k₀ = 114 then W₀ else 1) (he : 0 ≤ e₀ ∧ e₀ < dn) (hf : 0 ≤ f₀ ∧ f₀ < ax) (hH : 1 ≤ H₀) (hW : 1 ≤ W₀) (dv : (e' = e₀ ∧ f' = f₀ + 1 ∧ f₀ + 1 < ax) ∨ (e' = e₀ + 1 ∧ f' = 0 ∧ f₀ + 1 = ax)) (hE : E₀ = T + (if k₀ = 99 then 0 else e₀)) (hF : F₀ = L₀ + (if k₀ = 114 then 0 else f₀)) : mh_qA k₀ T L₀ H₀ W₀ e' f' p₀ q₀ ↔ mh_qA k₀ T L₀ H₀ W₀ e₀ f₀ p₀ q₀ ∨ ((E₀ ≤ p₀ ∧ p₀ < E₀ + hg) ∧ F₀ ≤ q₀ ∧ q₀ < F₀ + wd) := by
  unfold mh_qA
  constructor
  · intro w₀
    split at hdn <;> split at hax <;> omega
  · intro w₀
    split at hdn <;> split at hax <;> omega
theorem mh_qsu {k₀ T L₀ H₀ W₀ hg wd ax dn e₀ f₀ E₀ F₀ p₀ q₀ : Int} (hdn : dn = if k₀ = 99 then 1 else H₀) (hax : ax = if k₀ = 114 then 1 else W₀) (hhg : hg = if k₀ = 99 then H₀ else 1) (hwd : wd = if k₀ = 114 then W₀ else 1) (he : 0 ≤ e₀ ∧ e₀ < dn) (hf : 0 ≤ f₀ ∧ f₀ < ax) (hH : 1 ≤ H₀) (hW : 1 ≤ W₀) (nz : ¬ (e₀ = 0 ∧ f₀ = 0)) (hE : E₀ = T + (if k₀ = 99 then 0 else e₀)) (hF : F₀ = L₀ + (if k₀ = 114 then 0 else f₀)) (h1 : E₀ ≤ p₀ ∧ p₀ < E₀ + hg) (h2 : F₀ ≤ q₀ ∧ q₀ < F₀ + wd) : ¬ mh_qA k₀ T L₀ H₀ W₀ e₀ f₀ p₀ q₀ ∧ mh_iq T L₀ H₀ W₀ p₀ q₀ ∧ (E₀ = if k₀ = 99 then T else p₀) ∧ (F₀ = if k₀ = 114 then L₀ else q₀) ∧ ¬ ((k₀ = 99 ∨ p₀ = T) ∧ (k₀ = 114 ∨ q₀ = L₀)) := by
  unfold mh_qA
  refine ⟨?_, ?_, ?_, ?_, ?_⟩ <;> (split at hdn <;> split at hax <;> omega)
set_option maxRecDepth 100000 in
theorem cX4_part {D : mg_D} {l : Launch} (hl : l.stackTraces = false) {M : mg_M} {t₀ a₀ i0₀ : Nat} {k₀ T L₀ H₀ W₀ c₀ y₀ : Int} (tl : mh_tl M t₀) (nb : mh_nb M t₀) (hi : (i0₀ : Int) < gi M (t₀ + 3) 0) (ha₀ : gr M (t₀ + 3 + 1) i0₀ = a₀) (e0₀ : gi M a₀ 0 = T ∧ gi M a₀ 1 = L₀ ∧ gi M a₀ 2 = H₀ ∧ gi M a₀ 3 = W₀ ∧ gi M a₀ 4 = c₀ ∧ gi M a₀ 5 = y₀) : mg_Mt D l 65 [.inr (.inl t₀), .inr (.inl a₀), .inl (if k₀ = 99 then 1 else H₀), .inl (if k₀ = 114 then 1 else W₀)] M (fun v₀ N => v₀ = none ∧ mh_np M N t₀ (gi M t₀ 0) (gi M t₀ 1) (gi M t₀ 2) (mh_q0 M t₀ k₀ T L₀ H₀ W₀) (mh_q1 M t₀ k₀ T L₀ H₀ W₀) (mh_q2 M t₀ k₀ T L₀ H₀ W₀) (mh_q3 M t₀ k₀ T L₀ H₀ W₀) (mh_q4 M t₀ k₀ c₀ T L₀ H₀ W₀) (mh_q5 M t₀ y₀ T L₀ H₀ W₀) (fun k₀ => gi M (t₀ + 2) k₀.toNat) (fun k₀ => gi M (t₀ + 1) k₀.toNat)) mg_no := by
  generalize hdn' : (if k₀ = 99 then (1 : Int) else H₀) = dn
  generalize hax' : (if k₀ = 114 then (1 : Int) else W₀) = ax
  refine mg_of2 hl ok_X4_part al_X4_part rfl (fun K hK₀ => ?_)
  have hdn := hdn'.symm
  have hax := hax'.symm
  clear hdn' hax'
  have tb₀ := tl.1
  have cl₀ := tl.2.1
  have bb := tb₀.2.2
  have z₀ := cl₀.2.2.2.2.2.2.1
  have o := tl.2.2.1 i0₀ hi
  unfold mh_ok at o
  rw [ha₀, e0₀.1, e0₀.2.1, e0₀.2.2.1, e0₀.2.2.2.1] at o
  have aa : kd M a₀ = 3 ∧ t₀ + 6 ≤ a₀ ∧ a₀ < t₀ + 126 := by have := cl₀.2.2.2.2.2.2.2.1 i0₀ (by omega); rw [ha₀] at this; exact ⟨this.1, by omega, by omega⟩
  obtain ⟨hg, hhg⟩ : ∃ hg, hg = if k₀ = 99 then H₀ else 1 := ⟨_, rfl⟩
  obtain ⟨wd, hwd⟩ : ∃ wd, wd = if k₀ = 114 then W₀ else 1 := ⟨_, rfl⟩
  have d1₀ : 1 ≤ dn ∧ dn ≤ 12 := by split at hdn <;> omega
  have a1₀ : 1 ≤ ax ∧ ax ≤ 10 := by split at hax <;> omega
  have q1₀ : H₀ / dn = hg := by
    by_cases x₀ : k₀ = 99
    · rw [hdn, hhg, if_pos x₀, if_pos x₀, Int.ediv_one]
    · rw [hdn, hhg, if_neg x₀, if_neg x₀, Int.ediv_self (by omega)]
  have q2₀ : W₀ / ax = wd := by
    by_cases x₀ : k₀ = 114
    · rw [hax, hwd, if_pos x₀, if_pos x₀, Int.ediv_one]
    · rw [hax, hwd, if_neg x₀, if_neg x₀, Int.ediv_self (by omega)]
  have hg1 : 1 ≤ hg ∧ hg ≤ 12 := by split at hhg <;> omega
  have wd1 : 1 ≤ wd ∧ wd ≤ 10 := by split at hwd <;> omega
  have pr : 1 ≤ dn * ax ∧ dn * ax ≤ 120 := by
    have := Int.mul_le_mul d1₀.1 a1₀.1 (by omega) (by omega)
    have := Int.mul_le_mul d1₀.2 a1₀.2 (by omega) (by omega)
    omega
  have LP₀ : ∀ Z₀, (mh_lz M Z₀ t₀ (mh_qA k₀ T L₀ H₀ W₀ (1 / ax) (1 % ax)) (mh_q0 M t₀ k₀ T L₀ H₀ W₀) (mh_q1 M t₀ k₀ T L₀ H₀ W₀) (mh_q2 M t₀ k₀ T L₀ H₀ W₀) (mh_q3 M t₀ k₀ T L₀ H₀ W₀) (mh_q4 M t₀ k₀ c₀ T L₀ H₀ W₀) (mh_q5 M t₀ y₀ T L₀ H₀ W₀) ∧ (gi Z₀ a₀ 0 = T ∧ gi Z₀ a₀ 1 = L₀ ∧ gi Z₀ a₀ 5 = y₀) ∧ ∃ i1₀ : Nat, (i1₀ : Int) < gi Z₀ (t₀ + 3) 0 ∧ gr Z₀ (t₀ + 3 + 1) i1₀ = a₀) → K 46 [(0, Sum.inr (Sum.inl t₀)), (1, Sum.inr (Sum.inl a₀)), (2, Sum.inl dn), (3, Sum.inl ax), (4, Sum.inl hg), (5, Sum.inl wd), (6, Sum.inl 1)] [] Z₀ 0 := by
    intro Z0 hZ0
    refine mh_for (P := fun i₀ Z₀ => mh_lz M Z₀ t₀ (mh_qA k₀ T L₀ H₀ W₀ (i₀ / ax) (i₀ % ax)) (mh_q0 M t₀ k₀ T L₀ H₀ W₀) (mh_q1 M t₀ k₀ T L₀ H₀ W₀) (mh_q2 M t₀ k₀ T L₀ H₀ W₀) (mh_q3 M t₀ k₀ T L₀ H₀ W₀) (mh_q4 M t₀ k₀ c₀ T L₀ H₀ W₀) (mh_q5 M t₀ y₀ T L₀ H₀ W₀) ∧ (gi Z₀ a₀ 0 = T ∧ gi Z₀ a₀ 1 = L₀ ∧ gi Z₀ a₀ 5 = y₀) ∧ ∃ i1₀ : Nat, (i1₀ : Int) < gi Z₀ (t₀ + 3) 0 ∧ gr Z₀ (t₀ + 3 + 1) i1₀ = a₀) (G := fun i₀ Z₀ => K 46 [(0, Sum.inr (Sum.inl t₀)), (1, Sum.inr (Sum.inl a₀)), (2, Sum.inl dn), (3, Sum.inl ax), (4, Sum.inl hg), (5, Sum.inl wd), (6, Sum.inl i₀)] [] Z₀ 0) (lo := 1) (hi := dn * ax) pr.1 ?_ ?_ Z0 hZ0
    · rintro Z₀ ⟨lt₀, _⟩
      have ST₀ := cX4_settleL (D := D) hl tb₀ lt₀ (fun p₀ q₀ _ => by
        rw [Int.mul_ediv_cancel _ (show ax ≠ 0 by omega)]
        unfold mh_qA
        by_cases x₀ : mh_iq T L₀ H₀ W₀ p₀ q₀
        · refine Or.inr (Or.inl ?_)
          split at hdn <;> omega
        · exact Or.inl x₀)
      have x5₀ : kd Z₀ t₀ = 5 := (lt₀.1.1.1 t₀).trans tb₀.1.1
      clear lt₀ tl nb tb₀ cl₀
      refine hK₀ _ _ _ _ _ ?_
      (repeat' (((conv => whnf); first | (show (_ : Option mg_V) = _ ∧ _; assumption) | (show K _ _ _ _ _; assumption) | (show mm_th _ _ _ _; assumption) | refine And.intro (by first | assumption | omega | (simp only [true_and, kd_si, gr_si]; first | done | assumption | omega)) ?_ | (refine And.intro (fun _ => ?_) (fun _ => ?_) <;> first | (exfalso; omega) | skip) | intro _ | fail)))
      all_goals ((conv => whnf); skip)
      refine Exists.intro _ (Exists.intro _ (And.intro (ST₀) (And.intro ?_ (fun _ _ h₀ => h₀.elim))))
      rintro _ N9 ⟨rfl, Q1₀⟩
      have Q₀ := And.intro (Eq.refl (none : Option mg_V)) Q1₀
      (repeat' (((conv => whnf); first | (show (_ : Option mg_V) = _ ∧ _; assumption) | (show K _ _ _ _ _; assumption) | (show mm_th _ _ _ _; assumption) | refine And.intro (by first | assumption | omega | (simp only [true_and, kd_si, gr_si]; first | done | assumption | omega)) ?_ | (refine And.intro (fun _ => ?_) (fun _ => ?_) <;> first | (exfalso; omega) | skip) | intro _ | fail)))
    · rintro i₀ Z₀ i0' i1₀ ⟨lt₀, ⟨v0₀, v1₀, v5⟩, s1₀, s2₀, s3₀⟩ nex
      have dv := @mh_dvs i₀ ax (by omega) (by omega)
      have em := Int.emod_add_mul_ediv i₀ ax
      have e1₀ : 0 ≤ i₀ / ax ∧ i₀ / ax < dn := ⟨Int.ediv_nonneg (by omega) (by omega), Int.ediv_lt_of_lt_mul (by omega) i1₀⟩
      have f1₀ : 0 ≤ i₀ % ax ∧ i₀ % ax < ax := ⟨Int.emod_nonneg _ (by omega), Int.emod_lt_of_pos _ (by omega)⟩
      have nz : ¬ (i₀ / ax = 0 ∧ i₀ % ax = 0) := by
        rintro ⟨x1₀, x2₀⟩
        rw [x1₀, x2₀, Int.mul_zero] at em
        omega
      have hE : T + i₀ / ax * hg = T + (if k₀ = 99 then 0 else i₀ / ax) := by
        by_cases x₀ : k₀ = 99
        · rw [if_pos x₀] at hdn ⊢
          rw [show i₀ / ax = 0 by omega, Int.zero_mul]
        · rw [if_neg x₀] at hhg ⊢
          rw [hhg, Int.mul_one]
      have hF : L₀ + i₀ % ax * wd = L₀ + (if k₀ = 114 then 0 else i₀ % ax) := by
        by_cases x₀ : k₀ = 114
        · rw [if_pos x₀] at hax ⊢
          rw [show i₀ % ax = 0 by omega, Int.zero_mul]
        · rw [if_neg x₀] at hwd ⊢
          rw [hwd, Int.mul_one]
      obtain ⟨n120, AD₀⟩ := mh_lz_add (Z₀ := Z₀) (r₀ := T + i₀ / ax * hg) (s₀ := L₀ + i₀ % ax * wd) (u₀ := hg) (v₀ := wd) (c₀ := 0) (y₀ := y₀) (A' := mh_qA k₀ T L₀ H₀ W₀ ((i₀ + 1) / ax) ((i₀ + 1) % ax)) tb₀ lt₀ (by rw [hE]; split at hdn <;> split <;> omega) (by rw [hF]; split at hax <;> split <;> omega) (fun p₀ q₀ h1 h2 => by
        obtain ⟨w1₀, w2₀, w3₀, w4₀, w5⟩ := mh_qsu (p₀ := p₀) (q₀ := q₀) hdn hax hhg hwd e1₀ f1₀ (by omega) (by omega) nz hE hF h1 h2
        refine ⟨w1₀, ?_⟩
        unfold mh_q0 mh_q1 mh_q2 mh_q3 mh_q4 mh_q5
        rw [if_pos w2₀, if_pos w2₀, if_pos w2₀, if_pos w2₀, if_pos w2₀, if_pos w2₀, if_neg w5]
        exact ⟨⟨w3₀, w4₀, hhg, hwd⟩, rfl, rfl⟩) (fun p₀ q₀ => mh_qst hdn hax hhg hwd e1₀ f1₀ (by omega) (by omega) dv hE hF) rfl
      have f₀ := lt₀.1.1
      have clZ := lt₀.1.2
      have x5₀ : kd Z₀ t₀ = 5 := (f₀.1 t₀).trans tb₀.1.1
      have xg : gr Z₀ t₀ 5 = t₀ + 3 := ((f₀.2.2.1 t₀ 5).resolve_left (by omega)).trans tb₀.1.2.2.2.1
      have xgn : gr Z₀ t₀ 5 ≠ 0 := by omega
      have kcZ : kd Z₀ (gr Z₀ t₀ 5) = 4 := by rw [xg]; exact clZ.1
      have xa : kd Z₀ a₀ = 3 := (f₀.1 a₀).trans aa.1
      have zz := clZ.2.2.2.2.2.2.1
      obtain ⟨b₀, hb₀⟩ : ∃ b₀, gr Z₀ (t₀ + 3 + 1) (gi Z₀ (t₀ + 3) 0).toNat = b₀ := ⟨_, rfl⟩
      have kb : kd Z₀ b₀ = 3 := by rw [← hb₀]; exact (clZ.2.2.2.2.2.2.2.1 _ (by omega)).1
      have ba₀ : b₀ ≠ a₀ := by
        intro x₀
        have := clZ.2.2.2.2.2.2.2.2 _ _ (by omega) (by omega) (hb₀.trans (x₀.trans s3₀.symm))
        omega
      have ad : mg_Mt D l 20 [.inr (.inl (t₀ + 3)), .inl (T + i₀ / ax * hg), .inl (L₀ + i₀ % ax * wd), .inl hg, .inl wd] Z₀ (fun v₀ M' => v₀ = some (.inr (.inl (gr Z₀ (t₀ + 3 + 1) (gi Z₀ (t₀ + 3) 0).toNat))) ∧ M' = mh_ad Z₀ (t₀ + 3) (T + i₀ / ax * hg) (L₀ + i₀ % ax * wd) hg wd) mg_no := @cX3_add D l hl Z₀ (t₀ + 3) (T + i₀ / ax * hg) (L₀ + i₀ % ax * wd) hg wd clZ n120
      have sz₀ := @mh_ad_sz Z₀ (t₀ + 3) (T + i₀ / ax * hg) (L₀ + i₀ % ax * wd) hg wd clZ n120
      have ya := fun j₀ => @mh_ad_ne Z₀ (t₀ + 3) a₀ j₀ (T + i₀ / ax * hg) (L₀ + i₀ % ax * wd) hg wd (by rw [hb₀]; exact fun w₀ => ba₀ w₀.symm) (by omega)
      rw [hb₀] at ad AD₀
      have yk : kd (mh_ad Z₀ (t₀ + 3) (T + i₀ / ax * hg) (L₀ + i₀ % ax * wd) hg wd) b₀ = 3 := kb
      have fi := @cX2_fill D l hl (mh_ad Z₀ (t₀ + 3) (T + i₀ / ax * hg) (L₀ + i₀ % ax * wd) hg wd) b₀ 0 y₀ yk
      have yka : kd (mh_ad Z₀ (t₀ + 3) (T + i₀ / ax * hg) (L₀ + i₀ % ax * wd) hg wd) a₀ = 3 := xa
      have ygr : ∀ j₀, gr (mh_ad Z₀ (t₀ + 3) (T + i₀ / ax * hg) (L₀ + i₀ % ax * wd) hg wd) (t₀ + 3 + 1) j₀ = gr Z₀ (t₀ + 3 + 1) j₀ := fun j₀ => rfl
      generalize mh_ad Z₀ (t₀ + 3) (T + i₀ / ax * hg) (L₀ + i₀ % ax * wd) hg wd = Y at *
      have y5 : gi Y a₀ 5 = y₀ := (ya 5).trans v5
      have G9 := nex (si (si Y b₀ 4 0) b₀ 5 y₀) ⟨AD₀, ⟨by rw [gi_si, if_neg (by omega), gi_si, if_neg (by omega)]; exact (ya 0).trans v0₀, by rw [gi_si, if_neg (by omega), gi_si, if_neg (by omega)]; exact (ya 1).trans v1₀, by rw [gi_si, if_neg (by omega), gi_si, if_neg (by omega)]; exact y5⟩, s1₀, by rw [gi_si, if_neg (by omega), gi_si, if_neg (by omega)]; omega, (ygr s1₀).trans s3₀⟩
      have rE₀ : 0 ≤ i₀ / ax * hg ∧ i₀ / ax * hg ≤ 12 := by
        have : i₀ / ax * hg = if k₀ = 99 then 0 else i₀ / ax := by omega
        rw [this]; split <;> omega
      have rF : 0 ≤ i₀ % ax * wd ∧ i₀ % ax * wd ≤ 12 := by
        have : i₀ % ax * wd = if k₀ = 114 then 0 else i₀ % ax := by omega
        rw [this]; split <;> omega
      clear nex AD₀ lt₀ tl nb tb₀ cl₀ f₀ clZ hE hF dv em nz sz₀ ya ygr
      refine hK₀ _ _ _ _ _ ?_
      (repeat' (((conv => whnf); first | (show (_ : Option mg_V) = _ ∧ _; assumption) | (show K _ _ _ _ _; assumption) | (show mm_th _ _ _ _; assumption) | refine And.intro (by first | assumption | omega | (simp only [true_and, kd_si, gr_si]; first | done | assumption | omega)) ?_ | (refine And.intro (fun _ => ?_) (fun _ => ?_) <;> first | (exfalso; omega) | skip) | intro _ | fail)))
      all_goals ((conv => whnf); try rw [xg, v0₀, v1₀])
      (refine Exists.intro _ (Exists.intro _ (And.intro (ad) (And.intro ?_ (fun _ _ h₀ => h₀.elim)))); rintro _ _ ⟨rfl, e₀⟩; have e2₀ := e₀.symm; clear e₀; subst e2₀)
      (repeat' (((conv => whnf); first | (show (_ : Option mg_V) = _ ∧ _; assumption) | (show K _ _ _ _ _; assumption) | (show mm_th _ _ _ _; assumption) | refine And.intro (by first | assumption | omega | (simp only [true_and, kd_si, gr_si]; first | done | assumption | omega)) ?_ | (refine And.intro (fun _ => ?_) (fun _ => ?_) <;> first | (exfalso; omega) | skip) | intro _ | fail)))
      all_goals ((conv => whnf); rw [y5])
      (refine Exists.intro _ (Exists.intro _ (And.intro (fi) (And.intro ?_ (fun _ _ h₀ => h₀.elim)))); rintro _ _ ⟨rfl, e₀⟩; have e2₀ := e₀.symm; clear e₀; subst e2₀)
      (repeat' (((conv => whnf); first | (show (_ : Option mg_V) = _ ∧ _; assumption) | (show K _ _ _ _ _; assumption) | (show mm_th _ _ _ _; assumption) | refine And.intro (by first | assumption | omega | (simp only [true_and, kd_si, gr_si]; first | done | assumption | omega)) ?_ | (refine And.intro (fun _ => ?_) (fun _ => ?_) <;> first | (exfalso; omega) | skip) | intro _ | fail)))
      all_goals ((conv => whnf); exact G9)
  have L1 := LP₀ (si (si (si (si M a₀ 0 T) a₀ 1 L₀) a₀ 2 hg) a₀ 3 wd) ⟨mh_lz_pt tl nb hi ha₀ e0₀ hax hhg hwd (mm_f_si (mm_f_si (mm_f_si (mm_f_si mm_f_rfl ⟨rfl, by omega⟩) ⟨rfl, by omega⟩) ⟨rfl, by omega⟩) ⟨rfl, by omega⟩) ⟨by simp [gi_si], by simp [gi_si], by simp [gi_si], by simp [gi_si]⟩, ⟨by simp [gi_si], by simp [gi_si], by simp only [gi_si]; rw [if_neg (by omega), if_neg (by omega), if_neg (by omega), if_neg (by omega)]; exact e0₀.2.2.2.2.2⟩, i0₀, by simp only [gi_si]; rw [if_neg (by omega), if_neg (by omega), if_neg (by omega), if_neg (by omega)]; exact hi, ha₀⟩
  have k5₀ := tb₀.1.1
  have li := @cX2_lie D l hl M a₀ T L₀ hg wd aa.1
  obtain ⟨v0₀, v1₀, v2, v3, _, _⟩ := e0₀
  have ka := aa.1
  clear LP₀ tl nb tb₀ cl₀
  refine hK₀ _ _ _ _ _ ?_
  (repeat' (((conv => whnf); first | (show (_ : Option mg_V) = _ ∧ _; assumption) | (show K _ _ _ _ _; assumption) | (show mm_th _ _ _ _; assumption) | refine And.intro (by first | assumption | omega | (simp only [true_and, kd_si, gr_si]; first | done | assumption | omega)) ?_ | (refine And.intro (fun _ => ?_) (fun _ => ?_) <;> first | (exfalso; omega) | skip) | intro _ | fail)))
  all_goals ((conv => whnf); try rw [v0₀, v1₀, v2, v3, q1₀, q2₀])
  (refine Exists.intro _ (Exists.intro _ (And.intro (li) (And.intro ?_ (fun _ _ h₀ => h₀.elim)))); rintro _ _ ⟨rfl, e₀⟩; have e2₀ := e₀.symm; clear e₀; subst e2₀)
  (repeat' (((conv => whnf); first | (show (_ : Option mg_V) = _ ∧ _; assumption) | (show K _ _ _ _ _; assumption) | (show mm_th _ _ _ _; assumption) | refine And.intro (by first | assumption | omega | (simp only [true_and, kd_si, gr_si]; first | done | assumption | omega)) ?_ | (refine And.intro (fun _ => ?_) (fun _ => ?_) <;> first | (exfalso; omega) | skip) | intro _ | fail)))
