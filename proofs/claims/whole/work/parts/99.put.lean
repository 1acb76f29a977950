/-! Table₀.putOne, Table₀.put: copies of the block₀ -/
def mh_cb (M : mg_M) (c₀ i₀ : Nat) (u₀ v₀ : Int) : Prop := (gi M (gr M (c₀ + 1) i₀) 0 ≤ u₀ ∧ u₀ < gi M (gr M (c₀ + 1) i₀) 0 + gi M (gr M (c₀ + 1) i₀) 2) ∧ gi M (gr M (c₀ + 1) i₀) 1 ≤ v₀ ∧ v₀ < gi M (gr M (c₀ + 1) i₀) 1 + gi M (gr M (c₀ + 1) i₀) 3
/-- a₀ list whose cells₀ cover U₀ times₀ V squares, each₀ once -/
def mh_bl (M : mg_M) (c₀ : Nat) (U₀ V : Int) : Prop := mg_cL M c₀ ∧ (∀ i₀ : Nat, (i₀ : Int) < gi M c₀ 0 → (0 ≤ gi M (gr M (c₀ + 1) i₀) 0 ∧ 1 ≤ gi M (gr M (c₀ + 1) i₀) 2 ∧ gi M (gr M (c₀ + 1) i₀) 0 + gi M (gr M (c₀ + 1) i₀) 2 ≤ U₀) ∧ (0 ≤ gi M (gr M (c₀ + 1) i₀) 1 ∧ 1 ≤ gi M (gr M (c₀ + 1) i₀) 3 ∧ gi M (gr M (c₀ + 1) i₀) 1 + gi M (gr M (c₀ + 1) i₀) 3 ≤ V)) ∧ (∀ i₀ j₀ : Nat, (i₀ : Int) < gi M c₀ 0 → (j₀ : Int) < gi M c₀ 0 → ∀ u₀ v₀, mh_cb M c₀ i₀ u₀ v₀ → mh_cb M c₀ j₀ u₀ v₀ → i₀ = j₀) ∧ ∀ u₀ v₀, mh_rg U₀ V u₀ v₀ → ∃ i₀ : Nat, (i₀ : Int) < gi M c₀ 0 ∧ mh_cb M c₀ i₀ u₀ v₀
set_option maxRecDepth 100000 in
theorem cX4_putOne {D : mg_D} {l : Launch} (hl : l.stackTraces = false) {M Z₀ : mg_M} {t₀ c₀ : Nat} {A₀ : Int → Int → Prop} {T L₀ H₀ W₀ cn sy : Int → Int → Int} {r₀ s₀ U₀ V : Int} (tb₀ : mg_tb M t₀) (lt₀ : mh_lz M Z₀ t₀ A₀ T L₀ H₀ W₀ cn sy) (bl : mh_bl M c₀ U₀ V) (hct : c₀ + 123 ≤ t₀ ∨ t₀ + 129 ≤ c₀) (hU : U₀ ≤ 12 ∧ V ≤ 10) (hr : 0 ≤ r₀ ∧ r₀ + U₀ ≤ gi M t₀ 0) (hs : 0 ≤ s₀ ∧ s₀ + V ≤ gi M t₀ 1) (hA : ∀ u₀ v₀, mh_rg U₀ V u₀ v₀ → ¬ A₀ (r₀ + u₀) (s₀ + v₀)) (hT₀ : ∀ i₀ : Nat, (i₀ : Int) < gi M c₀ 0 → ∀ u₀ v₀, mh_cb M c₀ i₀ u₀ v₀ → (r₀ + gi M (gr M (c₀ + 1) i₀) 0 = T (r₀ + u₀) (s₀ + v₀) ∧ s₀ + gi M (gr M (c₀ + 1) i₀) 1 = L₀ (r₀ + u₀) (s₀ + v₀) ∧ gi M (gr M (c₀ + 1) i₀) 2 = H₀ (r₀ + u₀) (s₀ + v₀) ∧ gi M (gr M (c₀ + 1) i₀) 3 = W₀ (r₀ + u₀) (s₀ + v₀)) ∧ gi M (gr M (c₀ + 1) i₀) 4 = cn (r₀ + u₀) (s₀ + v₀) ∧ gi M (gr M (c₀ + 1) i₀) 5 = sy (r₀ + u₀) (s₀ + v₀)) : mg_Mt D l 67 [.inr (.inl t₀), .inr (.inl c₀), .inl r₀, .inl s₀] Z₀ (fun v₀ N => v₀ = none ∧ mh_lz M N t₀ (fun p₀ q₀ => A₀ p₀ q₀ ∨ ((r₀ ≤ p₀ ∧ p₀ < r₀ + U₀) ∧ (s₀ ≤ q₀ ∧ q₀ < s₀ + V))) T L₀ H₀ W₀ cn sy) mg_no := by
  refine mg_of2 hl ok_X4_putOne al_X4_putOne rfl (fun K hK₀ => ?_)
  obtain ⟨clB₀, bok, bdj, bal⟩ := bl
  have bb := tb₀.2.2
  have zB₀ := clB₀.2.2.2.2.2.2.1
  obtain ⟨n₀, hn⟩ : ∃ n₀ : Nat, gi M c₀ 0 = n₀ := ⟨(gi M c₀ 0).toNat, by omega⟩
  have LP₀ : K 3 [(0, Sum.inr (Sum.inl t₀)), (1, Sum.inr (Sum.inl c₀)), (2, Sum.inl r₀), (3, Sum.inl s₀), (4, Sum.inl 0)] [] Z₀ 0 := by
    refine mh_for (P := fun i₀ Y => mh_lz M Y t₀ (fun p₀ q₀ => A₀ p₀ q₀ ∨ ∃ j₀ : Nat, (j₀ : Int) < i₀ ∧ mh_cb M c₀ j₀ (p₀ - r₀) (q₀ - s₀)) T L₀ H₀ W₀ cn sy) (G := fun i₀ Y => K 3 [(0, Sum.inr (Sum.inl t₀)), (1, Sum.inr (Sum.inl c₀)), (2, Sum.inl r₀), (3, Sum.inl s₀), (4, Sum.inl i₀)] [] Y 0) (lo := 0) (hi := n₀) (by omega) ?_ ?_ Z₀ ?_
    · intro Y ltY
      have Q₀ : (none : Option mg_V) = none ∧ mh_lz M Y t₀ (fun p₀ q₀ => A₀ p₀ q₀ ∨ ((r₀ ≤ p₀ ∧ p₀ < r₀ + U₀) ∧ (s₀ ≤ q₀ ∧ q₀ < s₀ + V))) T L₀ H₀ W₀ cn sy := by
        refine ⟨rfl, ?_⟩
        have e₀ : (fun p₀ q₀ => A₀ p₀ q₀ ∨ ∃ j₀ : Nat, (j₀ : Int) < (n₀ : Int) ∧ mh_cb M c₀ j₀ (p₀ - r₀) (q₀ - s₀)) = (fun p₀ q₀ => A₀ p₀ q₀ ∨ ((r₀ ≤ p₀ ∧ p₀ < r₀ + U₀) ∧ (s₀ ≤ q₀ ∧ q₀ < s₀ + V))) := by
          funext p₀ q₀
          refine propext ⟨fun w₀ => w₀.imp id ?_, fun w₀ => w₀.imp id ?_⟩
          · rintro ⟨j₀, hj, x₀⟩
            have o := bok j₀ (by omega)
            unfold mh_cb at x₀
            omega
          · intro x₀
            obtain ⟨i₀, hi, g₀⟩ := bal (p₀ - r₀) (q₀ - s₀) (by omega)
            exact ⟨i₀, by omega, g₀⟩
        rw [← e₀]
        exact ltY
      have f₀ := ltY.1.1
      have kc₀ : kd Y c₀ = 4 := (f₀.1 c₀).trans clB₀.1
      have sz₀ : gi Y c₀ 0 = n₀ := ((f₀.2.2.2.2.2.2 c₀ 0).resolve_left (by omega)).trans hn
      clear ltY bok bdj bal hA hT₀ lt₀ f₀
      refine hK₀ _ _ _ _ _ ?_
      (repeat' (((conv => whnf); first | (show (_ : Option mg_V) = _ ∧ _; assumption) | (show K _ _ _ _ _; assumption) | (show mm_th _ _ _ _; assumption) | refine And.intro (by first | assumption | omega | (simp only [true_and, kd_si, gr_si]; first | done | assumption | omega)) ?_ | (refine And.intro (fun _ => ?_) (fun _ => ?_) <;> first | (exfalso; omega) | skip) | intro _ | fail)))
    · intro i₀ Y i0₀ i1₀ ltY nex
      have f₀ := ltY.1.1
      have clY := ltY.1.2
      have zY := clY.2.2.2.2.2.2.1
      obtain ⟨a₀, ha₀⟩ : ∃ a₀, gr M (c₀ + 1) i₀.toNat = a₀ := ⟨_, rfl⟩
      have ai := clB₀.2.2.2.2.2.2.2.1 i₀.toNat (by omega)
      have o := bok i₀.toNat (by omega)
      rw [ha₀] at ai o
      have av : ∀ k₀, gi Y a₀ k₀ = gi M a₀ k₀ := fun k₀ => (f₀.2.2.2.2.2.2 a₀ k₀).resolve_left (by omega)
      have ecb : ∀ u₀ v₀, mh_cb M c₀ i₀.toNat u₀ v₀ ↔ ((gi M a₀ 0 ≤ u₀ ∧ u₀ < gi M a₀ 0 + gi M a₀ 2) ∧ gi M a₀ 1 ≤ v₀ ∧ v₀ < gi M a₀ 1 + gi M a₀ 3) := by
        intro u₀ v₀
        unfold mh_cb
        rw [ha₀]
      obtain ⟨n120, AD₀⟩ := mh_lz_add (Z₀ := Y) (r₀ := r₀ + gi M a₀ 0) (s₀ := s₀ + gi M a₀ 1) (u₀ := gi M a₀ 2) (v₀ := gi M a₀ 3) (c₀ := gi M a₀ 4) (y₀ := gi M a₀ 5) (A' := fun p₀ q₀ => A₀ p₀ q₀ ∨ ∃ j₀ : Nat, (j₀ : Int) < i₀ + 1 ∧ mh_cb M c₀ j₀ (p₀ - r₀) (q₀ - s₀)) tb₀ ltY (by omega) (by omega) (fun p₀ q₀ h1 h2 => by
        have w₀ : mh_cb M c₀ i₀.toNat (p₀ - r₀) (q₀ - s₀) := (ecb _ _).2 (by omega)
        have g₀ := hT₀ i₀.toNat (by omega) _ _ w₀
        rw [show r₀ + (p₀ - r₀) = p₀ by omega, show s₀ + (q₀ - s₀) = q₀ by omega, ha₀] at g₀
        refine ⟨?_, g₀⟩
        rintro (x₀ | ⟨j₀, hj, x₀⟩)
        · have := hA (p₀ - r₀) (q₀ - s₀) (by omega)
          rw [show r₀ + (p₀ - r₀) = p₀ by omega, show s₀ + (q₀ - s₀) = q₀ by omega] at this
          exact this x₀
        · have := bdj j₀ i₀.toNat (by omega) (by omega) _ _ x₀ w₀
          omega) (fun p₀ q₀ => by
        constructor
        · rintro (x₀ | ⟨j₀, hj, x₀⟩)
          · exact Or.inl (Or.inl x₀)
          · by_cases y₀ : (j₀ : Int) < i₀
            · exact Or.inl (Or.inr ⟨j₀, y₀, x₀⟩)
            · refine Or.inr ?_
              have e₀ : j₀ = i₀.toNat := by omega
              rw [e₀] at x₀
              have := (ecb _ _).1 x₀
              omega
        · rintro ((x₀ | ⟨j₀, hj, x₀⟩) | x₀)
          · exact Or.inl x₀
          · exact Or.inr ⟨j₀, by omega, x₀⟩
          · exact Or.inr ⟨i₀.toNat, by omega, (ecb _ _).2 (by omega)⟩) rfl
      have kc₀ : kd Y c₀ = 4 := (f₀.1 c₀).trans clB₀.1
      have sz₀ : gi Y c₀ 0 = n₀ := ((f₀.2.2.2.2.2.2 c₀ 0).resolve_left (by omega)).trans hn
      have clBY : mg_cL Y c₀ := by
        have r1₀ : ∀ k₀, gr Y (c₀ + 1) k₀ = gr M (c₀ + 1) k₀ := fun k₀ => (f₀.2.2.1 _ k₀).resolve_left (by omega)
        have r2 : ∀ k₀, gr Y c₀ k₀ = gr M c₀ k₀ := fun k₀ => (f₀.2.2.1 _ k₀).resolve_left (by omega)
        have k1₀ := f₀.1
        have l1 := f₀.2.1
        unfold mg_cL at clB₀ ⊢
        simp only [r1₀, r2, k1₀, l1, sz₀]
        rw [hn] at clB₀
        exact clB₀
      have gt := @cX3_get D l hl Y c₀ i₀ clBY (by omega)
      rw [(f₀.2.2.1 (c₀ + 1) i₀.toNat).resolve_left (by omega), ha₀] at gt
      have xt : kd Y t₀ = 5 := (f₀.1 t₀).trans tb₀.1.1
      have xg : gr Y t₀ 5 = t₀ + 3 := ((f₀.2.2.1 t₀ 5).resolve_left (by omega)).trans tb₀.1.2.2.2.1
      have xgn : gr Y t₀ 5 ≠ 0 := by omega
      have kcY : kd Y (gr Y t₀ 5) = 4 := by rw [xg]; exact clY.1
      have xa : kd Y a₀ = 3 := (f₀.1 a₀).trans ai.1
      obtain ⟨b₀, hb₀⟩ : ∃ b₀, gr Y (t₀ + 3 + 1) (gi Y (t₀ + 3) 0).toNat = b₀ := ⟨_, rfl⟩
      have bi := clY.2.2.2.2.2.2.2.1 (gi Y (t₀ + 3) 0).toNat (by omega)
      rw [hb₀] at bi
      have kb : kd Y b₀ = 3 := bi.1
      have ba₀ : a₀ ≠ b₀ := by omega
      have ad : mg_Mt D l 20 [.inr (.inl (t₀ + 3)), .inl (r₀ + gi M a₀ 0), .inl (s₀ + gi M a₀ 1), .inl (gi M a₀ 2), .inl (gi M a₀ 3)] Y (fun v₀ M' => v₀ = some (.inr (.inl (gr Y (t₀ + 3 + 1) (gi Y (t₀ + 3) 0).toNat))) ∧ M' = mh_ad Y (t₀ + 3) (r₀ + gi M a₀ 0) (s₀ + gi M a₀ 1) (gi M a₀ 2) (gi M a₀ 3)) mg_no := @cX3_add D l hl Y (t₀ + 3) (r₀ + gi M a₀ 0) (s₀ + gi M a₀ 1) (gi M a₀ 2) (gi M a₀ 3) clY n120
      have ya := fun j₀ => @mh_ad_ne Y (t₀ + 3) a₀ j₀ (r₀ + gi M a₀ 0) (s₀ + gi M a₀ 1) (gi M a₀ 2) (gi M a₀ 3) (by rw [hb₀]; exact ba₀) (by omega)
      rw [hb₀] at ad AD₀
      have v0₀ := av 0
      have v1₀ := av 1
      have v2 := av 2
      have v3 := av 3
      have v4₀ := (ya 4).trans (av 4)
      have v5 := (ya 5).trans (av 5)
      have G9 := nex _ AD₀
      have yk : kd (mh_ad Y (t₀ + 3) (r₀ + gi M a₀ 0) (s₀ + gi M a₀ 1) (gi M a₀ 2) (gi M a₀ 3)) b₀ = 3 := kb
      have yka : kd (mh_ad Y (t₀ + 3) (r₀ + gi M a₀ 0) (s₀ + gi M a₀ 1) (gi M a₀ 2) (gi M a₀ 3)) a₀ = 3 := xa
      have fi := @cX2_fill D l hl (mh_ad Y (t₀ + 3) (r₀ + gi M a₀ 0) (s₀ + gi M a₀ 1) (gi M a₀ 2) (gi M a₀ 3)) b₀ (gi M a₀ 4) (gi M a₀ 5) yk
      generalize mh_ad Y (t₀ + 3) (r₀ + gi M a₀ 0) (s₀ + gi M a₀ 1) (gi M a₀ 2) (gi M a₀ 3) = X₀ at *
      clear nex AD₀ ltY bok bdj bal hA hT₀ lt₀ f₀ clY clBY ya av ecb
      refine hK₀ _ _ _ _ _ ?_
      (repeat' (((conv => whnf); first | (show (_ : Option mg_V) = _ ∧ _; assumption) | (show K _ _ _ _ _; assumption) | (show mm_th _ _ _ _; assumption) | refine And.intro (by first | assumption | omega | (simp only [true_and, kd_si, gr_si]; first | done | assumption | omega)) ?_ | (refine And.intro (fun _ => ?_) (fun _ => ?_) <;> first | (exfalso; omega) | skip) | intro _ | fail)))
      all_goals ((conv => whnf); skip)
      (refine Exists.intro _ (Exists.intro _ (And.intro (gt) (And.intro ?_ (fun _ _ h₀ => h₀.elim)))); rintro _ _ ⟨rfl, e₀⟩; have e2₀ := e₀.symm; clear e₀; subst e2₀)
      (repeat' (((conv => whnf); first | (show (_ : Option mg_V) = _ ∧ _; assumption) | (show K _ _ _ _ _; assumption) | (show mm_th _ _ _ _; assumption) | refine And.intro (by first | assumption | omega | (simp only [true_and, kd_si, gr_si]; first | done | assumption | omega)) ?_ | (refine And.intro (fun _ => ?_) (fun _ => ?_) <;> first | (exfalso; omega) | skip) | intro _ | fail)))
      all_goals ((conv => whnf); try rw [xg, v0₀, v1₀, v2, v3])
      (refine Exists.intro _ (Exists.intro _ (And.intro (ad) (And.intro ?_ (fun _ _ h₀ => h₀.elim)))); rintro _ _ ⟨rfl, e₀⟩; have e2₀ := e₀.symm; clear e₀; subst e2₀)
      (repeat' (((conv => whnf); first | (show (_ : Option mg_V) = _ ∧ _; assumption) | (show K _ _ _ _ _; assumption) | (show mm_th _ _ _ _; assumption) | refine And.intro (by first | assumption | omega | (simp only [true_and, kd_si, gr_si]; first | done | assumption | omega)) ?_ | (refine And.intro (fun _ => ?_) (fun _ => ?_) <;> first | (exfalso; omega) | skip) | intro _ | fail)))
      all_goals ((conv => whnf); try rw [v4₀, v5])
      (refine Exists.intro _ (Exists.intro _ (And.intro (fi) (And.intro ?_ (fun _ _ h₀ => h₀.elim)))); rintro _ _ ⟨rfl, e₀⟩; have e2₀ := e₀.symm; clear e₀; subst e2₀)
      (repeat' (((conv => whnf); first | (show (_ : Option mg_V) = _ ∧ _; assumption) | (show K _ _ _ _ _; assumption) | (show mm_th _ _ _ _; assumption) | refine And.intro (by first | assumption | omega | (simp only [true_and, kd_si, gr_si]; first | done | assumption | omega)) ?_ | (refine And.intro (fun _ => ?_) (fun _ => ?_) <;> first | (exfalso; omega) | skip) | intro _ | fail)))
      all_goals ((conv => whnf); exact G9)
    · have e₀ : (fun p₀ q₀ => A₀ p₀ q₀ ∨ ∃ j₀ : Nat, (j₀ : Int) < (0 : Int) ∧ mh_cb M c₀ j₀ (p₀ - r₀) (q₀ - s₀)) = A₀ := by
        funext p₀ q₀
        exact propext ⟨fun w₀ => w₀.elim id (fun ⟨j₀, hj, _⟩ => by omega), Or.inl⟩
      show mh_lz M Z₀ t₀ (fun p₀ q₀ => A₀ p₀ q₀ ∨ ∃ j₀ : Nat, (j₀ : Int) < (0 : Int) ∧ mh_cb M c₀ j₀ (p₀ - r₀) (q₀ - s₀)) T L₀ H₀ W₀ cn sy
      rw [e₀]
      exact lt₀
  clear lt₀ bok bdj bal hA hT₀
  refine hK₀ _ _ _ _ _ ?_
  (repeat' (((conv => whnf); first | (show (_ : Option mg_V) = _ ∧ _; assumption) | (show K _ _ _ _ _; assumption) | (show mm_th _ _ _ _; assumption) | refine And.intro (by first | assumption | omega | (simp only [true_and, kd_si, gr_si]; first | done | assumption | omega)) ?_ | (refine And.intro (fun _ => ?_) (fun _ => ?_) <;> first | (exfalso; omega) | skip) | intro _ | fail)))
