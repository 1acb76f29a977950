set_option maxRecDepth 100000 in
theorem cX6_parts {D : mg_D} {l : Launch} (hl : l.stackTraces = false) {M P0₀ : mg_M} {m₀ : Nat} {i₀ k₀ T0₀ L0₀ H0 W0₀ : Int} {T L₀ H₀ W₀ : Int → Int → Int} (st₀ : mm_st M m₀) (rc : mm_rc M m₀) (kk : mm_kk M P0₀ m₀) (hb₀ : 1 ≤ gi M m₀ 1 ∧ 1 ≤ gi M m₀ 2) (hR : mm_rts M m₀ T L₀ H₀ W₀) (hT₀ : ∀ r₀ c₀, mh_rg (gi M m₀ 1) (gi M m₀ 2) r₀ c₀ → T (T r₀ c₀) (L₀ r₀ c₀) = T r₀ c₀ ∧ L₀ (T r₀ c₀) (L₀ r₀ c₀) = L₀ r₀ c₀) (hi : 0 ≤ i₀ ∧ i₀ < 120) (h0 : mm_rect M m₀ i₀ T0₀ L0₀ H0 W0₀) (hid₀ : ∀ r₀ c₀, mh_rg (gi M m₀ 1) (gi M m₀ 2) r₀ c₀ → 0 ≤ mi M (m₀ + 1) r₀ c₀ ∧ mi M (m₀ + 1) r₀ c₀ < 120) : mg_Mt D l 176 [.inr (.inl m₀), .inl i₀, .inl k₀] P0₀ (fun v₀ N => v₀ = none ∧ mm_nw M N m₀ (gi M m₀ 1) (gi M m₀ 2) (gi M m₀ 3) (mi_sp M m₀ T L₀ i₀ k₀ T0₀ L0₀) (mi_sc M m₀ i₀ (10 * T0₀ + L0₀)) (mi_ss M m₀) (fun k₀ => gi M (m₀ + 4) k₀.toNat) (fun k₀ => gi M (m₀ + 5) k₀.toNat)) mg_no := by
  refine mg_of2 hl ok_X6_parts al_X6_parts rfl (fun K hK₀ => ?_)
  have rc' := rc
  unfold mm_rc at rc'
  have f₀ := kk.1
  have stP := mm_f_st f₀ st₀
  have k7₀ := stP.1
  obtain ⟨-, ⟨a20, b20, c20₀⟩, -, ⟨a31, b31, c31₀⟩, -⟩ := stP.2.2.2
  have u1₀ := mm_f_gi f₀ m₀ 1 (by omega)
  have u2₀ := mm_f_gi f₀ m₀ 2 (by omega)
  have u3 := mm_f_gi f₀ m₀ 3 (by omega)
  have rcP := mm_rc_f f₀ (by omega) (by omega) rc
  have rP := mm_rect_f u1₀ u2₀ (fun j₀ => mm_f_gi f₀ (m₀ + 1) j₀ (by omega)) h0
  have b1 := h0.1
  have b2 := h0.2.1
  -- behind₀ the row₀ that is₀ blanked
  have F₀ : ∀ Y, mm_f (fun b₀ _ => b₀ = m₀ + 11 ∨ b₀ = m₀ + 12 ∨ b₀ = m₀ + 16) P0₀ Y → (∀ k₀ : Int, 0 ≤ k₀ → k₀ < 120 → gi Y (m₀ + 11) k₀.toNat = gi M (m₀ + 1) k₀.toNat) → K 20 [(0, Sum.inr (Sum.inl m₀)), (1, Sum.inl i₀), (2, Sum.inl k₀), (3, Sum.inl T0₀), (4, Sum.inl L0₀), (5, Sum.inl 0)] [] Y 0 := by
    intro Y fY vY
    have stY := mm_f_st fY stP
    refine mh_for (P := fun j₀ Z₀ => mm_f (fun b₀ _ => b₀ = m₀ + 12 ∨ b₀ = m₀ + 16) Y Z₀) (G := fun j₀ Z₀ => K 20 [(0, Sum.inr (Sum.inl m₀)), (1, Sum.inl i₀), (2, Sum.inl k₀), (3, Sum.inl T0₀), (4, Sum.inl L0₀), (5, Sum.inl j₀)] [] Z₀ 0) (lo := 0) (hi := 140) (by omega) ?_ ?_ Y mm_f_rfl
    · intro Z₀ g₀
      have stZ₀ := mm_f_st g₀ stY
      have k7Z := stZ₀.1
      have fZ : mm_f (fun b₀ k₀ => mm_sM m₀ b₀ k₀ ∨ b₀ = m₀ + 11 ∨ b₀ = m₀ + 12 ∨ b₀ = m₀ + 16) M Z₀ := mm_f_tr (mm_f_tr (mm_f_mono f₀ (fun b₀ k₀ z₀ => Or.inl z₀)) (mm_f_mono fY (fun b₀ k₀ z₀ => Or.inr z₀))) (mm_f_mono g₀ (fun b₀ k₀ z₀ => by omega))
      have aZ : mm_as M Z₀ m₀ := ⟨mm_f_gi fZ m₀ 1 (by omega), mm_f_gi fZ m₀ 2 (by omega), fun k₀ k0₀ k1₀ => by rw [mm_f_gi g₀ (m₀ + 11) _ (by omega)]; exact vY k₀ k0₀ k1₀⟩
      have kt : mm_kt M Z₀ m₀ := mm_kt_f g₀ (fun k₀ _ _ => by omega) (fun b₀ k₀ _ _ => by omega) (mm_kt_f fY (fun k₀ _ _ => by omega) (fun b₀ k₀ _ _ => by omega) kk.2.2)
      have z0 : gi Z₀ m₀ 0 = 0 := by rw [mm_f_gi g₀ m₀ 0 (by omega), mm_f_gi fY m₀ 0 (by omega)]; exact kk.2.1
      have pl := cX6_placed (D := D) (i₀ := i₀) (k₀ := k₀) (r1₀ := T0₀) (c1₀ := L0₀) hl stZ₀ rc aZ (by omega) hR
      have sp₀ := fun Q₀ (fQ : mm_f (fun b₀ _ => b₀ = m₀ + 1) Z₀ Q₀) => cX6_spreads (D := D) hl (mm_f_st fQ stZ₀) rc (mm_as_f fQ (by omega) (by omega) (fun k₀ => by omega) aZ) (fun k₀ hk => ⟨(mm_f_gi fQ (m₀ + 2) k₀ (by omega)).trans (mm_f_gi fZ (m₀ + 2) k₀ (by omega)), (mm_f_gi fQ (m₀ + 3) k₀ (by omega)).trans (mm_f_gi fZ (m₀ + 3) k₀ (by omega))⟩) h0 hi hid₀
      have PR₀ : ∀ Q1₀ Q2₀, mm_f (fun b₀ _ => b₀ = m₀ + 1) Z₀ Q1₀ → (∀ r₀ c₀, mh_rg (gi M m₀ 1) (gi M m₀ 2) r₀ c₀ → mi Q1₀ (m₀ + 1) r₀ c₀ = mi_sp M m₀ T L₀ i₀ k₀ T0₀ L0₀ r₀ c₀) → mm_f (fun b₀ _ => b₀ = m₀ + 2 ∨ b₀ = m₀ + 3 ∨ b₀ = m₀ + 12 ∨ b₀ = m₀ + 16) Q1₀ Q2₀ → (∀ k₀, 0 ≤ k₀ ∧ k₀ < 120 → k₀ / 10 < gi M m₀ 1 → k₀ % 10 < gi M m₀ 2 → gi Q1₀ (m₀ + 1) k₀.toNat = k₀ → gi Q2₀ (m₀ + 2) k₀.toNat = mi_sc M m₀ i₀ (10 * T0₀ + L0₀) k₀ ∧ gi Q2₀ (m₀ + 3) k₀.toNat = mi_ss M m₀ k₀) → mm_pre M Q2₀ m₀ (gi M m₀ 1) (gi M m₀ 2) (gi M m₀ 3) (mi_sp M m₀ T L₀ i₀ k₀ T0₀ L0₀) (mi_sc M m₀ i₀ (10 * T0₀ + L0₀)) (mi_ss M m₀) (fun k₀ => gi M (m₀ + 4) k₀.toNat) (fun k₀ => gi M (m₀ + 5) k₀.toNat) := by
        intro Q1₀ Q2₀ f1₀ v1₀ f2₀ v2
        have fA : mm_f (mm_sB m₀) M Q2₀ := mm_f_tr (mm_f_tr (mm_f_mono fZ (fun b₀ k₀ z₀ => by omega)) (mm_f_mono f1₀ (fun b₀ k₀ z₀ => by omega))) (mm_f_mono f2₀ (fun b₀ k₀ z₀ => by omega))
        have e₀ := fun k₀ => (mm_f_gi f2₀ m₀ k₀ (by omega)).trans ((mm_f_gi f1₀ m₀ k₀ (by omega)))
        -- where a₀ square's cell₀ begins, and that it begins there₀
        have bg : ∀ r₀ c₀, mh_rg (gi M m₀ 1) (gi M m₀ 2) r₀ c₀ → ∃ p₀ q₀, mh_rg (gi M m₀ 1) (gi M m₀ 2) p₀ q₀ ∧ mi_sp M m₀ T L₀ i₀ k₀ T0₀ L0₀ r₀ c₀ = 10 * p₀ + q₀ ∧ mi_sp M m₀ T L₀ i₀ k₀ T0₀ L0₀ p₀ q₀ = 10 * p₀ + q₀ := by
          intro r₀ c₀ hr
          have rr := hR r₀ c₀ hr
          have tt := hT₀ r₀ c₀ hr
          by_cases q₀ : mi M (m₀ + 1) r₀ c₀ = i₀
          · have w₀ := (h0.2.2 r₀ c₀ hr.1 hr.2).1 q₀
            refine ⟨if k₀ = 99 then T0₀ else r₀, if k₀ = 114 then L0₀ else c₀, ?_, ?_, ?_⟩
            · (repeat' split) <;> omega
            · unfold mi_sp
              rw [if_pos q₀]
            · have g9 : mi M (m₀ + 1) (if k₀ = 99 then T0₀ else r₀) (if k₀ = 114 then L0₀ else c₀) = i₀ := by
                refine (h0.2.2 _ _ ?_ ?_).2 ?_ <;> ((repeat' split) <;> omega)
              unfold mi_sp
              rw [if_pos g9]
              (repeat' split) <;> rfl
          · have g1 := rr.1
            have g2 := rr.2.1
            have g9 : mi M (m₀ + 1) (T r₀ c₀) (L₀ r₀ c₀) = mi M (m₀ + 1) r₀ c₀ := (rr.2.2 _ _ (by omega) (by omega)).2 (by omega)
            refine ⟨T r₀ c₀, L₀ r₀ c₀, by omega, ?_, ?_⟩
            · unfold mi_sp
              rw [if_neg q₀]
            · unfold mi_sp
              rw [g9, if_neg q₀, tt.1, tt.2]
        refine ⟨fA, ⟨by rw [e₀]; exact z0, by rw [e₀]; exact aZ.1, by rw [e₀]; exact aZ.2.1, by rw [e₀]; exact mm_f_gi fZ m₀ 3 (by omega)⟩, mm_kt_f f2₀ (fun k₀ _ _ => by omega) (fun b₀ k₀ _ _ => by omega) (mm_kt_f f1₀ (fun k₀ _ _ => by omega) (fun b₀ k₀ _ _ => by omega) kt), by omega, ?_, ?_, ?_, ?_⟩
        · intro r₀ c₀ hr
          obtain ⟨p₀, q₀, hp, e1₀, e2₀⟩ := bg r₀ c₀ hr
          refine ⟨(mm_f_gi f2₀ (m₀ + 1) _ (by omega)).trans (v1₀ r₀ c₀ hr), ?_⟩
          rw [e1₀]
          omega
        · intro r₀ c₀ hr
          obtain ⟨p₀, q₀, hp, e1₀, e2₀⟩ := bg r₀ c₀ hr
          rw [e1₀]
          have d1₀ : (10 * p₀ + q₀) / 10 = p₀ := by omega
          have d2₀ : (10 * p₀ + q₀) % 10 = q₀ := by omega
          refine v2 (10 * p₀ + q₀) (by omega) (by omega) (by omega) ?_
          have := v1₀ p₀ q₀ hp
          rw [e2₀] at this
          exact this
        · intro k₀ k0₀ k1₀
          rw [mm_f_gi f2₀ (m₀ + 4) _ (by omega), mm_f_gi f1₀ (m₀ + 4) _ (by omega), mm_f_gi fZ (m₀ + 4) _ (by omega)]
        · intro k₀ k0₀ k1₀
          rw [mm_f_gi f2₀ (m₀ + 5) _ (by omega), mm_f_gi f1₀ (m₀ + 5) _ (by omega), mm_f_gi fZ (m₀ + 5) _ (by omega)]
      clear hR hT₀ hid₀ vY
      refine hK₀ _ _ _ _ _ ?_
      (repeat' (((conv => whnf); first | (show (_ : Option mg_V) = _ ∧ _; assumption) | (show K _ _ _ _ _; assumption) | refine And.intro (by first | assumption | omega | (simp only [true_and, a20, b20, c20₀, a31, b31, c31₀, kd_si, ln_si, gr_si]; first | done | assumption | omega)) ?_ | (refine And.intro (fun _ => ?_) (fun _ => ?_) <;> first | (exfalso; omega) | skip) | intro _ | fail)))
      (conv => whnf)
      refine Exists.intro _ (Exists.intro _ (And.intro (pl) (And.intro ?_ (fun _ _ h₀ => h₀.elim))))
      rintro _ Q1₀ ⟨rfl, f1₀, v1₀⟩
      have k71 := (mm_f_st f1₀ stZ₀).1
      have sp1 := sp₀ Q1₀ f1₀
      clear sp₀ pl
      (repeat' (((conv => whnf); first | (show (_ : Option mg_V) = _ ∧ _; assumption) | (show K _ _ _ _ _; assumption) | refine And.intro (by first | assumption | omega | (simp only [true_and, a20, b20, c20₀, a31, b31, c31₀, kd_si, ln_si, gr_si]; first | done | assumption | omega)) ?_ | (refine And.intro (fun _ => ?_) (fun _ => ?_) <;> first | (exfalso; omega) | skip) | intro _ | fail)))
      (conv => whnf)
      refine Exists.intro _ (Exists.intro _ (And.intro (sp1) (And.intro ?_ (fun _ _ h₀ => h₀.elim))))
      rintro _ Q2₀ ⟨rfl, f2₀, v2⟩
      have st2₀ := mm_f_st f2₀ (mm_f_st f1₀ stZ₀)
      have k72 := st2₀.1
      have pr := PR₀ Q1₀ Q2₀ f1₀ v1₀ f2₀ v2
      obtain ⟨y1, y2⟩ := mm_pre_rc pr
      clear PR₀ v1₀ v2 sp1
      (repeat' (((conv => whnf); first | (show (_ : Option mg_V) = _ ∧ _; assumption) | (show K _ _ _ _ _; assumption) | refine And.intro (by first | assumption | omega | (simp only [true_and, a20, b20, c20₀, a31, b31, c31₀, kd_si, ln_si, gr_si]; first | done | assumption | omega)) ?_ | (refine And.intro (fun _ => ?_) (fun _ => ?_) <;> first | (exfalso; omega) | skip) | intro _ | fail)))
      (conv => whnf)
      refine Exists.intro _ (Exists.intro _ (And.intro (cX6_settles hl st2₀ y1 y2) (And.intro ?_ (fun _ _ h₀ => h₀.elim))))
      rintro _ N3 ⟨rfl, hs⟩
      have Q₀ := And.intro (Eq.refl (none : Option mg_V)) (mm_pre_set pr hs)
      clear pr hs
      (repeat' (((conv => whnf); first | (show (_ : Option mg_V) = _ ∧ _; assumption) | (show K _ _ _ _ _; assumption) | refine And.intro (by first | assumption | omega | (simp only [true_and, a20, b20, c20₀, a31, b31, c31₀, kd_si, ln_si, gr_si]; first | done | assumption | omega)) ?_ | (refine And.intro (fun _ => ?_) (fun _ => ?_) <;> first | (exfalso; omega) | skip) | intro _ | fail)))
    · intro j₀ Z₀ j0 j1 g₀ nex
      have stZ₀ := mm_f_st g₀ stY
      have k7Z := stZ₀.1
      obtain ⟨-, ⟨a20, b20, c20₀⟩, -, ⟨a31, b31, c31₀⟩, -⟩ := stZ₀.2.2.2
      have w₀ := nex (si (si Z₀ (m₀ + 12) j₀.toNat (-1)) (m₀ + 16) j₀.toNat 0) (mm_f_si (mm_f_si g₀ (by omega)) (by omega))
      clear nex hR hT₀ hid₀ vY
      refine hK₀ _ _ _ _ _ ?_
      (repeat' (((conv => whnf); first | (show (_ : Option mg_V) = _ ∧ _; assumption) | (show K _ _ _ _ _; assumption) | refine And.intro (by first | assumption | omega | (simp only [true_and, a20, b20, c20₀, a31, b31, c31₀, kd_si, ln_si, gr_si]; first | done | assumption | omega)) ?_ | (refine And.intro (fun _ => ?_) (fun _ => ?_) <;> first | (exfalso; omega) | skip) | intro _ | fail)))
      all_goals ((conv => whnf); simp only [gr_si, a20, a31]; exact w₀)
  clear hR hT₀ hid₀
  refine hK₀ _ _ _ _ _ ?_
  (repeat' (((conv => whnf); first | (show (_ : Option mg_V) = _ ∧ _; assumption) | (show K _ _ _ _ _; assumption) | refine And.intro (by first | assumption | omega | (simp only [true_and, a20, b20, c20₀, a31, b31, c31₀, kd_si, ln_si, gr_si]; first | done | assumption | omega)) ?_ | (refine And.intro (fun _ => ?_) (fun _ => ?_) <;> first | (exfalso; omega) | skip) | intro _ | fail)))
  all_goals (try ((conv => whnf); (refine Exists.intro _ (Exists.intro _ (And.intro (cX6_topRow hl stP rcP rP) (And.intro ?_ (fun _ _ h₀ => h₀.elim)))); rintro _ _ ⟨rfl, e₀⟩; have e2₀ := e₀.symm; clear e₀; subst e2₀); (repeat' (((conv => whnf); first | (show (_ : Option mg_V) = _ ∧ _; assumption) | (show K _ _ _ _ _; assumption) | refine And.intro (by first | assumption | omega | (simp only [true_and, a20, b20, c20₀, a31, b31, c31₀, kd_si, ln_si, gr_si]; first | done | assumption | omega)) ?_ | (refine And.intro (fun _ => ?_) (fun _ => ?_) <;> first | (exfalso; omega) | skip) | intro _ | fail)))))
  all_goals (try ((conv => whnf); (refine Exists.intro _ (Exists.intro _ (And.intro (cX6_leftCol hl stP rcP rP) (And.intro ?_ (fun _ _ h₀ => h₀.elim)))); rintro _ _ ⟨rfl, e₀⟩; have e2₀ := e₀.symm; clear e₀; subst e2₀); (repeat' (((conv => whnf); first | (show (_ : Option mg_V) = _ ∧ _; assumption) | (show K _ _ _ _ _; assumption) | refine And.intro (by first | assumption | omega | (simp only [true_and, a20, b20, c20₀, a31, b31, c31₀, kd_si, ln_si, gr_si]; first | done | assumption | omega)) ?_ | (refine And.intro (fun _ => ?_) (fun _ => ?_) <;> first | (exfalso; omega) | skip) | intro _ | fail)))))
  (conv => whnf)
  refine Exists.intro _ (Exists.intro _ (And.intro (cX6_putsAside hl stP) (And.intro ?_ (fun _ _ h₀ => h₀.elim))))
  rintro _ Y ⟨rfl, g₀, v₀⟩
  have w₀ := F₀ Y (mm_f_mono g₀ (fun b₀ k₀ z₀ => by omega)) (fun k₀ k0₀ k1₀ => by rw [v₀ _ (by omega), mm_f_gi f₀ (m₀ + 1) _ (by omega)])
  clear F₀ v₀
  (repeat' (((conv => whnf); first | (show (_ : Option mg_V) = _ ∧ _; assumption) | (show K _ _ _ _ _; assumption) | refine And.intro (by first | assumption | omega | (simp only [true_and, a20, b20, c20₀, a31, b31, c31₀, kd_si, ln_si, gr_si]; first | done | assumption | omega)) ?_ | (refine And.intro (fun _ => ?_) (fun _ => ?_) <;> first | (exfalso; omega) | skip) | intro _ | fail)))
