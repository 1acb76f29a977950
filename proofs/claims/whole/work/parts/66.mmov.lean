/-- the row₀ that comes to a₀ row₀ when one is₀ moved₀ -/
def mh_mv (r₀ k₀ p₀ : Int) : Int := if r₀ ≤ p₀ ∧ p₀ < k₀ then p₀ + 1 else if p₀ = k₀ then r₀ else if k₀ < p₀ ∧ p₀ ≤ r₀ then p₀ - 1 else p₀
abbrev mm_td (M : mg_M) (m₀ : Nat) (x₀ y₀ : Int) : Prop := ∃ i₀ j₀, (x₀ ≤ i₀ ∧ i₀ < y₀ + 1) ∧ (0 ≤ j₀ ∧ j₀ < gi M m₀ 2) ∧ ((0 < i₀ ∧ mi M (m₀ + 1) i₀ j₀ = mi M (m₀ + 1) (i₀ - 1) j₀) ∨ (i₀ < gi M m₀ 1 - 1 ∧ mi M (m₀ + 1) i₀ j₀ = mi M (m₀ + 1) (i₀ + 1) j₀))
set_option maxRecDepth 100000 in
theorem cX6_moveRow1 {D : mg_D} {l : Launch} (hl : l.stackTraces = false) {M : mg_M} {m₀ : Nat} {x₀ y₀ : Int} (st₀ : mm_st M m₀) (rc : mm_rc M m₀) (h₀ : ¬ ((0 ≤ x₀ ∧ x₀ < gi M m₀ 1) ∧ (0 ≤ y₀ ∧ y₀ < gi M m₀ 1))) : mg_Mt D l 152 [.inr (.inl m₀), .inl x₀, .inl y₀] M (fun v₀ N => v₀ = some (.inl 0) ∧ N = si M m₀ 0 1) mg_no := by
  refine mg_of2 hl ok_X6_moveRow al_X6_moveRow rfl (fun K hK₀ => ?_)
  have k7₀ := st₀.1
  have rc' := rc
  unfold mm_rc at rc'
  refine hK₀ _ _ _ _ _ ?_
  (repeat' (((conv => whnf); first | assumption | refine And.intro (by first | assumption | omega | (simp only [true_and]; first | done | assumption | omega)) ?_ | (refine And.intro (fun _ => ?_) (fun _ => ?_) <;> first | (exfalso; omega) | skip) | intro _ | fail)))
  all_goals (try ((conv => whnf); (refine Exists.intro _ (Exists.intro _ (And.intro (cX6_in hl) (And.intro ?_ (fun _ _ h₀ => h₀.elim)))); rintro _ _ ⟨rfl, e₀⟩; have e2₀ := e₀.symm; clear e₀; subst e2₀); (repeat' (((conv => whnf); first | assumption | refine And.intro (by first | assumption | omega | (simp only [true_and]; first | done | assumption | omega)) ?_ | (refine And.intro (fun _ => ?_) (fun _ => ?_) <;> first | (exfalso; omega) | skip) | intro _ | fail)))))
  all_goals (try ((conv => whnf); (refine Exists.intro _ (Exists.intro _ (And.intro (cX6_in hl) (And.intro ?_ (fun _ _ h₀ => h₀.elim)))); rintro _ _ ⟨rfl, e₀⟩; have e2₀ := e₀.symm; clear e₀; subst e2₀); (repeat' (((conv => whnf); first | assumption | refine And.intro (by first | assumption | omega | (simp only [true_and]; first | done | assumption | omega)) ?_ | (refine And.intro (fun _ => ?_) (fun _ => ?_) <;> first | (exfalso; omega) | skip) | intro _ | fail)))))
  all_goals (try ((conv => whnf); (refine Exists.intro _ (Exists.intro _ (And.intro (cX6_fails hl k7₀) (And.intro ?_ (fun _ _ h₀ => h₀.elim)))); rintro _ _ ⟨rfl, e₀⟩; have e2₀ := e₀.symm; clear e₀; subst e2₀); (repeat' (((conv => whnf); first | assumption | refine And.intro (by first | assumption | omega | (simp only [true_and]; first | done | assumption | omega)) ?_ | (refine And.intro (fun _ => ?_) (fun _ => ?_) <;> first | (exfalso; omega) | skip) | intro _ | fail)))))
  all_goals ((conv => whnf) <;> first | rfl | exact And.intro rfl rfl)
set_option maxRecDepth 100000 in
theorem cX6_moveRow2 {D : mg_D} {l : Launch} (hl : l.stackTraces = false) {M : mg_M} {m₀ : Nat} {x₀ y₀ : Int} (st₀ : mm_st M m₀) (rc : mm_rc M m₀) (h₀ : (0 ≤ x₀ ∧ x₀ < gi M m₀ 1) ∧ (0 ≤ y₀ ∧ y₀ < gi M m₀ 1)) (h2 : x₀ = y₀) : mg_Mt D l 152 [.inr (.inl m₀), .inl x₀, .inl y₀] M (fun v₀ N => v₀ = some (.inl 0) ∧ N = si M m₀ 0 2) mg_no := by
  refine mg_of2 hl ok_X6_moveRow al_X6_moveRow rfl (fun K hK₀ => ?_)
  have k7₀ := st₀.1
  have rc' := rc
  unfold mm_rc at rc'
  refine hK₀ _ _ _ _ _ ?_
  (repeat' (((conv => whnf); first | assumption | refine And.intro (by first | assumption | omega | (simp only [true_and]; first | done | assumption | omega)) ?_ | (refine And.intro (fun _ => ?_) (fun _ => ?_) <;> first | (exfalso; omega) | skip) | intro _ | fail)))
  all_goals (try ((conv => whnf); (refine Exists.intro _ (Exists.intro _ (And.intro (cX6_in hl) (And.intro ?_ (fun _ _ h₀ => h₀.elim)))); rintro _ _ ⟨rfl, e₀⟩; have e2₀ := e₀.symm; clear e₀; subst e2₀); (repeat' (((conv => whnf); first | assumption | refine And.intro (by first | assumption | omega | (simp only [true_and]; first | done | assumption | omega)) ?_ | (refine And.intro (fun _ => ?_) (fun _ => ?_) <;> first | (exfalso; omega) | skip) | intro _ | fail)))))
  all_goals (try ((conv => whnf); (refine Exists.intro _ (Exists.intro _ (And.intro (cX6_in hl) (And.intro ?_ (fun _ _ h₀ => h₀.elim)))); rintro _ _ ⟨rfl, e₀⟩; have e2₀ := e₀.symm; clear e₀; subst e2₀); (repeat' (((conv => whnf); first | assumption | refine And.intro (by first | assumption | omega | (simp only [true_and]; first | done | assumption | omega)) ?_ | (refine And.intro (fun _ => ?_) (fun _ => ?_) <;> first | (exfalso; omega) | skip) | intro _ | fail)))))
  all_goals (try ((conv => whnf); (refine Exists.intro _ (Exists.intro _ (And.intro (cX6_fails hl k7₀) (And.intro ?_ (fun _ _ h₀ => h₀.elim)))); rintro _ _ ⟨rfl, e₀⟩; have e2₀ := e₀.symm; clear e₀; subst e2₀); (repeat' (((conv => whnf); first | assumption | refine And.intro (by first | assumption | omega | (simp only [true_and]; first | done | assumption | omega)) ?_ | (refine And.intro (fun _ => ?_) (fun _ => ?_) <;> first | (exfalso; omega) | skip) | intro _ | fail)))))
  all_goals ((conv => whnf) <;> first | rfl | exact And.intro rfl rfl)
theorem cX6_tied {D : mg_D} {l : Launch} (hl : l.stackTraces = false) {M P : mg_M} {m₀ : Nat} {x₀ y₀ u₀ : Int} (st₀ : mm_st M m₀) (rc : mm_rc M m₀) (t₀ : mm_th M P m₀ u₀) (hx : 0 ≤ x₀ ∧ x₀ ≤ y₀ + 1 ∧ y₀ < gi M m₀ 1) : mg_Mt D l 150 [.inr (.inl m₀), .inl x₀, .inl y₀] P (fun v₀ N => v₀ = some (.inl (mh_pr (mm_td M m₀ x₀ y₀))) ∧ N = P) mg_no := by
  have f₀ := t₀.1
  have t1₀ := mm_f_gi f₀ m₀ 1 (by omega)
  have t2₀ := mm_f_gi f₀ m₀ 2 (by omega)
  have ti : ∀ r₀ c₀, mi P (m₀ + 1) r₀ c₀ = mi M (m₀ + 1) r₀ c₀ := fun r₀ c₀ => mm_f_gi f₀ (m₀ + 1) _ (by omega)
  have g₀ := cX6_isTied (D := D) hl (mm_f_st f₀ st₀) (mm_rc_f f₀ (by omega) (by omega) rc) (x₀ := x₀) (y₀ := y₀) (by omega)
  simp only [t1₀, t2₀, ti] at g₀
  exact g₀
set_option maxRecDepth 100000 in
theorem cX6_moveRow3 {D : mg_D} {l : Launch} (hl : l.stackTraces = false) {M : mg_M} {m₀ : Nat} {x₀ y₀ : Int} (st₀ : mm_st M m₀) (rc : mm_rc M m₀) (h₀ : (0 ≤ x₀ ∧ x₀ < gi M m₀ 1) ∧ (0 ≤ y₀ ∧ y₀ < gi M m₀ 1)) (h2 : x₀ ≠ y₀) (h3 : mm_td M m₀ (min x₀ y₀) (max x₀ y₀) ∨ (min x₀ y₀ < gi M m₀ 3 ∧ gi M m₀ 3 ≤ max x₀ y₀)) : mg_Mt D l 152 [.inr (.inl m₀), .inl x₀, .inl y₀] M (fun v₀ N => v₀ = some (.inl 0) ∧ mm_th M N m₀ 3) mg_no := by
  refine mg_of2 hl ok_X6_moveRow al_X6_moveRow rfl (fun K hK₀ => ?_)
  have k7₀ := st₀.1
  have rc' := rc
  unfold mm_rc at rc'
  refine hK₀ _ _ _ _ _ ?_
  (repeat' (((conv => whnf); first | assumption | refine And.intro (by first | assumption | omega | (simp only [true_and]; first | done | assumption | omega)) ?_ | (refine And.intro (fun _ => ?_) (fun _ => ?_) <;> first | (exfalso; omega) | skip) | intro _ | fail)))
  all_goals (try ((conv => whnf); (refine Exists.intro _ (Exists.intro _ (And.intro (cX6_in hl) (And.intro ?_ (fun _ _ h₀ => h₀.elim)))); rintro _ _ ⟨rfl, e₀⟩; have e2₀ := e₀.symm; clear e₀; subst e2₀); (repeat' (((conv => whnf); first | assumption | refine And.intro (by first | assumption | omega | (simp only [true_and]; first | done | assumption | omega)) ?_ | (refine And.intro (fun _ => ?_) (fun _ => ?_) <;> first | (exfalso; omega) | skip) | intro _ | fail)))))
  all_goals (try ((conv => whnf); (refine Exists.intro _ (Exists.intro _ (And.intro (cX6_in hl) (And.intro ?_ (fun _ _ h₀ => h₀.elim)))); rintro _ _ ⟨rfl, e₀⟩; have e2₀ := e₀.symm; clear e₀; subst e2₀); (repeat' (((conv => whnf); first | assumption | refine And.intro (by first | assumption | omega | (simp only [true_and]; first | done | assumption | omega)) ?_ | (refine And.intro (fun _ => ?_) (fun _ => ?_) <;> first | (exfalso; omega) | skip) | intro _ | fail)))))
  (conv => whnf)
  refine Exists.intro _ (Exists.intro _ (And.intro (cX6_fails0 hl rfl mm_th0 st₀) (And.intro ?_ (fun _ _ h₀ => h₀.elim))))
  rintro _ P ⟨rfl, t₀⟩
  have k7P := (mm_f_st t₀.1 st₀).1
  have u3 := mm_f_gi t₀.1 m₀ 3 (by omega)
  have td := fun a₀ b₀ (ha₀ : a₀ = min x₀ y₀) (hb₀ : b₀ = max x₀ y₀) => (by rw [ha₀, hb₀]; exact cX6_tied (D := D) hl st₀ rc t₀ (x₀ := min x₀ y₀) (y₀ := max x₀ y₀) (by omega) : mg_Mt D l 150 [.inr (.inl m₀), .inl a₀, .inl b₀] P (fun v₀ N => v₀ = some (.inl (mh_pr (mm_td M m₀ (min x₀ y₀) (max x₀ y₀)))) ∧ N = P) mg_no)
  have h4 : mh_pr (mm_td M m₀ (min x₀ y₀) (max x₀ y₀)) ≠ 0 ∨ (min x₀ y₀ < gi M m₀ 3 ∧ gi M m₀ 3 ≤ max x₀ y₀) := h3.imp (fun z₀ => by rw [mh_pr1 z₀]; omega) id
  clear h3
  generalize mh_pr (mm_td M m₀ (min x₀ y₀) (max x₀ y₀)) = tdv at *
  (repeat' (((conv => whnf); first | assumption | refine And.intro (by first | assumption | omega | (simp only [true_and]; first | done | assumption | omega)) ?_ | (refine And.intro (fun _ => ?_) (fun _ => ?_) <;> first | (exfalso; omega) | skip) | intro _ | fail)))
  all_goals (try ((conv => whnf); (refine Exists.intro _ (Exists.intro _ (And.intro (td _ _ (by omega) (by omega)) (And.intro ?_ (fun _ _ h₀ => h₀.elim)))); rintro _ _ ⟨rfl, e₀⟩; have e2₀ := e₀.symm; clear e₀; subst e2₀); (repeat' (((conv => whnf); first | assumption | refine And.intro (by first | assumption | omega | (simp only [true_and]; first | done | assumption | omega)) ?_ | (refine And.intro (fun _ => ?_) (fun _ => ?_) <;> first | (exfalso; omega) | skip) | intro _ | fail)))))
  all_goals ((conv => whnf); refine Exists.intro _ (Exists.intro _ (And.intro (cX6_failsX hl (by omega) t₀ st₀) (And.intro ?_ (fun _ _ h₀ => h₀.elim)))))
  all_goals (rintro _ Q₀ ⟨rfl, t2₀⟩; (repeat' (((conv => whnf); first | assumption | refine And.intro (by first | assumption | omega | (simp only [true_and]; first | done | assumption | omega)) ?_ | (refine And.intro (fun _ => ?_) (fun _ => ?_) <;> first | (exfalso; omega) | skip) | intro _ | fail))))
set_option maxRecDepth 100000 in
theorem cX6_moveRow0 {D : mg_D} {l : Launch} (hl : l.stackTraces = false) {M : mg_M} {m₀ : Nat} {x₀ y₀ : Int} {T L₀ H₀ W₀ : Int → Int → Int} (st₀ : mm_st M m₀) (rc : mm_rc M m₀) (h₀ : (0 ≤ x₀ ∧ x₀ < gi M m₀ 1) ∧ (0 ≤ y₀ ∧ y₀ < gi M m₀ 1)) (h2 : x₀ ≠ y₀) (h3 : ¬ (mm_td M m₀ (min x₀ y₀) (max x₀ y₀) ∨ (min x₀ y₀ < gi M m₀ 3 ∧ gi M m₀ 3 ≤ max x₀ y₀))) (hb₀ : 1 ≤ gi M m₀ 1 ∧ 1 ≤ gi M m₀ 2) (hid₀ : ∀ r₀ c₀, mh_rg (gi M m₀ 1) (gi M m₀ 2) r₀ c₀ → 0 ≤ mi M (m₀ + 1) r₀ c₀ ∧ mi M (m₀ + 1) r₀ c₀ < 120) (t₀ : mh_til (gi M m₀ 1) (gi M m₀ 2) (fun p₀ q₀ => mi M (m₀ + 1) (mh_mv x₀ y₀ p₀) q₀) T L₀ H₀ W₀) : mg_Mt D l 152 [.inr (.inl m₀), .inl x₀, .inl y₀] M (fun v₀ N => v₀ = some (.inl (max x₀ y₀ - min x₀ y₀ + 1)) ∧ mm_nw M N m₀ (gi M m₀ 1) (gi M m₀ 2) (gi M m₀ 3) (fun p₀ q₀ => mi M (m₀ + 1) (mh_mv x₀ y₀ p₀) q₀) (fun k₀ => gi M (m₀ + 2) k₀.toNat) (fun k₀ => gi M (m₀ + 3) k₀.toNat) (fun k₀ => gi M (m₀ + 4) k₀.toNat) (fun k₀ => gi M (m₀ + 5) (mh_mv x₀ y₀ k₀).toNat) ∧ mm_se N m₀ (gi M m₀ 1) (gi M m₀ 2) T L₀ H₀ W₀) mg_no := by
  refine mg_of2 hl ok_X6_moveRow al_X6_moveRow rfl (fun K hK₀ => ?_)
  have k7₀ := st₀.1
  have rc' := rc
  unfold mm_rc at rc'
  have FE : ∀ P N k₀, k₀ ≤ y₀ → mm_kk M P m₀ → mm_f (fun b₀ _ => b₀ = m₀ + 1 ∨ b₀ = m₀ + 5) P N → (∀ i₀, 0 ≤ i₀ → gi N (m₀ + 5) i₀.toNat = gi M (m₀ + 5) (mh_mv x₀ y₀ i₀).toNat) → (∀ i₀ j₀, 0 ≤ i₀ → 0 ≤ j₀ ∧ j₀ < gi M m₀ 2 → mi N (m₀ + 1) i₀ j₀ = mi M (m₀ + 1) (mh_mv x₀ y₀ i₀) j₀) → K 143 [(0, Sum.inr (Sum.inl m₀)), (2, Sum.inl y₀), (3, Sum.inl (min x₀ y₀)), (4, Sum.inl (max x₀ y₀)), (5, Sum.inl k₀)] [] N 0 := by
    intro P N k₀ hk kk f5₀ v5 v1₀
    have f3₀ := kk.1
    have kt : mm_kt M P m₀ := kk.2.2
    have z0 := kk.2.1
    have fN₀ : mm_f (mm_sB m₀) M N := mm_f_tr (mm_f_mono f3₀ (fun b₀ k₀ z₀ => by omega)) (mm_f_mono f5₀ (fun b₀ k₀ z₀ => by omega))
    have stN₀ := mm_f_st f5₀ (mm_f_st f3₀ st₀)
    have k7N := stN₀.1
    have u1₀ := (mm_f_gi f5₀ m₀ 1 (by omega)).trans (mm_f_gi f3₀ m₀ 1 (by omega))
    have u2₀ := (mm_f_gi f5₀ m₀ 2 (by omega)).trans (mm_f_gi f3₀ m₀ 2 (by omega))
    have u3 := (mm_f_gi f5₀ m₀ 3 (by omega)).trans (mm_f_gi f3₀ m₀ 3 (by omega))
    have mv₀ : ∀ i₀, 0 ≤ i₀ ∧ i₀ < gi M m₀ 1 → 0 ≤ mh_mv x₀ y₀ i₀ ∧ mh_mv x₀ y₀ i₀ < gi M m₀ 1 := by
      intro i₀ hi
      unfold mh_mv
      (repeat' split) <;> omega
    have pr : mm_pre M N m₀ (gi M m₀ 1) (gi M m₀ 2) (gi M m₀ 3) (fun p₀ q₀ => mi M (m₀ + 1) (mh_mv x₀ y₀ p₀) q₀) (fun k₀ => gi M (m₀ + 2) k₀.toNat) (fun k₀ => gi M (m₀ + 3) k₀.toNat) (fun k₀ => gi M (m₀ + 4) k₀.toNat) (fun k₀ => gi M (m₀ + 5) (mh_mv x₀ y₀ k₀).toNat) := by
      refine ⟨fN₀, ⟨?_, u1₀, u2₀, u3⟩, ?_, by omega, ?_, ?_, ?_, ?_⟩
      · rw [mm_f_gi f5₀ m₀ 0 (by omega)]; exact z0
      · exact mm_kt_f f5₀ (fun k₀ _ _ => by omega) (fun b₀ k₀ _ _ => by omega) kt
      · intro r₀ c₀ hr
        refine ⟨v1₀ r₀ c₀ (by omega) (by omega), ?_⟩
        have := hid₀ (mh_mv x₀ y₀ r₀) c₀ ⟨mv₀ r₀ (by omega), by omega⟩
        dsimp only
        omega
      · intro r₀ c₀ hr
        rw [mm_f_gi f5₀ (m₀ + 2) _ (by omega), mm_f_gi f5₀ (m₀ + 3) _ (by omega), mm_f_gi f3₀ (m₀ + 2) _ (by omega), mm_f_gi f3₀ (m₀ + 3) _ (by omega)]
        exact ⟨rfl, rfl⟩
      · intro k₀ h0 h1
        rw [mm_f_gi f5₀ (m₀ + 4) _ (by omega), mm_f_gi f3₀ (m₀ + 4) _ (by omega)]
      · intro k₀ h0 h1
        exact v5 k₀ h0
    obtain ⟨y1, y2⟩ := mm_pre_rc pr
    clear v5 v1₀ mv₀
    refine hK₀ _ _ _ _ _ ?_
    (repeat' (((conv => whnf); first | assumption | refine And.intro (by first | assumption | omega | (simp only [true_and]; first | done | assumption | omega)) ?_ | (refine And.intro (fun _ => ?_) (fun _ => ?_) <;> first | (exfalso; omega) | skip) | intro _ | fail)))
    (conv => whnf)
    refine Exists.intro _ (Exists.intro _ (And.intro (cX6_settles hl stN₀ y1 y2) (And.intro ?_ (fun _ _ h₀ => h₀.elim))))
    rintro _ N2 ⟨rfl, hs⟩
    have nw := mm_pre_set pr hs
    have k72 : kd N2 m₀ = 7 := (nw.1.1 m₀).trans st₀.1
    clear pr hs
    (repeat' (((conv => whnf); first | assumption | refine And.intro (by first | assumption | omega | (simp only [true_and]; first | done | assumption | omega)) ?_ | (refine And.intro (fun _ => ?_) (fun _ => ?_) <;> first | (exfalso; omega) | skip) | intro _ | fail)))
    (conv => whnf)
    refine Exists.intro _ (Exists.intro _ (And.intro (cX6_starts hl st₀ (by omega) nw t₀) (And.intro ?_ (fun _ _ h₀ => h₀.elim))))
    rintro _ N3 ⟨rfl, Q1₀, Q2₀⟩
    have Q₀ := And.intro (Eq.refl (some (Sum.inl (max x₀ y₀ - min x₀ y₀ + 1) : mg_V))) (And.intro Q1₀ Q2₀)
    (repeat' (((conv => whnf); first | assumption | refine And.intro (by first | assumption | omega | (simp only [true_and]; first | done | assumption | omega)) ?_ | (refine And.intro (fun _ => ?_) (fun _ => ?_) <;> first | (exfalso; omega) | skip) | intro _ | fail)))
  have rcP : ∀ N, mm_f (mm_sB m₀) M N → gi N m₀ 1 = gi M m₀ 1 → gi N m₀ 2 = gi M m₀ 2 → mm_rc N m₀ := by
    intro N f₀ e1₀ e2₀
    unfold mm_rc
    rw [e1₀, e2₀]
    exact rc
  have F2 : ∀ P N, mm_kk M P m₀ → mm_f (fun b₀ _ => b₀ = m₀ + 1 ∨ b₀ = m₀ + 5) P N → y₀ < x₀ ∨ (x₀ < y₀ ∧ ∀ i₀, 0 ≤ i₀ → gi N (m₀ + 5) i₀.toNat = gi M (m₀ + 5) (mh_mv x₀ y₀ i₀).toNat) → y₀ < x₀ ∨ (x₀ < y₀ ∧ ∀ i₀ j₀, 0 ≤ i₀ → 0 ≤ j₀ ∧ j₀ < gi M m₀ 2 → mi N (m₀ + 1) i₀ j₀ = mi M (m₀ + 1) (mh_mv x₀ y₀ i₀) j₀) → (y₀ < x₀ → N = P) → K 143 [(0, Sum.inr (Sum.inl m₀)), (2, Sum.inl y₀), (3, Sum.inl (min x₀ y₀)), (4, Sum.inl (max x₀ y₀)), (5, Sum.inl x₀)] [] N 0 := by
    intro P N kk f5₀ v5 v1₀ hN₀
    have f3₀ := kk.1
    have stP := mm_f_st f3₀ st₀
    by_cases q₀ : y₀ < x₀
    · rw [hN₀ q₀]
      refine mh_ford (P := fun k₀ N => mm_f (fun b₀ _ => b₀ = m₀ + 1 ∨ b₀ = m₀ + 5) P N ∧ (∀ i₀, 0 ≤ i₀ → gi N (m₀ + 5) i₀.toNat = gi M (m₀ + 5) (mh_mv x₀ k₀ i₀).toNat) ∧ ∀ i₀ j₀, 0 ≤ i₀ → 0 ≤ j₀ ∧ j₀ < gi M m₀ 2 → mi N (m₀ + 1) i₀ j₀ = mi M (m₀ + 1) (mh_mv x₀ k₀ i₀) j₀) (G := fun k₀ N => K 143 [(0, Sum.inr (Sum.inl m₀)), (2, Sum.inl y₀), (3, Sum.inl (min x₀ y₀)), (4, Sum.inl (max x₀ y₀)), (5, Sum.inl k₀)] [] N 0) (lo := y₀) (by omega) ?_ ?_ P ⟨mm_f_rfl, fun i₀ h0 => ?_, fun i₀ j₀ h0 hj => ?_⟩
      · rintro N ⟨f₀, a₀, b₀⟩
        exact FE P N y₀ (by omega) kk f₀ a₀ b₀
      · rintro k₀ N k0₀ k1₀ ⟨f₀, a₀, b₀⟩ nex
        have stN₀ := mm_f_st f₀ stP
        have k7N := stN₀.1
        have u1₀ := (mm_f_gi f₀ m₀ 1 (by omega)).trans (mm_f_gi f3₀ m₀ 1 (by omega))
        have u2₀ := (mm_f_gi f₀ m₀ 2 (by omega)).trans (mm_f_gi f3₀ m₀ 2 (by omega))
        have rcN₀ := rcP N (mm_f_tr (mm_f_mono f3₀ (fun b₀ k₀ z₀ => by omega)) (mm_f_mono f₀ (fun b₀ k₀ z₀ => by omega))) u1₀ u2₀
        have sw₀ : ∀ i₀, 0 ≤ i₀ → 0 ≤ mh_sw (k₀ - 1) i₀ ∧ mh_mv x₀ k₀ (mh_sw (k₀ - 1) i₀) = mh_mv x₀ (k₀ - 1) i₀ := by
          intro i₀ hi
          unfold mh_sw mh_mv
          (repeat' split) <;> omega
        have e9₀ : k₀ + -1 = k₀ - 1 := by omega
        have ni : ¬ (k₀ ≤ y₀) := by omega
        refine hK₀ _ _ _ _ _ ?_
        (repeat' (((conv => whnf); first | assumption | refine And.intro (by first | assumption | omega | (simp only [true_and]; first | done | assumption | omega)) ?_ | (refine And.intro (fun _ => ?_) (fun _ => ?_) <;> first | (exfalso; omega) | skip) | intro _ | fail)))
        (conv => whnf)
        refine Exists.intro _ (Exists.intro _ (And.intro (cX6_exchanges hl stN₀ rcN₀ (by omega)) (And.intro ?_ (fun _ _ h₀ => h₀.elim))))
        rintro _ N' ⟨rfl, g1, g2, g3₀⟩
        have w₀ := nex N' ⟨mm_f_tr f₀ g1, fun i₀ hi => by rw [g2, show ((i₀.toNat : Nat) : Int) = i₀ by omega, a₀ _ (sw₀ i₀ hi).1, (sw₀ i₀ hi).2], fun i₀ j₀ hi hj => by rw [g3₀ i₀ j₀ hi (by omega), b₀ _ j₀ (sw₀ i₀ hi).1 hj, (sw₀ i₀ hi).2]⟩
        clear nex a₀ b₀ g2 g3₀ sw₀
        (repeat' (((conv => whnf); first | assumption | refine And.intro (by first | assumption | omega | (simp only [true_and]; first | done | assumption | omega)) ?_ | (refine And.intro (fun _ => ?_) (fun _ => ?_) <;> first | (exfalso; omega) | skip) | intro _ | fail)))
        all_goals ((conv => whnf); first | exact w₀ | (rw [e9₀]; exact w₀))
      · rw [show mh_mv x₀ x₀ i₀ = i₀ by unfold mh_mv; (repeat' split) <;> omega]
        exact mm_f_gi f3₀ (m₀ + 5) _ (by omega)
      · rw [show mh_mv x₀ x₀ i₀ = i₀ by unfold mh_mv; (repeat' split) <;> omega]
        exact mm_f_gi f3₀ (m₀ + 1) _ (by omega)
    · have q1₀ : x₀ < y₀ := by omega
      exact FE P N x₀ (by omega) kk f5₀ ((v5.resolve_left q₀).2) ((v1₀.resolve_left q₀).2)
  have F1₀ : ∀ P, mm_kk M P m₀ → K 122 [(0, Sum.inr (Sum.inl m₀)), (1, Sum.inl x₀), (2, Sum.inl y₀), (3, Sum.inl (min x₀ y₀)), (4, Sum.inl (max x₀ y₀)), (5, Sum.inl x₀)] [] P 0 := by
    intro P kk
    have f3₀ := kk.1
    have stP := mm_f_st f3₀ st₀
    by_cases q₀ : x₀ < y₀
    · refine mh_for (P := fun k₀ N => mm_f (fun b₀ _ => b₀ = m₀ + 1 ∨ b₀ = m₀ + 5) P N ∧ (∀ i₀, 0 ≤ i₀ → gi N (m₀ + 5) i₀.toNat = gi M (m₀ + 5) (mh_mv x₀ k₀ i₀).toNat) ∧ ∀ i₀ j₀, 0 ≤ i₀ → 0 ≤ j₀ ∧ j₀ < gi M m₀ 2 → mi N (m₀ + 1) i₀ j₀ = mi M (m₀ + 1) (mh_mv x₀ k₀ i₀) j₀) (G := fun k₀ N => K 122 [(0, Sum.inr (Sum.inl m₀)), (1, Sum.inl x₀), (2, Sum.inl y₀), (3, Sum.inl (min x₀ y₀)), (4, Sum.inl (max x₀ y₀)), (5, Sum.inl k₀)] [] N 0) (hi := y₀) (by omega) ?_ ?_ P ⟨mm_f_rfl, fun i₀ h0 => ?_, fun i₀ j₀ h0 hj => ?_⟩
      · rintro N ⟨f₀, a₀, b₀⟩
        have w₀ := F2 P N kk f₀ (Or.inr ⟨q₀, a₀⟩) (Or.inr ⟨q₀, b₀⟩) (fun z₀ => by omega)
        clear a₀ b₀ F2 FE
        refine hK₀ _ _ _ _ _ ?_
        (repeat' (((conv => whnf); first | assumption | refine And.intro (by first | assumption | omega | (simp only [true_and]; first | done | assumption | omega)) ?_ | (refine And.intro (fun _ => ?_) (fun _ => ?_) <;> first | (exfalso; omega) | skip) | intro _ | fail)))
      · rintro k₀ N k0₀ k1₀ ⟨f₀, a₀, b₀⟩ nex
        have stN₀ := mm_f_st f₀ stP
        have k7N := stN₀.1
        have u1₀ := (mm_f_gi f₀ m₀ 1 (by omega)).trans (mm_f_gi f3₀ m₀ 1 (by omega))
        have u2₀ := (mm_f_gi f₀ m₀ 2 (by omega)).trans (mm_f_gi f3₀ m₀ 2 (by omega))
        have rcN₀ := rcP N (mm_f_tr (mm_f_mono f3₀ (fun b₀ k₀ z₀ => by omega)) (mm_f_mono f₀ (fun b₀ k₀ z₀ => by omega))) u1₀ u2₀
        have sw₀ : ∀ i₀, 0 ≤ i₀ → 0 ≤ mh_sw k₀ i₀ ∧ mh_mv x₀ k₀ (mh_sw k₀ i₀) = mh_mv x₀ (k₀ + 1) i₀ := by
          intro i₀ hi
          unfold mh_sw mh_mv
          (repeat' split) <;> omega
        refine hK₀ _ _ _ _ _ ?_
        (repeat' (((conv => whnf); first | assumption | refine And.intro (by first | assumption | omega | (simp only [true_and]; first | done | assumption | omega)) ?_ | (refine And.intro (fun _ => ?_) (fun _ => ?_) <;> first | (exfalso; omega) | skip) | intro _ | fail)))
        (conv => whnf)
        refine Exists.intro _ (Exists.intro _ (And.intro (cX6_exchanges hl stN₀ rcN₀ (by omega)) (And.intro ?_ (fun _ _ h₀ => h₀.elim))))
        rintro _ N' ⟨rfl, g1, g2, g3₀⟩
        have w₀ := nex N' ⟨mm_f_tr f₀ g1, fun i₀ hi => by rw [g2, show ((i₀.toNat : Nat) : Int) = i₀ by omega, a₀ _ (sw₀ i₀ hi).1, (sw₀ i₀ hi).2], fun i₀ j₀ hi hj => by rw [g3₀ i₀ j₀ hi (by omega), b₀ _ j₀ (sw₀ i₀ hi).1 hj, (sw₀ i₀ hi).2]⟩
        clear nex a₀ b₀ g2 g3₀ sw₀
        (repeat' (((conv => whnf); first | assumption | refine And.intro (by first | assumption | omega | (simp only [true_and]; first | done | assumption | omega)) ?_ | (refine And.intro (fun _ => ?_) (fun _ => ?_) <;> first | (exfalso; omega) | skip) | intro _ | fail)))
      · rw [show mh_mv x₀ x₀ i₀ = i₀ by unfold mh_mv; (repeat' split) <;> omega]
        exact mm_f_gi f3₀ (m₀ + 5) _ (by omega)
      · rw [show mh_mv x₀ x₀ i₀ = i₀ by unfold mh_mv; (repeat' split) <;> omega]
        exact mm_f_gi f3₀ (m₀ + 1) _ (by omega)
    · have w₀ := F2 P P kk mm_f_rfl (Or.inl (by omega)) (Or.inl (by omega)) (fun _ => rfl)
      have k7P := stP.1
      clear F2 FE
      refine hK₀ _ _ _ _ _ ?_
      (repeat' (((conv => whnf); first | assumption | refine And.intro (by first | assumption | omega | (simp only [true_and]; first | done | assumption | omega)) ?_ | (refine And.intro (fun _ => ?_) (fun _ => ?_) <;> first | (exfalso; omega) | skip) | intro _ | fail)))
  clear FE F2
  refine hK₀ _ _ _ _ _ ?_
  (repeat' (((conv => whnf); first | assumption | refine And.intro (by first | assumption | omega | (simp only [true_and]; first | done | assumption | omega)) ?_ | (refine And.intro (fun _ => ?_) (fun _ => ?_) <;> first | (exfalso; omega) | skip) | intro _ | fail)))
  all_goals (try ((conv => whnf); (refine Exists.intro _ (Exists.intro _ (And.intro (cX6_in hl) (And.intro ?_ (fun _ _ h₀ => h₀.elim)))); rintro _ _ ⟨rfl, e₀⟩; have e2₀ := e₀.symm; clear e₀; subst e2₀); (repeat' (((conv => whnf); first | assumption | refine And.intro (by first | assumption | omega | (simp only [true_and]; first | done | assumption | omega)) ?_ | (refine And.intro (fun _ => ?_) (fun _ => ?_) <;> first | (exfalso; omega) | skip) | intro _ | fail)))))
  all_goals (try ((conv => whnf); (refine Exists.intro _ (Exists.intro _ (And.intro (cX6_in hl) (And.intro ?_ (fun _ _ h₀ => h₀.elim)))); rintro _ _ ⟨rfl, e₀⟩; have e2₀ := e₀.symm; clear e₀; subst e2₀); (repeat' (((conv => whnf); first | assumption | refine And.intro (by first | assumption | omega | (simp only [true_and]; first | done | assumption | omega)) ?_ | (refine And.intro (fun _ => ?_) (fun _ => ?_) <;> first | (exfalso; omega) | skip) | intro _ | fail)))))
  (conv => whnf)
  refine Exists.intro _ (Exists.intro _ (And.intro (cX6_fails0 hl rfl mm_th0 st₀) (And.intro ?_ (fun _ _ h₀ => h₀.elim))))
  rintro _ P ⟨rfl, tt⟩
  have k7P := (mm_f_st tt.1 st₀).1
  have u3 := mm_f_gi tt.1 m₀ 3 (by omega)
  have td := fun a₀ b₀ (ha₀ : a₀ = min x₀ y₀) (hb₀ : b₀ = max x₀ y₀) => (by rw [ha₀, hb₀]; exact cX6_tied (D := D) hl st₀ rc tt (x₀ := min x₀ y₀) (y₀ := max x₀ y₀) (by omega) : mg_Mt D l 150 [.inr (.inl m₀), .inl a₀, .inl b₀] P (fun v₀ N => v₀ = some (.inl (mh_pr (mm_td M m₀ (min x₀ y₀) (max x₀ y₀)))) ∧ N = P) mg_no)
  have h4 : mh_pr (mm_td M m₀ (min x₀ y₀) (max x₀ y₀)) = 0 := mh_pr0 (fun z₀ => h3 (Or.inl z₀))
  have h5 : ¬ (min x₀ y₀ < gi M m₀ 3 ∧ gi M m₀ 3 ≤ max x₀ y₀) := fun z₀ => h3 (Or.inr z₀)
  clear h3
  generalize mh_pr (mm_td M m₀ (min x₀ y₀) (max x₀ y₀)) = tdv at *
  have F1' := fun P a₀ b₀ (ha₀ : a₀ = min x₀ y₀) (hb₀ : b₀ = max x₀ y₀) kk => (by rw [ha₀, hb₀]; exact F1₀ P kk : K 122 [(0, Sum.inr (Sum.inl m₀)), (1, Sum.inl x₀), (2, Sum.inl y₀), (3, Sum.inl a₀), (4, Sum.inl b₀), (5, Sum.inl x₀)] [] P 0)
  clear F1₀
  (repeat' (((conv => whnf); first | assumption | refine And.intro (by first | assumption | omega | (simp only [true_and]; first | done | assumption | omega)) ?_ | (refine And.intro (fun _ => ?_) (fun _ => ?_) <;> first | (exfalso; omega) | skip) | intro _ | fail)))
  all_goals (try ((conv => whnf); (refine Exists.intro _ (Exists.intro _ (And.intro (td _ _ (by omega) (by omega)) (And.intro ?_ (fun _ _ h₀ => h₀.elim)))); rintro _ _ ⟨rfl, e₀⟩; have e2₀ := e₀.symm; clear e₀; subst e2₀); (repeat' (((conv => whnf); first | assumption | refine And.intro (by first | assumption | omega | (simp only [true_and]; first | done | assumption | omega)) ?_ | (refine And.intro (fun _ => ?_) (fun _ => ?_) <;> first | (exfalso; omega) | skip) | intro _ | fail)))))
  all_goals (
    (conv => whnf)
    refine Exists.intro _ (Exists.intro _ (And.intro (cX6_fails0 hl (by omega) tt st₀) (And.intro ?_ (fun _ _ h₀ => h₀.elim))))
    rintro _ P1₀ ⟨rfl, t1₀⟩
    have k71 := (mm_f_st t1₀.1 st₀).1
    (repeat' (((conv => whnf); first | assumption | refine And.intro (by first | assumption | omega | (simp only [true_and]; first | done | assumption | omega)) ?_ | (refine And.intro (fun _ => ?_) (fun _ => ?_) <;> first | (exfalso; omega) | skip) | intro _ | fail)))
    all_goals (
      (conv => whnf)
      refine Exists.intro _ (Exists.intro _ (And.intro (cX6_keepsT hl t1₀ st₀) (And.intro ?_ (fun _ _ h₀ => h₀.elim))))
      rintro _ P2₀ ⟨rfl, kk⟩
      have w₀ := F1' P2₀
      (repeat' (((conv => whnf); first | assumption | refine And.intro (by first | assumption | omega | (simp only [true_and]; first | done | assumption | omega)) ?_ | (refine And.intro (fun _ => ?_) (fun _ => ?_) <;> first | (exfalso; omega) | skip) | intro _ | fail)))
      all_goals ((conv => whnf); exact w₀ _ _ (by omega) (by omega) kk)))
