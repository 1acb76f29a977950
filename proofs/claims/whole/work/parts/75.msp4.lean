set_option maxRecDepth 100000 in
theorem cX6_split1 {D : mg_D} {l : Launch} (hl : l.stackTraces = false) {M : mg_M} {m₀ : Nat} {r₀ c₀ k₀ : Int} (st₀ : mm_st M m₀) (rc : mm_rc M m₀) (h₀ : ¬ mh_rg (gi M m₀ 1) (gi M m₀ 2) r₀ c₀) : mg_Mt D l 175 [.inr (.inl m₀), .inl r₀, .inl c₀, .inl k₀] M (fun v₀ N => v₀ = some (.inl 0) ∧ N = si M m₀ 0 1) mg_no := by
  refine mg_of2 hl ok_X6_split al_X6_split rfl (fun K hK₀ => ?_)
  have k7₀ := st₀.1
  refine hK₀ _ _ _ _ _ ?_
  (repeat' (((conv => whnf); first | (show (_ : Option mg_V) = _ ∧ _; assumption) | (show K _ _ _ _ _; assumption) | (show mm_th _ _ _ _; assumption) | refine And.intro (by first | assumption | omega | (simp only [true_and]; first | done | assumption | omega)) ?_ | (refine And.intro (fun _ => ?_) (fun _ => ?_) <;> first | (exfalso; omega) | skip) | intro _ | fail)))
  all_goals (try ((conv => whnf); (refine Exists.intro _ (Exists.intro _ (And.intro (cX6_isSquare hl k7₀ rc) (And.intro ?_ (fun _ _ h₀ => h₀.elim)))); rintro _ _ ⟨rfl, e₀⟩; have e2₀ := e₀.symm; clear e₀; subst e2₀); (repeat' (((conv => whnf); first | (show (_ : Option mg_V) = _ ∧ _; assumption) | (show K _ _ _ _ _; assumption) | (show mm_th _ _ _ _; assumption) | refine And.intro (by first | assumption | omega | (simp only [true_and]; first | done | assumption | omega)) ?_ | (refine And.intro (fun _ => ?_) (fun _ => ?_) <;> first | (exfalso; omega) | skip) | intro _ | fail)))))
  all_goals (try ((conv => whnf); (refine Exists.intro _ (Exists.intro _ (And.intro (cX6_fails hl k7₀) (And.intro ?_ (fun _ _ h₀ => h₀.elim)))); rintro _ _ ⟨rfl, e₀⟩; have e2₀ := e₀.symm; clear e₀; subst e2₀); (repeat' (((conv => whnf); first | (show (_ : Option mg_V) = _ ∧ _; assumption) | (show K _ _ _ _ _; assumption) | (show mm_th _ _ _ _; assumption) | refine And.intro (by first | assumption | omega | (simp only [true_and]; first | done | assumption | omega)) ?_ | (refine And.intro (fun _ => ?_) (fun _ => ?_) <;> first | (exfalso; omega) | skip) | intro _ | fail)))))
  all_goals ((conv => whnf) <;> first | rfl | exact And.intro rfl rfl)
set_option maxRecDepth 100000 in
theorem cX6_split2 {D : mg_D} {l : Launch} (hl : l.stackTraces = false) {M : mg_M} {m₀ : Nat} {r₀ c₀ k₀ : Int} (st₀ : mm_st M m₀) (rc : mm_rc M m₀) (h₀ : mh_rg (gi M m₀ 1) (gi M m₀ 2) r₀ c₀) (h2 : k₀ ≠ 115 ∧ k₀ ≠ 114 ∧ k₀ ≠ 99) : mg_Mt D l 175 [.inr (.inl m₀), .inl r₀, .inl c₀, .inl k₀] M (fun v₀ N => v₀ = some (.inl 0) ∧ N = si M m₀ 0 2) mg_no := by
  refine mg_of2 hl ok_X6_split al_X6_split rfl (fun K hK₀ => ?_)
  have k7₀ := st₀.1
  refine hK₀ _ _ _ _ _ ?_
  (repeat' (((conv => whnf); first | (show (_ : Option mg_V) = _ ∧ _; assumption) | (show K _ _ _ _ _; assumption) | (show mm_th _ _ _ _; assumption) | refine And.intro (by first | assumption | omega | (simp only [true_and]; first | done | assumption | omega)) ?_ | (refine And.intro (fun _ => ?_) (fun _ => ?_) <;> first | (exfalso; omega) | skip) | intro _ | fail)))
  all_goals (try ((conv => whnf); (refine Exists.intro _ (Exists.intro _ (And.intro (cX6_isSquare hl k7₀ rc) (And.intro ?_ (fun _ _ h₀ => h₀.elim)))); rintro _ _ ⟨rfl, e₀⟩; have e2₀ := e₀.symm; clear e₀; subst e2₀); (repeat' (((conv => whnf); first | (show (_ : Option mg_V) = _ ∧ _; assumption) | (show K _ _ _ _ _; assumption) | (show mm_th _ _ _ _; assumption) | refine And.intro (by first | assumption | omega | (simp only [true_and]; first | done | assumption | omega)) ?_ | (refine And.intro (fun _ => ?_) (fun _ => ?_) <;> first | (exfalso; omega) | skip) | intro _ | fail)))))
  all_goals (try ((conv => whnf); (refine Exists.intro _ (Exists.intro _ (And.intro (cX6_fails hl k7₀) (And.intro ?_ (fun _ _ h₀ => h₀.elim)))); rintro _ _ ⟨rfl, e₀⟩; have e2₀ := e₀.symm; clear e₀; subst e2₀); (repeat' (((conv => whnf); first | (show (_ : Option mg_V) = _ ∧ _; assumption) | (show K _ _ _ _ _; assumption) | (show mm_th _ _ _ _; assumption) | refine And.intro (by first | assumption | omega | (simp only [true_and]; first | done | assumption | omega)) ?_ | (refine And.intro (fun _ => ?_) (fun _ => ?_) <;> first | (exfalso; omega) | skip) | intro _ | fail)))))
  all_goals ((conv => whnf) <;> first | rfl | exact And.intro rfl rfl)
abbrev mh_dn (k₀ H₀ : Int) : Int := if k₀ = 99 then 1 else H₀
abbrev mh_ax (k₀ W₀ : Int) : Int := if k₀ = 114 then 1 else W₀
set_option maxRecDepth 100000 in
theorem cX6_split3 {D : mg_D} {l : Launch} (hl : l.stackTraces = false) {M : mg_M} {m₀ : Nat} {r₀ c₀ k₀ T0₀ L0₀ H0 W0₀ : Int} (st₀ : mm_st M m₀) (rc : mm_rc M m₀) (h₀ : mh_rg (gi M m₀ 1) (gi M m₀ 2) r₀ c₀) (h2 : k₀ = 115 ∨ k₀ = 114 ∨ k₀ = 99) (hr : mm_rect M m₀ (mi M (m₀ + 1) r₀ c₀) T0₀ L0₀ H0 W0₀) (h3 : mh_dn k₀ H0 * mh_ax k₀ W0₀ = 1) : mg_Mt D l 175 [.inr (.inl m₀), .inl r₀, .inl c₀, .inl k₀] M (fun v₀ N => v₀ = some (.inl 0) ∧ mm_th M N m₀ 3) mg_no := by
  refine mg_of2 hl ok_X6_split al_X6_split rfl (fun K hK₀ => ?_)
  have k7₀ := st₀.1
  have rc' := rc
  unfold mm_rc at rc'
  have b1 := hr.1
  have b2 := hr.2.1
  have hm₀ := @mh_mulb H0 W0₀ (by omega) (by omega)
  have h3s : k₀ = 115 → H0 * W0₀ = 1 := fun e₀ => by subst e₀; simpa [mh_dn, mh_ax] using h3
  have h3r : k₀ = 114 → H0 = 1 := fun e₀ => by subst e₀; simpa [mh_dn, mh_ax] using h3
  have h3c : k₀ = 99 → W0₀ = 1 := fun e₀ => by subst e₀; simpa [mh_dn, mh_ax] using h3
  clear h3
  refine hK₀ _ _ _ _ _ ?_
  (repeat' (((conv => whnf); first | (show (_ : Option mg_V) = _ ∧ _; assumption) | (show K _ _ _ _ _; assumption) | (show mm_th _ _ _ _; assumption) | refine And.intro (by first | assumption | omega | (simp only [true_and]; first | done | assumption | omega)) ?_ | (refine And.intro (fun _ => ?_) (fun _ => ?_) <;> first | (exfalso; omega) | skip) | intro _ | fail)))
  all_goals (try ((conv => whnf); (refine Exists.intro _ (Exists.intro _ (And.intro (cX6_isSquare hl k7₀ rc) (And.intro ?_ (fun _ _ h₀ => h₀.elim)))); rintro _ _ ⟨rfl, e₀⟩; have e2₀ := e₀.symm; clear e₀; subst e2₀); (repeat' (((conv => whnf); first | (show (_ : Option mg_V) = _ ∧ _; assumption) | (show K _ _ _ _ _; assumption) | (show mm_th _ _ _ _; assumption) | refine And.intro (by first | assumption | omega | (simp only [true_and]; first | done | assumption | omega)) ?_ | (refine And.intro (fun _ => ?_) (fun _ => ?_) <;> first | (exfalso; omega) | skip) | intro _ | fail)))))
  all_goals (
    (conv => whnf)
    refine Exists.intro _ (Exists.intro _ (And.intro (cX6_fails0 hl rfl mm_th0 st₀) (And.intro ?_ (fun _ _ h₀ => h₀.elim))))
    rintro _ P ⟨rfl, tt⟩
    have f₀ := tt.1
    have stP := mm_f_st f₀ st₀
    have k7P := stP.1
    have u1₀ := mm_f_gi f₀ m₀ 1 (by omega)
    have u2₀ := mm_f_gi f₀ m₀ 2 (by omega)
    have rcP := mm_rc_f f₀ (by omega) (by omega) rc
    have eid : mi P (m₀ + 1) r₀ c₀ = mi M (m₀ + 1) r₀ c₀ := mm_f_gi f₀ (m₀ + 1) _ (by omega)
    have rP : mm_rect P m₀ (mi P (m₀ + 1) r₀ c₀) T0₀ L0₀ H0 W0₀ := by rw [eid]; exact mm_rect_f u1₀ u2₀ (fun j₀ => mm_f_gi f₀ (m₀ + 1) j₀ (by omega)) hr
    clear hr
    (repeat' (((conv => whnf); first | (show (_ : Option mg_V) = _ ∧ _; assumption) | (show K _ _ _ _ _; assumption) | (show mm_th _ _ _ _; assumption) | refine And.intro (by first | assumption | omega | (simp only [true_and]; first | done | assumption | omega)) ?_ | (refine And.intro (fun _ => ?_) (fun _ => ?_) <;> first | (exfalso; omega) | skip) | intro _ | fail)))
    all_goals (try ((conv => whnf); (refine Exists.intro _ (Exists.intro _ (And.intro (cX6_id hl stP (by omega) (by omega)) (And.intro ?_ (fun _ _ h₀ => h₀.elim)))); rintro _ _ ⟨rfl, e₀⟩; have e2₀ := e₀.symm; clear e₀; subst e2₀); (repeat' (((conv => whnf); first | (show (_ : Option mg_V) = _ ∧ _; assumption) | (show K _ _ _ _ _; assumption) | (show mm_th _ _ _ _; assumption) | refine And.intro (by first | assumption | omega | (simp only [true_and]; first | done | assumption | omega)) ?_ | (refine And.intro (fun _ => ?_) (fun _ => ?_) <;> first | (exfalso; omega) | skip) | intro _ | fail)))))
    all_goals (try ((conv => whnf); (refine Exists.intro _ (Exists.intro _ (And.intro (cX6_rowMany hl stP rcP rP) (And.intro ?_ (fun _ _ h₀ => h₀.elim)))); rintro _ _ ⟨rfl, e₀⟩; have e2₀ := e₀.symm; clear e₀; subst e2₀); (repeat' (((conv => whnf); first | (show (_ : Option mg_V) = _ ∧ _; assumption) | (show K _ _ _ _ _; assumption) | (show mm_th _ _ _ _; assumption) | refine And.intro (by first | assumption | omega | (simp only [true_and]; first | done | assumption | omega)) ?_ | (refine And.intro (fun _ => ?_) (fun _ => ?_) <;> first | (exfalso; omega) | skip) | intro _ | fail)))))
    all_goals (try ((conv => whnf); (refine Exists.intro _ (Exists.intro _ (And.intro (cX6_colMany hl stP rcP rP) (And.intro ?_ (fun _ _ h₀ => h₀.elim)))); rintro _ _ ⟨rfl, e₀⟩; have e2₀ := e₀.symm; clear e₀; subst e2₀); (repeat' (((conv => whnf); first | (show (_ : Option mg_V) = _ ∧ _; assumption) | (show K _ _ _ _ _; assumption) | (show mm_th _ _ _ _; assumption) | refine And.intro (by first | assumption | omega | (simp only [true_and]; first | done | assumption | omega)) ?_ | (refine And.intro (fun _ => ?_) (fun _ => ?_) <;> first | (exfalso; omega) | skip) | intro _ | fail)))))
    all_goals ((conv => whnf); refine Exists.intro _ (Exists.intro _ (And.intro (cX6_failsX hl (by omega) tt st₀) (And.intro ?_ (fun _ _ h₀ => h₀.elim)))))
    all_goals (rintro _ Q₀ ⟨rfl, t2₀⟩; (repeat' (((conv => whnf); first | (show (_ : Option mg_V) = _ ∧ _; assumption) | (show K _ _ _ _ _; assumption) | (show mm_th _ _ _ _; assumption) | refine And.intro (by first | assumption | omega | (simp only [true_and]; first | done | assumption | omega)) ?_ | (refine And.intro (fun _ => ?_) (fun _ => ?_) <;> first | (exfalso; omega) | skip) | intro _ | fail)))))
set_option maxRecDepth 100000 in
theorem cX6_split0 {D : mg_D} {l : Launch} (hl : l.stackTraces = false) {M : mg_M} {m₀ : Nat} {r₀ c₀ k₀ T0₀ L0₀ H0 W0₀ : Int} {T L₀ H₀ W₀ T' L' H' W' : Int → Int → Int} (st₀ : mm_st M m₀) (rc : mm_rc M m₀) (h₀ : mh_rg (gi M m₀ 1) (gi M m₀ 2) r₀ c₀) (h2 : k₀ = 115 ∨ k₀ = 114 ∨ k₀ = 99) (hR : mm_rts M m₀ T L₀ H₀ W₀) (hT₀ : ∀ r₀ c₀, mh_rg (gi M m₀ 1) (gi M m₀ 2) r₀ c₀ → T (T r₀ c₀) (L₀ r₀ c₀) = T r₀ c₀ ∧ L₀ (T r₀ c₀) (L₀ r₀ c₀) = L₀ r₀ c₀) (hid₀ : ∀ r₀ c₀, mh_rg (gi M m₀ 1) (gi M m₀ 2) r₀ c₀ → 0 ≤ mi M (m₀ + 1) r₀ c₀ ∧ mi M (m₀ + 1) r₀ c₀ < 120) (e0₀ : T r₀ c₀ = T0₀ ∧ L₀ r₀ c₀ = L0₀ ∧ H₀ r₀ c₀ = H0 ∧ W₀ r₀ c₀ = W0₀) (h3 : mh_dn k₀ H0 * mh_ax k₀ W0₀ ≠ 1) (t₀ : mh_til (gi M m₀ 1) (gi M m₀ 2) (mi_sp M m₀ T L₀ (mi M (m₀ + 1) r₀ c₀) k₀ T0₀ L0₀) T' L' H' W') : mg_Mt D l 175 [.inr (.inl m₀), .inl r₀, .inl c₀, .inl k₀] M (fun v₀ N => v₀ = some (.inl (mh_dn k₀ H0 * mh_ax k₀ W0₀)) ∧ mm_nw M N m₀ (gi M m₀ 1) (gi M m₀ 2) (gi M m₀ 3) (mi_sp M m₀ T L₀ (mi M (m₀ + 1) r₀ c₀) k₀ T0₀ L0₀) (mi_sc M m₀ (mi M (m₀ + 1) r₀ c₀) (10 * T0₀ + L0₀)) (mi_ss M m₀) (fun k₀ => gi M (m₀ + 4) k₀.toNat) (fun k₀ => gi M (m₀ + 5) k₀.toNat) ∧ mm_se N m₀ (gi M m₀ 1) (gi M m₀ 2) T' L' H' W') mg_no := by
  refine mg_of2 hl ok_X6_split al_X6_split rfl (fun K hK₀ => ?_)
  have k7₀ := st₀.1
  have rc' := rc
  unfold mm_rc at rc'
  have hr := hR r₀ c₀ h₀
  obtain ⟨rfl, rfl, rfl, rfl⟩ := e0₀
  have b1 := hr.1
  have b2 := hr.2.1
  have hm₀ := @mh_mulb (H₀ r₀ c₀) (W₀ r₀ c₀) (by omega) (by omega)
  have E₀ : ∀ a₀ b₀, a₀ = mh_dn k₀ (H₀ r₀ c₀) → b₀ = mh_ax k₀ (W₀ r₀ c₀) → a₀ * b₀ = mh_dn k₀ (H₀ r₀ c₀) * mh_ax k₀ (W₀ r₀ c₀) := fun a₀ b₀ ha₀ hb₀ => by rw [ha₀, hb₀]
  have hi := hid₀ r₀ c₀ h₀
  have PT₀ := fun P0₀ kk => cX6_parts (D := D) (k₀ := k₀) hl st₀ rc (P0₀ := P0₀) kk (by omega) hR hT₀ hi hr hid₀
  generalize T r₀ c₀ = T0₀ at *
  generalize L₀ r₀ c₀ = L0₀ at *
  generalize H₀ r₀ c₀ = H0 at *
  generalize W₀ r₀ c₀ = W0₀ at *
  generalize hv : mh_dn k₀ H0 * mh_ax k₀ W0₀ = V at *
  have h3s : k₀ = 115 → H0 * W0₀ = V := fun e₀ => by subst e₀; simpa [mh_dn, mh_ax] using hv
  have h3r : k₀ = 114 → H0 = V := fun e₀ => by subst e₀; simpa [mh_dn, mh_ax] using hv
  have h3c : k₀ = 99 → W0₀ = V := fun e₀ => by subst e₀; simpa [mh_dn, mh_ax] using hv
  clear hv E₀ hR hT₀ hid₀
  refine hK₀ _ _ _ _ _ ?_
  (repeat' (((conv => whnf); first | (show (_ : Option mg_V) = _ ∧ _; assumption) | (show K _ _ _ _ _; assumption) | (show mm_th _ _ _ _; assumption) | refine And.intro (by first | assumption | omega | (simp only [true_and]; first | done | assumption | omega)) ?_ | (refine And.intro (fun _ => ?_) (fun _ => ?_) <;> first | (exfalso; omega) | skip) | intro _ | fail)))
  all_goals (try ((conv => whnf); (refine Exists.intro _ (Exists.intro _ (And.intro (cX6_isSquare hl k7₀ rc) (And.intro ?_ (fun _ _ h₀ => h₀.elim)))); rintro _ _ ⟨rfl, e₀⟩; have e2₀ := e₀.symm; clear e₀; subst e2₀); (repeat' (((conv => whnf); first | (show (_ : Option mg_V) = _ ∧ _; assumption) | (show K _ _ _ _ _; assumption) | (show mm_th _ _ _ _; assumption) | refine And.intro (by first | assumption | omega | (simp only [true_and]; first | done | assumption | omega)) ?_ | (refine And.intro (fun _ => ?_) (fun _ => ?_) <;> first | (exfalso; omega) | skip) | intro _ | fail)))))
  all_goals (
    (conv => whnf)
    refine Exists.intro _ (Exists.intro _ (And.intro (cX6_fails0 hl rfl mm_th0 st₀) (And.intro ?_ (fun _ _ h₀ => h₀.elim))))
    rintro _ P ⟨rfl, tt⟩
    have f₀ := tt.1
    have stP := mm_f_st f₀ st₀
    have k7P := stP.1
    have u1₀ := mm_f_gi f₀ m₀ 1 (by omega)
    have u2₀ := mm_f_gi f₀ m₀ 2 (by omega)
    have rcP := mm_rc_f f₀ (by omega) (by omega) rc
    have eid : mi P (m₀ + 1) r₀ c₀ = mi M (m₀ + 1) r₀ c₀ := mm_f_gi f₀ (m₀ + 1) _ (by omega)
    have rP : mm_rect P m₀ (mi P (m₀ + 1) r₀ c₀) T0₀ L0₀ H0 W0₀ := by rw [eid]; exact mm_rect_f u1₀ u2₀ (fun j₀ => mm_f_gi f₀ (m₀ + 1) j₀ (by omega)) hr
    clear hr
    (repeat' (((conv => whnf); first | (show (_ : Option mg_V) = _ ∧ _; assumption) | (show K _ _ _ _ _; assumption) | (show mm_th _ _ _ _; assumption) | refine And.intro (by first | assumption | omega | (simp only [true_and]; first | done | assumption | omega)) ?_ | (refine And.intro (fun _ => ?_) (fun _ => ?_) <;> first | (exfalso; omega) | skip) | intro _ | fail)))
    all_goals (try ((conv => whnf); (refine Exists.intro _ (Exists.intro _ (And.intro (cX6_id hl stP (by omega) (by omega)) (And.intro ?_ (fun _ _ h₀ => h₀.elim)))); rintro _ _ ⟨rfl, e₀⟩; have e2₀ := e₀.symm; clear e₀; subst e2₀); (repeat' (((conv => whnf); first | (show (_ : Option mg_V) = _ ∧ _; assumption) | (show K _ _ _ _ _; assumption) | (show mm_th _ _ _ _; assumption) | refine And.intro (by first | assumption | omega | (simp only [true_and]; first | done | assumption | omega)) ?_ | (refine And.intro (fun _ => ?_) (fun _ => ?_) <;> first | (exfalso; omega) | skip) | intro _ | fail)))))
    all_goals (try ((conv => whnf); (refine Exists.intro _ (Exists.intro _ (And.intro (cX6_rowMany hl stP rcP rP) (And.intro ?_ (fun _ _ h₀ => h₀.elim)))); rintro _ _ ⟨rfl, e₀⟩; have e2₀ := e₀.symm; clear e₀; subst e2₀); (repeat' (((conv => whnf); first | (show (_ : Option mg_V) = _ ∧ _; assumption) | (show K _ _ _ _ _; assumption) | (show mm_th _ _ _ _; assumption) | refine And.intro (by first | assumption | omega | (simp only [true_and]; first | done | assumption | omega)) ?_ | (refine And.intro (fun _ => ?_) (fun _ => ?_) <;> first | (exfalso; omega) | skip) | intro _ | fail)))))
    all_goals (try ((conv => whnf); (refine Exists.intro _ (Exists.intro _ (And.intro (cX6_colMany hl stP rcP rP) (And.intro ?_ (fun _ _ h₀ => h₀.elim)))); rintro _ _ ⟨rfl, e₀⟩; have e2₀ := e₀.symm; clear e₀; subst e2₀); (repeat' (((conv => whnf); first | (show (_ : Option mg_V) = _ ∧ _; assumption) | (show K _ _ _ _ _; assumption) | (show mm_th _ _ _ _; assumption) | refine And.intro (by first | assumption | omega | (simp only [true_and]; first | done | assumption | omega)) ?_ | (refine And.intro (fun _ => ?_) (fun _ => ?_) <;> first | (exfalso; omega) | skip) | intro _ | fail)))))
    all_goals (
      (conv => whnf)
      refine Exists.intro _ (Exists.intro _ (And.intro (cX6_fails0 hl (by omega) tt st₀) (And.intro ?_ (fun _ _ h₀ => h₀.elim))))
      rintro _ P1₀ ⟨rfl, t1₀⟩
      have k71 := (mm_f_st t1₀.1 st₀).1
      (repeat' (((conv => whnf); first | (show (_ : Option mg_V) = _ ∧ _; assumption) | (show K _ _ _ _ _; assumption) | (show mm_th _ _ _ _; assumption) | refine And.intro (by first | assumption | omega | (simp only [true_and]; first | done | assumption | omega)) ?_ | (refine And.intro (fun _ => ?_) (fun _ => ?_) <;> first | (exfalso; omega) | skip) | intro _ | fail)))
      all_goals (
        (conv => whnf)
        refine Exists.intro _ (Exists.intro _ (And.intro (cX6_keepsT hl t1₀ st₀) (And.intro ?_ (fun _ _ h₀ => h₀.elim))))
        rintro _ P2₀ ⟨rfl, kk⟩
        have k72 : kd P2₀ m₀ = 7 := (kk.1.1 m₀).trans st₀.1
        have pt := PT₀ P2₀ kk
        (repeat' (((conv => whnf); first | (show (_ : Option mg_V) = _ ∧ _; assumption) | (show K _ _ _ _ _; assumption) | (show mm_th _ _ _ _; assumption) | refine And.intro (by first | assumption | omega | (simp only [true_and]; first | done | assumption | omega)) ?_ | (refine And.intro (fun _ => ?_) (fun _ => ?_) <;> first | (exfalso; omega) | skip) | intro _ | fail)))
        all_goals (
          (conv => whnf)
          rw [eid]
          refine Exists.intro _ (Exists.intro _ (And.intro (pt) (And.intro ?_ (fun _ _ h₀ => h₀.elim))))
          rintro _ N2 ⟨rfl, nw⟩
          have k73 : kd N2 m₀ = 7 := (nw.1.1 m₀).trans st₀.1
          clear pt PT₀
          (repeat' (((conv => whnf); first | (show (_ : Option mg_V) = _ ∧ _; assumption) | (show K _ _ _ _ _; assumption) | (show mm_th _ _ _ _; assumption) | refine And.intro (by first | assumption | omega | (simp only [true_and]; first | done | assumption | omega)) ?_ | (refine And.intro (fun _ => ?_) (fun _ => ?_) <;> first | (exfalso; omega) | skip) | intro _ | fail)))
          all_goals (
            (conv => whnf)
            refine Exists.intro _ (Exists.intro _ (And.intro (cX6_starts hl st₀ (by omega) nw t₀) (And.intro ?_ (fun _ _ h₀ => h₀.elim))))
            rintro _ N3 ⟨rfl, Q1₀, Q2₀⟩
            have Q₀ := And.intro (Eq.refl (some (Sum.inl V : mg_V))) (And.intro Q1₀ Q2₀)
            (repeat' (((conv => whnf); first | (show (_ : Option mg_V) = _ ∧ _; assumption) | (show K _ _ _ _ _; assumption) | (show mm_th _ _ _ _; assumption) | refine And.intro (by first | assumption | omega | (simp only [true_and]; first | done | assumption | omega)) ?_ | (refine And.intro (fun _ => ?_) (fun _ => ?_) <;> first | (exfalso; omega) | skip) | intro _ | fail)))
            all_goals ((conv => whnf); refine And.intro ?_ (And.intro Q1₀ Q2₀); congr 2; omega))))))
