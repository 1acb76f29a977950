set_option maxRecDepth 100000 in
theorem cX6_paste1 {D : mg_D} {l : Launch} (hl : l.stackTraces = false) {M : mg_M} {m₀ : Nat} {r₀ c₀ x₀ y₀ : Int} (st₀ : mm_st M m₀) (rc : mm_rc M m₀) (h₀ : ¬ mh_rg (gi M m₀ 1) (gi M m₀ 2) r₀ c₀) : mg_Mt D l 184 [.inr (.inl m₀), .inl r₀, .inl c₀, .inl x₀, .inl y₀] M (fun v₀ N => v₀ = some (.inl 0) ∧ N = si M m₀ 0 1) mg_no := by
  refine mg_of2 hl ok_X6_paste al_X6_paste rfl (fun K hK₀ => ?_)
  have k7₀ := st₀.1
  refine hK₀ _ _ _ _ _ ?_
  (repeat' (((conv => whnf); first | (show (_ : Option mg_V) = _ ∧ _; assumption) | (show K _ _ _ _ _; assumption) | (show mm_th _ _ _ _; assumption) | refine And.intro (by first | assumption | omega | (simp only [true_and]; first | done | assumption | omega)) ?_ | (refine And.intro (fun _ => ?_) (fun _ => ?_) <;> first | (exfalso; omega) | skip) | intro _ | fail)))
  all_goals (try ((conv => whnf); (refine Exists.intro _ (Exists.intro _ (And.intro (cX6_isSquare hl k7₀ rc) (And.intro ?_ (fun _ _ h₀ => h₀.elim)))); rintro _ _ ⟨rfl, e₀⟩; have e2₀ := e₀.symm; clear e₀; subst e2₀); (repeat' (((conv => whnf); first | (show (_ : Option mg_V) = _ ∧ _; assumption) | (show K _ _ _ _ _; assumption) | (show mm_th _ _ _ _; assumption) | refine And.intro (by first | assumption | omega | (simp only [true_and]; first | done | assumption | omega)) ?_ | (refine And.intro (fun _ => ?_) (fun _ => ?_) <;> first | (exfalso; omega) | skip) | intro _ | fail)))))
  all_goals (try ((conv => whnf); (refine Exists.intro _ (Exists.intro _ (And.intro (cX6_fails hl k7₀) (And.intro ?_ (fun _ _ h₀ => h₀.elim)))); rintro _ _ ⟨rfl, e₀⟩; have e2₀ := e₀.symm; clear e₀; subst e2₀); (repeat' (((conv => whnf); first | (show (_ : Option mg_V) = _ ∧ _; assumption) | (show K _ _ _ _ _; assumption) | (show mm_th _ _ _ _; assumption) | refine And.intro (by first | assumption | omega | (simp only [true_and]; first | done | assumption | omega)) ?_ | (refine And.intro (fun _ => ?_) (fun _ => ?_) <;> first | (exfalso; omega) | skip) | intro _ | fail)))))
  all_goals ((conv => whnf) <;> first | rfl | exact And.intro rfl rfl)
set_option maxRecDepth 100000 in
theorem cX6_paste2 {D : mg_D} {l : Launch} (hl : l.stackTraces = false) {M : mg_M} {m₀ : Nat} {r₀ c₀ x₀ y₀ : Int} (st₀ : mm_st M m₀) (rc : mm_rc M m₀) (h₀ : mh_rg (gi M m₀ 1) (gi M m₀ 2) r₀ c₀) (h2 : ¬ ((1 ≤ x₀ ∧ x₀ ≤ 4) ∧ (1 ≤ y₀ ∧ y₀ ≤ 4))) : mg_Mt D l 184 [.inr (.inl m₀), .inl r₀, .inl c₀, .inl x₀, .inl y₀] M (fun v₀ N => v₀ = some (.inl 0) ∧ N = si M m₀ 0 2) mg_no := by
  refine mg_of2 hl ok_X6_paste al_X6_paste rfl (fun K hK₀ => ?_)
  have k7₀ := st₀.1
  refine hK₀ _ _ _ _ _ ?_
  (repeat' (((conv => whnf); first | (show (_ : Option mg_V) = _ ∧ _; assumption) | (show K _ _ _ _ _; assumption) | (show mm_th _ _ _ _; assumption) | refine And.intro (by first | assumption | omega | (simp only [true_and]; first | done | assumption | omega)) ?_ | (refine And.intro (fun _ => ?_) (fun _ => ?_) <;> first | (exfalso; omega) | skip) | intro _ | fail)))
  all_goals (try ((conv => whnf); (refine Exists.intro _ (Exists.intro _ (And.intro (cX6_isSquare hl k7₀ rc) (And.intro ?_ (fun _ _ h₀ => h₀.elim)))); rintro _ _ ⟨rfl, e₀⟩; have e2₀ := e₀.symm; clear e₀; subst e2₀); (repeat' (((conv => whnf); first | (show (_ : Option mg_V) = _ ∧ _; assumption) | (show K _ _ _ _ _; assumption) | (show mm_th _ _ _ _; assumption) | refine And.intro (by first | assumption | omega | (simp only [true_and]; first | done | assumption | omega)) ?_ | (refine And.intro (fun _ => ?_) (fun _ => ?_) <;> first | (exfalso; omega) | skip) | intro _ | fail)))))
  all_goals (try ((conv => whnf); (refine Exists.intro _ (Exists.intro _ (And.intro (cX6_in hl) (And.intro ?_ (fun _ _ h₀ => h₀.elim)))); rintro _ _ ⟨rfl, e₀⟩; have e2₀ := e₀.symm; clear e₀; subst e2₀); (repeat' (((conv => whnf); first | (show (_ : Option mg_V) = _ ∧ _; assumption) | (show K _ _ _ _ _; assumption) | (show mm_th _ _ _ _; assumption) | refine And.intro (by first | assumption | omega | (simp only [true_and]; first | done | assumption | omega)) ?_ | (refine And.intro (fun _ => ?_) (fun _ => ?_) <;> first | (exfalso; omega) | skip) | intro _ | fail)))))
  all_goals (try ((conv => whnf); (refine Exists.intro _ (Exists.intro _ (And.intro (cX6_in hl) (And.intro ?_ (fun _ _ h₀ => h₀.elim)))); rintro _ _ ⟨rfl, e₀⟩; have e2₀ := e₀.symm; clear e₀; subst e2₀); (repeat' (((conv => whnf); first | (show (_ : Option mg_V) = _ ∧ _; assumption) | (show K _ _ _ _ _; assumption) | (show mm_th _ _ _ _; assumption) | refine And.intro (by first | assumption | omega | (simp only [true_and]; first | done | assumption | omega)) ?_ | (refine And.intro (fun _ => ?_) (fun _ => ?_) <;> first | (exfalso; omega) | skip) | intro _ | fail)))))
  all_goals (try ((conv => whnf); (refine Exists.intro _ (Exists.intro _ (And.intro (cX6_fails hl k7₀) (And.intro ?_ (fun _ _ h₀ => h₀.elim)))); rintro _ _ ⟨rfl, e₀⟩; have e2₀ := e₀.symm; clear e₀; subst e2₀); (repeat' (((conv => whnf); first | (show (_ : Option mg_V) = _ ∧ _; assumption) | (show K _ _ _ _ _; assumption) | (show mm_th _ _ _ _; assumption) | refine And.intro (by first | assumption | omega | (simp only [true_and]; first | done | assumption | omega)) ?_ | (refine And.intro (fun _ => ?_) (fun _ => ?_) <;> first | (exfalso; omega) | skip) | intro _ | fail)))))
  all_goals ((conv => whnf) <;> first | rfl | exact And.intro rfl rfl)
theorem mh_mul4 {x₀ w₀ b₀ : Int} (hx : 1 ≤ x₀ ∧ x₀ ≤ 4) (hw : 0 ≤ w₀ ∧ w₀ ≤ 12) : 0 ≤ x₀ * w₀ ∧ x₀ * w₀ ≤ 48 := by
  refine ⟨Int.mul_nonneg (by omega) hw.1, ?_⟩
  have := Int.mul_le_mul hx.2 hw.2 hw.1 (by omega : (0 : Int) ≤ 4)
  omega
set_option maxRecDepth 100000 in
theorem cX6_paste3 {D : mg_D} {l : Launch} (hl : l.stackTraces = false) {M : mg_M} {m₀ : Nat} {r₀ c₀ x₀ y₀ : Int} (st₀ : mm_st M m₀) (rc : mm_rc M m₀) (h₀ : mh_rg (gi M m₀ 1) (gi M m₀ 2) r₀ c₀) (h2 : (1 ≤ x₀ ∧ x₀ ≤ 4) ∧ (1 ≤ y₀ ∧ y₀ ≤ 4)) (hb₀ : (0 ≤ gi M m₀ 25 ∧ gi M m₀ 25 ≤ 12) ∧ (0 ≤ gi M m₀ 26 ∧ gi M m₀ 26 ≤ 10)) (h3 : gi M m₀ 27 ≤ 0 ∨ gi M m₀ 1 < r₀ + x₀ * gi M m₀ 25 ∨ gi M m₀ 2 < c₀ + y₀ * gi M m₀ 26) : mg_Mt D l 184 [.inr (.inl m₀), .inl r₀, .inl c₀, .inl x₀, .inl y₀] M (fun v₀ N => v₀ = some (.inl 0) ∧ mm_th M N m₀ 3) mg_no := by
  refine mg_of2 hl ok_X6_paste al_X6_paste rfl (fun K hK₀ => ?_)
  have k7₀ := st₀.1
  have rc' := rc
  unfold mm_rc at rc'
  have p1₀ := @mh_mul4 x₀ (gi M m₀ 25) 0 h2.1 (by omega)
  have p2₀ := @mh_mul4 y₀ (gi M m₀ 26) 0 h2.2 (by omega)
  refine hK₀ _ _ _ _ _ ?_
  (repeat' (((conv => whnf); first | (show (_ : Option mg_V) = _ ∧ _; assumption) | (show K _ _ _ _ _; assumption) | (show mm_th _ _ _ _; assumption) | refine And.intro (by first | assumption | omega | (simp only [true_and]; first | done | assumption | omega)) ?_ | (refine And.intro (fun _ => ?_) (fun _ => ?_) <;> first | (exfalso; omega) | skip) | intro _ | fail)))
  all_goals (try ((conv => whnf); (refine Exists.intro _ (Exists.intro _ (And.intro (cX6_isSquare hl k7₀ rc) (And.intro ?_ (fun _ _ h₀ => h₀.elim)))); rintro _ _ ⟨rfl, e₀⟩; have e2₀ := e₀.symm; clear e₀; subst e2₀); (repeat' (((conv => whnf); first | (show (_ : Option mg_V) = _ ∧ _; assumption) | (show K _ _ _ _ _; assumption) | (show mm_th _ _ _ _; assumption) | refine And.intro (by first | assumption | omega | (simp only [true_and]; first | done | assumption | omega)) ?_ | (refine And.intro (fun _ => ?_) (fun _ => ?_) <;> first | (exfalso; omega) | skip) | intro _ | fail)))))
  all_goals (try ((conv => whnf); (refine Exists.intro _ (Exists.intro _ (And.intro (cX6_in hl) (And.intro ?_ (fun _ _ h₀ => h₀.elim)))); rintro _ _ ⟨rfl, e₀⟩; have e2₀ := e₀.symm; clear e₀; subst e2₀); (repeat' (((conv => whnf); first | (show (_ : Option mg_V) = _ ∧ _; assumption) | (show K _ _ _ _ _; assumption) | (show mm_th _ _ _ _; assumption) | refine And.intro (by first | assumption | omega | (simp only [true_and]; first | done | assumption | omega)) ?_ | (refine And.intro (fun _ => ?_) (fun _ => ?_) <;> first | (exfalso; omega) | skip) | intro _ | fail)))))
  all_goals (try ((conv => whnf); (refine Exists.intro _ (Exists.intro _ (And.intro (cX6_in hl) (And.intro ?_ (fun _ _ h₀ => h₀.elim)))); rintro _ _ ⟨rfl, e₀⟩; have e2₀ := e₀.symm; clear e₀; subst e2₀); (repeat' (((conv => whnf); first | (show (_ : Option mg_V) = _ ∧ _; assumption) | (show K _ _ _ _ _; assumption) | (show mm_th _ _ _ _; assumption) | refine And.intro (by first | assumption | omega | (simp only [true_and]; first | done | assumption | omega)) ?_ | (refine And.intro (fun _ => ?_) (fun _ => ?_) <;> first | (exfalso; omega) | skip) | intro _ | fail)))))
  (conv => whnf)
  refine Exists.intro _ (Exists.intro _ (And.intro (cX6_fails0 hl rfl mm_th0 st₀) (And.intro ?_ (fun _ _ h₀ => h₀.elim))))
  rintro _ P ⟨rfl, tt⟩
  have f₀ := tt.1
  have k7P := (mm_f_st f₀ st₀).1
  have e1₀ := mm_f_gi f₀ m₀ 1 (by omega)
  have e2₀ := mm_f_gi f₀ m₀ 2 (by omega)
  have e25₀ := mm_f_gi f₀ m₀ 25 (by omega)
  have e26₀ := mm_f_gi f₀ m₀ 26 (by omega)
  have e27₀ := mm_f_gi f₀ m₀ 27 (by omega)
  have p3₀ : x₀ * gi P m₀ 25 = x₀ * gi M m₀ 25 := by rw [e25₀]
  have p4₀ : y₀ * gi P m₀ 26 = y₀ * gi M m₀ 26 := by rw [e26₀]
  (repeat' (((conv => whnf); first | (show (_ : Option mg_V) = _ ∧ _; assumption) | (show K _ _ _ _ _; assumption) | (show mm_th _ _ _ _; assumption) | refine And.intro (by first | assumption | omega | (simp only [true_and]; first | done | assumption | omega)) ?_ | (refine And.intro (fun _ => ?_) (fun _ => ?_) <;> first | (exfalso; omega) | skip) | intro _ | fail)))
  all_goals ((conv => whnf); refine Exists.intro _ (Exists.intro _ (And.intro (cX6_failsX hl (by omega) tt st₀) (And.intro ?_ (fun _ _ h₀ => h₀.elim)))))
  all_goals (rintro _ Q₀ ⟨rfl, t2₀⟩; (repeat' (((conv => whnf); first | (show (_ : Option mg_V) = _ ∧ _; assumption) | (show K _ _ _ _ _; assumption) | (show mm_th _ _ _ _; assumption) | refine And.intro (by first | assumption | omega | (simp only [true_and]; first | done | assumption | omega)) ?_ | (refine And.intro (fun _ => ?_) (fun _ => ?_) <;> first | (exfalso; omega) | skip) | intro _ | fail))))
/-- an area is₀ asked₀ for₀, then something was thrown₀ or not -/
def mm_ta (M N : mg_M) (m₀ : Nat) (x₀ : Int) : Prop := mm_f (fun b₀ k₀ => b₀ = m₀ ∧ (k₀ = 0 ∨ (32 ≤ k₀ ∧ k₀ ≤ 35))) M N ∧ gi N m₀ 0 = x₀
abbrev mm_pt (M : mg_M) (m₀ : Nat) (r₀ x₀ : Int) : Prop := ∃ k₀, (1 ≤ k₀ ∧ k₀ < gi M m₀ 25 * x₀) ∧ (r₀ + k₀ = gi M m₀ 3 ∧ 0 < k₀ % gi M m₀ 25) ∧ ∃ c₀, (0 ≤ c₀ ∧ c₀ < gi M m₀ 26) ∧ mi M (m₀ + 13) (k₀ % gi M m₀ 25) c₀ = mi M (m₀ + 13) (k₀ % gi M m₀ 25 - 1) c₀
/-- the two₀ questions before₀ pasting, on the area asked₀ for₀ -/
theorem cX6_pasteQ {D : mg_D} {l : Launch} (hl : l.stackTraces = false) {M P : mg_M} {m₀ : Nat} {r₀ c₀ x₀ y₀ z₀ : Int} {tp lf₀ hg wd : Int → Int} (st₀ : mm_st M m₀) (rc : mm_rc M m₀) (h4 : 0 ≤ gi M m₀ 4 ∧ gi M m₀ 4 ≤ 120) (rt : mm_RT M m₀ tp lf₀ hg wd) (t₀ : mm_ta M P m₀ z₀) (h₀ : mh_rg (gi M m₀ 1) (gi M m₀ 2) r₀ c₀) (h2 : (1 ≤ x₀ ∧ x₀ ≤ 4) ∧ (1 ≤ y₀ ∧ y₀ ≤ 4)) (hb₀ : (1 ≤ gi M m₀ 25 ∧ gi M m₀ 25 ≤ 12) ∧ (1 ≤ gi M m₀ 26 ∧ gi M m₀ 26 ≤ 10)) (hA : gi P m₀ 32 = r₀ ∧ gi P m₀ 33 = r₀ + x₀ * gi M m₀ 25 - 1 ∧ gi P m₀ 34 = c₀ ∧ gi P m₀ 35 = c₀ + y₀ * gi M m₀ 26 - 1) (hx : 1 ≤ x₀ * gi M m₀ 25 ∧ 1 ≤ y₀ * gi M m₀ 26) : mg_Mt D l 183 [.inr (.inl m₀)] P (fun v₀ N => v₀ = some (.inl (mh_pr (¬ mm_cl (gi M m₀ 4) tp lf₀ hg wd r₀ (r₀ + x₀ * gi M m₀ 25 - 1) c₀ (c₀ + y₀ * gi M m₀ 26 - 1)))) ∧ N = P) mg_no ∧ mg_Mt D l 182 [.inr (.inl m₀), .inl r₀, .inl x₀] P (fun v₀ N => v₀ = some (.inl (mh_pr (mm_pt M m₀ r₀ x₀))) ∧ N = P) mg_no := by
  have f₀ := t₀.1
  have e4₀ := mm_f_gi f₀ m₀ 4 (by omega)
  have e25₀ := mm_f_gi f₀ m₀ 25 (by omega)
  have e26₀ := mm_f_gi f₀ m₀ 26 (by omega)
  have e3₀ := mm_f_gi f₀ m₀ 3 (by omega)
  have e13₀ : ∀ p₀ q₀, mi P (m₀ + 13) p₀ q₀ = mi M (m₀ + 13) p₀ q₀ := fun p₀ q₀ => mm_f_gi f₀ (m₀ + 13) _ (by omega)
  have stP := mm_f_st f₀ st₀
  have rc' := rc
  unfold mm_rc at rc'
  constructor
  · have q₀ := cX6_isAnyCut (D := D) hl stP (mm_rc_f f₀ (by omega) (by omega) rc) (by omega) (by omega) (by omega) (mm_RT_f f₀ (by omega) (by omega) (by omega) (fun j₀ => by omega) rt)
    rw [e4₀, hA.1, hA.2.1, hA.2.2.1, hA.2.2.2] at q₀
    exact q₀
  · have q₀ := cX6_isParted (D := D) (x₀ := r₀) (d₀ := x₀) hl stP (by omega) h2.1 (by omega) (by omega)
    simp only [e25₀, e26₀, e3₀, e13₀] at q₀
    exact q₀
set_option maxRecDepth 100000 in
theorem cX6_paste4 {D : mg_D} {l : Launch} (hl : l.stackTraces = false) {M : mg_M} {m₀ : Nat} {r₀ c₀ x₀ y₀ : Int} {tp lf₀ hg wd : Int → Int} (st₀ : mm_st M m₀) (rc : mm_rc M m₀) (h4 : 0 ≤ gi M m₀ 4 ∧ gi M m₀ 4 ≤ 120) (rt : mm_RT M m₀ tp lf₀ hg wd) (h₀ : mh_rg (gi M m₀ 1) (gi M m₀ 2) r₀ c₀) (h2 : (1 ≤ x₀ ∧ x₀ ≤ 4) ∧ (1 ≤ y₀ ∧ y₀ ≤ 4)) (hb₀ : (1 ≤ gi M m₀ 25 ∧ gi M m₀ 25 ≤ 12) ∧ (1 ≤ gi M m₀ 26 ∧ gi M m₀ 26 ≤ 10)) (h3 : 0 < gi M m₀ 27 ∧ r₀ + x₀ * gi M m₀ 25 ≤ gi M m₀ 1 ∧ c₀ + y₀ * gi M m₀ 26 ≤ gi M m₀ 2) (h5 : ¬ mm_cl (gi M m₀ 4) tp lf₀ hg wd r₀ (r₀ + x₀ * gi M m₀ 25 - 1) c₀ (c₀ + y₀ * gi M m₀ 26 - 1) ∨ mm_pt M m₀ r₀ x₀) : mg_Mt D l 184 [.inr (.inl m₀), .inl r₀, .inl c₀, .inl x₀, .inl y₀] M (fun v₀ N => v₀ = some (.inl 0) ∧ mm_ta M N m₀ 4) mg_no := by
  refine mg_of2 hl ok_X6_paste al_X6_paste rfl (fun K hK₀ => ?_)
  have k7₀ := st₀.1
  have rc' := rc
  unfold mm_rc at rc'
  have p1₀ := @mh_mul4 x₀ (gi M m₀ 25) 0 h2.1 (by omega)
  have p2₀ := @mh_mul4 y₀ (gi M m₀ 26) 0 h2.2 (by omega)
  have p5₀ : 1 ≤ x₀ * gi M m₀ 25 := by have := Int.mul_le_mul h2.1.1 hb₀.1.1 (by omega : (0 : Int) ≤ 1) (by omega : (0 : Int) ≤ x₀); omega
  have p6₀ : 1 ≤ y₀ * gi M m₀ 26 := by have := Int.mul_le_mul h2.2.1 hb₀.2.1 (by omega : (0 : Int) ≤ 1) (by omega : (0 : Int) ≤ y₀); omega
  have h6 : mh_pr (¬ mm_cl (gi M m₀ 4) tp lf₀ hg wd r₀ (r₀ + x₀ * gi M m₀ 25 - 1) c₀ (c₀ + y₀ * gi M m₀ 26 - 1)) = 1 ∨ mh_pr (mm_pt M m₀ r₀ x₀) = 1 := h5.imp mh_pr1 mh_pr1
  clear h5
  refine hK₀ _ _ _ _ _ ?_
  (repeat' (((conv => whnf); first | (show (_ : Option mg_V) = _ ∧ _; assumption) | (show K _ _ _ _ _; assumption) | (show mm_th _ _ _ _; assumption) | refine And.intro (by first | assumption | omega | (simp only [true_and, kd_si]; first | done | assumption | omega)) ?_ | (refine And.intro (fun _ => ?_) (fun _ => ?_) <;> first | (exfalso; omega) | skip) | intro _ | fail)))
  all_goals (try ((conv => whnf); (refine Exists.intro _ (Exists.intro _ (And.intro (cX6_isSquare hl k7₀ rc) (And.intro ?_ (fun _ _ h₀ => h₀.elim)))); rintro _ _ ⟨rfl, e₀⟩; have e2₀ := e₀.symm; clear e₀; subst e2₀); (repeat' (((conv => whnf); first | (show (_ : Option mg_V) = _ ∧ _; assumption) | (show K _ _ _ _ _; assumption) | (show mm_th _ _ _ _; assumption) | refine And.intro (by first | assumption | omega | (simp only [true_and, kd_si]; first | done | assumption | omega)) ?_ | (refine And.intro (fun _ => ?_) (fun _ => ?_) <;> first | (exfalso; omega) | skip) | intro _ | fail)))))
  all_goals (try ((conv => whnf); (refine Exists.intro _ (Exists.intro _ (And.intro (cX6_in hl) (And.intro ?_ (fun _ _ h₀ => h₀.elim)))); rintro _ _ ⟨rfl, e₀⟩; have e2₀ := e₀.symm; clear e₀; subst e2₀); (repeat' (((conv => whnf); first | (show (_ : Option mg_V) = _ ∧ _; assumption) | (show K _ _ _ _ _; assumption) | (show mm_th _ _ _ _; assumption) | refine And.intro (by first | assumption | omega | (simp only [true_and, kd_si]; first | done | assumption | omega)) ?_ | (refine And.intro (fun _ => ?_) (fun _ => ?_) <;> first | (exfalso; omega) | skip) | intro _ | fail)))))
  all_goals (try ((conv => whnf); (refine Exists.intro _ (Exists.intro _ (And.intro (cX6_in hl) (And.intro ?_ (fun _ _ h₀ => h₀.elim)))); rintro _ _ ⟨rfl, e₀⟩; have e2₀ := e₀.symm; clear e₀; subst e2₀); (repeat' (((conv => whnf); first | (show (_ : Option mg_V) = _ ∧ _; assumption) | (show K _ _ _ _ _; assumption) | (show mm_th _ _ _ _; assumption) | refine And.intro (by first | assumption | omega | (simp only [true_and, kd_si]; first | done | assumption | omega)) ?_ | (refine And.intro (fun _ => ?_) (fun _ => ?_) <;> first | (exfalso; omega) | skip) | intro _ | fail)))))
  (conv => whnf)
  refine Exists.intro _ (Exists.intro _ (And.intro (cX6_fails0 hl rfl mm_th0 st₀) (And.intro ?_ (fun _ _ h₀ => h₀.elim))))
  rintro _ P ⟨rfl, tt⟩
  have f₀ := tt.1
  have k7P := (mm_f_st f₀ st₀).1
  have e1₀ := mm_f_gi f₀ m₀ 1 (by omega)
  have e2₀ := mm_f_gi f₀ m₀ 2 (by omega)
  have e25₀ := mm_f_gi f₀ m₀ 25 (by omega)
  have e26₀ := mm_f_gi f₀ m₀ 26 (by omega)
  have e27₀ := mm_f_gi f₀ m₀ 27 (by omega)
  have p3₀ : x₀ * gi P m₀ 25 = x₀ * gi M m₀ 25 := by rw [e25₀]
  have p4₀ : y₀ * gi P m₀ 26 = y₀ * gi M m₀ 26 := by rw [e26₀]
  (repeat' (((conv => whnf); first | (show (_ : Option mg_V) = _ ∧ _; assumption) | (show K _ _ _ _ _; assumption) | (show mm_th _ _ _ _; assumption) | refine And.intro (by first | assumption | omega | (simp only [true_and, kd_si]; first | done | assumption | omega)) ?_ | (refine And.intro (fun _ => ?_) (fun _ => ?_) <;> first | (exfalso; omega) | skip) | intro _ | fail)))
  (conv => whnf)
  refine Exists.intro _ (Exists.intro _ (And.intro (cX6_fails0 hl rfl tt st₀) (And.intro ?_ (fun _ _ h₀ => h₀.elim))))
  rintro _ P1₀ ⟨rfl, t1₀⟩
  have f1₀ := t1₀.1
  have k71 := (mm_f_st f1₀ st₀).1
  have g25 := mm_f_gi f1₀ m₀ 25 (by omega)
  have g26 := mm_f_gi f1₀ m₀ 26 (by omega)
  have g4 : ∀ v₀ w₀ u₀, gi (si (si (si P1₀ m₀ 32 v₀) m₀ 33 w₀) m₀ 34 u₀) m₀ 26 = gi M m₀ 26 := fun v₀ w₀ u₀ => by rw [gi_si, if_neg (by omega), gi_si, if_neg (by omega), gi_si, if_neg (by omega)]; exact g26
  have g5₀ : ∀ v₀, gi (si P1₀ m₀ 32 v₀) m₀ 25 = gi M m₀ 25 := fun v₀ => by rw [gi_si, if_neg (by omega)]; exact g25
  have p7₀ : x₀ * gi P1₀ m₀ 25 = x₀ * gi M m₀ 25 := by rw [g25]
  have p9₀ : ∀ v₀, x₀ * gi (si P1₀ m₀ 32 v₀) m₀ 25 = x₀ * gi M m₀ 25 := fun v₀ => by rw [g5₀]
  have p10 := p9₀ r₀
  have p8₀ := fun w₀ => congrArg (fun z₀ => y₀ * z₀) (g4 r₀ w₀ c₀)
  have p11 := p8₀ (r₀ + x₀ * gi (si P1₀ m₀ 32 r₀) m₀ 25 - 1)
  have p12 := p8₀ (r₀ + x₀ * gi P1₀ m₀ 25 - 1)
  try dsimp only at p11 p12
  clear p8₀ p9₀
  (repeat' (((conv => whnf); first | (show (_ : Option mg_V) = _ ∧ _; assumption) | (show K _ _ _ _ _; assumption) | (show mm_th _ _ _ _; assumption) | refine And.intro (by first | assumption | omega | (simp only [true_and, kd_si]; first | done | assumption | omega)) ?_ | (refine And.intro (fun _ => ?_) (fun _ => ?_) <;> first | (exfalso; omega) | skip) | intro _ | fail)))
  all_goals ((conv => whnf); simp only [g25, g4, g5₀]; generalize hZ : si (si (si (si P1₀ m₀ 32 r₀) m₀ 33 (r₀ + x₀ * gi M m₀ 25 - 1)) m₀ 34 c₀) m₀ 35 (c₀ + y₀ * gi M m₀ 26 - 1) = Z₀)
  have ta : mm_ta M Z₀ m₀ 0 := by
    rw [← hZ]
    exact ⟨mm_f_si (mm_f_si (mm_f_si (mm_f_si (mm_f_mono f1₀ (fun b₀ k₀ z₀ => by omega)) (by omega)) (by omega)) (by omega)) (by omega), by have := t1₀.2; simpa [gi_si] using this⟩
  have hA : gi Z₀ m₀ 32 = r₀ ∧ gi Z₀ m₀ 33 = r₀ + x₀ * gi M m₀ 25 - 1 ∧ gi Z₀ m₀ 34 = c₀ ∧ gi Z₀ m₀ 35 = c₀ + y₀ * gi M m₀ 26 - 1 := by rw [← hZ]; simp [gi_si]
  obtain ⟨q1₀, q2₀⟩ := cX6_pasteQ (D := D) hl st₀ rc h4 rt ta h₀ h2 hb₀ hA ⟨p5₀, p6₀⟩
  have kZ : kd Z₀ m₀ = 7 := (ta.1.1 m₀).trans k7₀
  clear hZ g4 g5₀ p7₀ p10 p11 p12 hA
  generalize mh_pr (¬ mm_cl (gi M m₀ 4) tp lf₀ hg wd r₀ (r₀ + x₀ * gi M m₀ 25 - 1) c₀ (c₀ + y₀ * gi M m₀ 26 - 1)) = A₀ at *
  generalize mh_pr (mm_pt M m₀ r₀ x₀) = B₀ at *
  (refine Exists.intro _ (Exists.intro _ (And.intro (q1₀) (And.intro ?_ (fun _ _ h₀ => h₀.elim)))); rintro _ _ ⟨rfl, e₀⟩; have e2₀ := e₀.symm; clear e₀; subst e2₀)
  (repeat' (((conv => whnf); first | (show (_ : Option mg_V) = _ ∧ _; assumption) | (show K _ _ _ _ _; assumption) | (show mm_th _ _ _ _; assumption) | refine And.intro (by first | assumption | omega | (simp only [true_and, kd_si]; first | done | assumption | omega)) ?_ | (refine And.intro (fun _ => ?_) (fun _ => ?_) <;> first | (exfalso; omega) | skip) | intro _ | fail)))
  all_goals (try ((conv => whnf); (refine Exists.intro _ (Exists.intro _ (And.intro (q2₀) (And.intro ?_ (fun _ _ h₀ => h₀.elim)))); rintro _ _ ⟨rfl, e₀⟩; have e2₀ := e₀.symm; clear e₀; subst e2₀); (repeat' (((conv => whnf); first | (show (_ : Option mg_V) = _ ∧ _; assumption) | (show K _ _ _ _ _; assumption) | (show mm_th _ _ _ _; assumption) | refine And.intro (by first | assumption | omega | (simp only [true_and, kd_si]; first | done | assumption | omega)) ?_ | (refine And.intro (fun _ => ?_) (fun _ => ?_) <;> first | (exfalso; omega) | skip) | intro _ | fail)))))
  all_goals (try ((conv => whnf); (refine Exists.intro _ (Exists.intro _ (And.intro (cX6_fails hl kZ) (And.intro ?_ (fun _ _ h₀ => h₀.elim)))); rintro _ _ ⟨rfl, e₀⟩; have e2₀ := e₀.symm; clear e₀; subst e2₀); (repeat' (((conv => whnf); first | (show (_ : Option mg_V) = _ ∧ _; assumption) | (show K _ _ _ _ _; assumption) | (show mm_th _ _ _ _; assumption) | refine And.intro (by first | assumption | omega | (simp only [true_and, kd_si]; first | done | assumption | omega)) ?_ | (refine And.intro (fun _ => ?_) (fun _ => ?_) <;> first | (exfalso; omega) | skip) | intro _ | fail)))))
  all_goals ((conv => whnf); first | refine And.intro rfl ⟨mm_f_si ta.1 (by omega), by rw [gi_si, if_pos ⟨rfl, rfl⟩]⟩ | exact ⟨mm_f_si ta.1 (by omega), by rw [gi_si, if_pos ⟨rfl, rfl⟩]⟩)
set_option maxRecDepth 100000 in
theorem cX6_paste0 {D : mg_D} {l : Launch} (hl : l.stackTraces = false) {M : mg_M} {m₀ : Nat} {r₀ c₀ x₀ y₀ : Int} {tp lf₀ hg wd : Int → Int} (st₀ : mm_st M m₀) (rc : mm_rc M m₀) (h4 : 0 ≤ gi M m₀ 4 ∧ gi M m₀ 4 ≤ 120) (rt : mm_RT M m₀ tp lf₀ hg wd) (h₀ : mh_rg (gi M m₀ 1) (gi M m₀ 2) r₀ c₀) (h2 : (1 ≤ x₀ ∧ x₀ ≤ 4) ∧ (1 ≤ y₀ ∧ y₀ ≤ 4)) (hb₀ : (1 ≤ gi M m₀ 25 ∧ gi M m₀ 25 ≤ 12) ∧ (1 ≤ gi M m₀ 26 ∧ gi M m₀ 26 ≤ 10)) (h3 : 0 < gi M m₀ 27 ∧ r₀ + x₀ * gi M m₀ 25 ≤ gi M m₀ 1 ∧ c₀ + y₀ * gi M m₀ 26 ≤ gi M m₀ 2) (h5 : mm_cl (gi M m₀ 4) tp lf₀ hg wd r₀ (r₀ + x₀ * gi M m₀ 25 - 1) c₀ (c₀ + y₀ * gi M m₀ 26 - 1)) (h6 : ¬ mm_pt M m₀ r₀ x₀) {T L₀ H₀ W₀ tb₀ lb hb' wb T' L' H' W' : Int → Int → Int} (hR : mm_rts M m₀ T L₀ H₀ W₀) (hcl : mm_cl (gi M m₀ 4) tp lf₀ hg wd = mh_cq (gi M m₀ 1) (gi M m₀ 2) T L₀ H₀ W₀) (hB₀ : mm_brs M m₀ tb₀ lb hb' wb) (h27 : gi M m₀ 27 ≤ 120) (hb1 : 1 ≤ gi M m₀ 1 ∧ 1 ≤ gi M m₀ 2) (hid₀ : ∀ r₀ c₀, mh_rg (gi M m₀ 1) (gi M m₀ 2) r₀ c₀ → 0 ≤ mi M (m₀ + 1) r₀ c₀ ∧ mi M (m₀ + 1) r₀ c₀ < 120) (hci : ∀ p₀ q₀, mh_rg (gi M m₀ 25) (gi M m₀ 26) p₀ q₀ → 0 ≤ mi M (m₀ + 13) p₀ q₀ ∧ mi M (m₀ + 13) p₀ q₀ < 120) (t₀ : mh_til (gi M m₀ 1) (gi M m₀ 2) (mi_lp r₀ (r₀ + x₀ * gi M m₀ 25 - 1) c₀ (c₀ + y₀ * gi M m₀ 26 - 1) (gi M m₀ 25) (gi M m₀ 26) T L₀ tb₀ lb) T' L' H' W') : mg_Mt D l 184 [.inr (.inl m₀), .inl r₀, .inl c₀, .inl x₀, .inl y₀] M (fun v₀ N => v₀ = some (.inl (x₀ * y₀ * gi M m₀ 27)) ∧ mm_nw M N m₀ (gi M m₀ 1) (gi M m₀ 2) (gi M m₀ 3) (mi_lp r₀ (r₀ + x₀ * gi M m₀ 25 - 1) c₀ (c₀ + y₀ * gi M m₀ 26 - 1) (gi M m₀ 25) (gi M m₀ 26) T L₀ tb₀ lb) (mi_lc M m₀ (m₀ + 2) (m₀ + 14) r₀ (r₀ + x₀ * gi M m₀ 25 - 1) c₀ (c₀ + y₀ * gi M m₀ 26 - 1) (gi M m₀ 25) (gi M m₀ 26)) (mi_lc M m₀ (m₀ + 3) (m₀ + 15) r₀ (r₀ + x₀ * gi M m₀ 25 - 1) c₀ (c₀ + y₀ * gi M m₀ 26 - 1) (gi M m₀ 25) (gi M m₀ 26)) (fun k₀ => gi M (m₀ + 4) k₀.toNat) (fun k₀ => gi M (m₀ + 5) k₀.toNat) ∧ mm_se N m₀ (gi M m₀ 1) (gi M m₀ 2) T' L' H' W') mg_no := by
  refine mg_of2 hl ok_X6_paste al_X6_paste rfl (fun K hK₀ => ?_)
  have k7₀ := st₀.1
  have rc' := rc
  unfold mm_rc at rc'
  have p1₀ := @mh_mul4 x₀ (gi M m₀ 25) 0 h2.1 (by omega)
  have p2₀ := @mh_mul4 y₀ (gi M m₀ 26) 0 h2.2 (by omega)
  have p5₀ : 1 ≤ x₀ * gi M m₀ 25 := by have := Int.mul_le_mul h2.1.1 hb₀.1.1 (by omega : (0 : Int) ≤ 1) (by omega : (0 : Int) ≤ x₀); omega
  have p6₀ : 1 ≤ y₀ * gi M m₀ 26 := by have := Int.mul_le_mul h2.2.1 hb₀.2.1 (by omega : (0 : Int) ≤ 1) (by omega : (0 : Int) ≤ y₀); omega
  have hA0 : mh_pr (¬ mm_cl (gi M m₀ 4) tp lf₀ hg wd r₀ (r₀ + x₀ * gi M m₀ 25 - 1) c₀ (c₀ + y₀ * gi M m₀ 26 - 1)) = 0 := mh_pr0 (fun z₀ => z₀ h5)
  have hB0 : mh_pr (mm_pt M m₀ r₀ x₀) = 0 := mh_pr0 h6
  have hcut : ∀ r' c', mh_rg (gi M m₀ 1) (gi M m₀ 2) r' c' → mh_mt r₀ (r₀ + x₀ * gi M m₀ 25 - 1) c₀ (c₀ + y₀ * gi M m₀ 26 - 1) (T r' c') (L₀ r' c') (H₀ r' c') (W₀ r' c') → mh_wn r₀ (r₀ + x₀ * gi M m₀ 25 - 1) c₀ (c₀ + y₀ * gi M m₀ 26 - 1) (T r' c') (L₀ r' c') (H₀ r' c') (W₀ r' c') := by rw [hcl] at h5; exact h5
  have LY := fun N fN₀ kt z0 hA => cX6_lays (D := D) (N := N) (f₀ := r₀) (e₀ := r₀ + x₀ * gi M m₀ 25 - 1) (a₀ := c₀) (b₀ := c₀ + y₀ * gi M m₀ 26 - 1) (n₀ := x₀) (d₀ := y₀) hl st₀ rc hb1 fN₀ kt z0 hA hb₀ (by omega) (by omega) rfl rfl hR hcut hB₀ hid₀ hci
  have m1₀ := @mh_mul4 x₀ y₀ 0 h2.1 (by omega)
  have m2₀ : 0 ≤ x₀ * y₀ * gi M m₀ 27 ∧ x₀ * y₀ * gi M m₀ 27 ≤ 48 * 120 := ⟨Int.mul_nonneg m1₀.1 (by omega), Int.mul_le_mul m1₀.2 h27 (by omega) (by omega)⟩
  clear h5 h6 hcut hR hcl hB₀ hid₀ hci
  refine hK₀ _ _ _ _ _ ?_
  (repeat' (((conv => whnf); first | (show (_ : Option mg_V) = _ ∧ _; assumption) | (show K _ _ _ _ _; assumption) | (show mm_th _ _ _ _; assumption) | refine And.intro (by first | assumption | omega | (simp only [true_and, kd_si]; first | done | assumption | omega)) ?_ | (refine And.intro (fun _ => ?_) (fun _ => ?_) <;> first | (exfalso; omega) | skip) | intro _ | fail)))
  all_goals (try ((conv => whnf); (refine Exists.intro _ (Exists.intro _ (And.intro (cX6_isSquare hl k7₀ rc) (And.intro ?_ (fun _ _ h₀ => h₀.elim)))); rintro _ _ ⟨rfl, e₀⟩; have e2₀ := e₀.symm; clear e₀; subst e2₀); (repeat' (((conv => whnf); first | (show (_ : Option mg_V) = _ ∧ _; assumption) | (show K _ _ _ _ _; assumption) | (show mm_th _ _ _ _; assumption) | refine And.intro (by first | assumption | omega | (simp only [true_and, kd_si]; first | done | assumption | omega)) ?_ | (refine And.intro (fun _ => ?_) (fun _ => ?_) <;> first | (exfalso; omega) | skip) | intro _ | fail)))))
  all_goals (try ((conv => whnf); (refine Exists.intro _ (Exists.intro _ (And.intro (cX6_in hl) (And.intro ?_ (fun _ _ h₀ => h₀.elim)))); rintro _ _ ⟨rfl, e₀⟩; have e2₀ := e₀.symm; clear e₀; subst e2₀); (repeat' (((conv => whnf); first | (show (_ : Option mg_V) = _ ∧ _; assumption) | (show K _ _ _ _ _; assumption) | (show mm_th _ _ _ _; assumption) | refine And.intro (by first | assumption | omega | (simp only [true_and, kd_si]; first | done | assumption | omega)) ?_ | (refine And.intro (fun _ => ?_) (fun _ => ?_) <;> first | (exfalso; omega) | skip) | intro _ | fail)))))
  all_goals (try ((conv => whnf); (refine Exists.intro _ (Exists.intro _ (And.intro (cX6_in hl) (And.intro ?_ (fun _ _ h₀ => h₀.elim)))); rintro _ _ ⟨rfl, e₀⟩; have e2₀ := e₀.symm; clear e₀; subst e2₀); (repeat' (((conv => whnf); first | (show (_ : Option mg_V) = _ ∧ _; assumption) | (show K _ _ _ _ _; assumption) | (show mm_th _ _ _ _; assumption) | refine And.intro (by first | assumption | omega | (simp only [true_and, kd_si]; first | done | assumption | omega)) ?_ | (refine And.intro (fun _ => ?_) (fun _ => ?_) <;> first | (exfalso; omega) | skip) | intro _ | fail)))))
  (conv => whnf)
  refine Exists.intro _ (Exists.intro _ (And.intro (cX6_fails0 hl rfl mm_th0 st₀) (And.intro ?_ (fun _ _ h₀ => h₀.elim))))
  rintro _ P ⟨rfl, tt⟩
  have f₀ := tt.1
  have k7P := (mm_f_st f₀ st₀).1
  have e1₀ := mm_f_gi f₀ m₀ 1 (by omega)
  have e2₀ := mm_f_gi f₀ m₀ 2 (by omega)
  have e25₀ := mm_f_gi f₀ m₀ 25 (by omega)
  have e26₀ := mm_f_gi f₀ m₀ 26 (by omega)
  have e27₀ := mm_f_gi f₀ m₀ 27 (by omega)
  have p3₀ : x₀ * gi P m₀ 25 = x₀ * gi M m₀ 25 := by rw [e25₀]
  have p4₀ : y₀ * gi P m₀ 26 = y₀ * gi M m₀ 26 := by rw [e26₀]
  (repeat' (((conv => whnf); first | (show (_ : Option mg_V) = _ ∧ _; assumption) | (show K _ _ _ _ _; assumption) | (show mm_th _ _ _ _; assumption) | refine And.intro (by first | assumption | omega | (simp only [true_and, kd_si]; first | done | assumption | omega)) ?_ | (refine And.intro (fun _ => ?_) (fun _ => ?_) <;> first | (exfalso; omega) | skip) | intro _ | fail)))
  (conv => whnf)
  refine Exists.intro _ (Exists.intro _ (And.intro (cX6_fails0 hl rfl tt st₀) (And.intro ?_ (fun _ _ h₀ => h₀.elim))))
  rintro _ P1₀ ⟨rfl, t1₀⟩
  have f1₀ := t1₀.1
  have k71 := (mm_f_st f1₀ st₀).1
  have g25 := mm_f_gi f1₀ m₀ 25 (by omega)
  have g26 := mm_f_gi f1₀ m₀ 26 (by omega)
  have g4 : ∀ v₀ w₀ u₀, gi (si (si (si P1₀ m₀ 32 v₀) m₀ 33 w₀) m₀ 34 u₀) m₀ 26 = gi M m₀ 26 := fun v₀ w₀ u₀ => by rw [gi_si, if_neg (by omega), gi_si, if_neg (by omega), gi_si, if_neg (by omega)]; exact g26
  have g5₀ : ∀ v₀, gi (si P1₀ m₀ 32 v₀) m₀ 25 = gi M m₀ 25 := fun v₀ => by rw [gi_si, if_neg (by omega)]; exact g25
  have p7₀ : x₀ * gi P1₀ m₀ 25 = x₀ * gi M m₀ 25 := by rw [g25]
  have p9₀ : ∀ v₀, x₀ * gi (si P1₀ m₀ 32 v₀) m₀ 25 = x₀ * gi M m₀ 25 := fun v₀ => by rw [g5₀]
  have p10 := p9₀ r₀
  have p8₀ := fun w₀ => congrArg (fun z₀ => y₀ * z₀) (g4 r₀ w₀ c₀)
  have p11 := p8₀ (r₀ + x₀ * gi (si P1₀ m₀ 32 r₀) m₀ 25 - 1)
  have p12 := p8₀ (r₀ + x₀ * gi P1₀ m₀ 25 - 1)
  try dsimp only at p11 p12
  clear p8₀ p9₀
  (repeat' (((conv => whnf); first | (show (_ : Option mg_V) = _ ∧ _; assumption) | (show K _ _ _ _ _; assumption) | (show mm_th _ _ _ _; assumption) | refine And.intro (by first | assumption | omega | (simp only [true_and, kd_si]; first | done | assumption | omega)) ?_ | (refine And.intro (fun _ => ?_) (fun _ => ?_) <;> first | (exfalso; omega) | skip) | intro _ | fail)))
  all_goals ((conv => whnf); simp only [g25, g4, g5₀]; generalize hZ : si (si (si (si P1₀ m₀ 32 r₀) m₀ 33 (r₀ + x₀ * gi M m₀ 25 - 1)) m₀ 34 c₀) m₀ 35 (c₀ + y₀ * gi M m₀ 26 - 1) = Z₀)
  have ta : mm_ta M Z₀ m₀ 0 := by
    rw [← hZ]
    exact ⟨mm_f_si (mm_f_si (mm_f_si (mm_f_si (mm_f_mono f1₀ (fun b₀ k₀ z₀ => by omega)) (by omega)) (by omega)) (by omega)) (by omega), by have := t1₀.2; simpa [gi_si] using this⟩
  have hA : gi Z₀ m₀ 32 = r₀ ∧ gi Z₀ m₀ 33 = r₀ + x₀ * gi M m₀ 25 - 1 ∧ gi Z₀ m₀ 34 = c₀ ∧ gi Z₀ m₀ 35 = c₀ + y₀ * gi M m₀ 26 - 1 := by rw [← hZ]; simp [gi_si]
  obtain ⟨q1₀, q2₀⟩ := cX6_pasteQ (D := D) hl st₀ rc h4 rt ta h₀ h2 hb₀ hA ⟨p5₀, p6₀⟩
  have kZ : kd Z₀ m₀ = 7 := (ta.1.1 m₀).trans k7₀
  rw [hA0] at q1₀
  rw [hB0] at q2₀
  clear hZ g4 g5₀ p7₀ p10 p11 p12 hA0 hB0
  (refine Exists.intro _ (Exists.intro _ (And.intro (q1₀) (And.intro ?_ (fun _ _ h₀ => h₀.elim)))); rintro _ _ ⟨rfl, e₀⟩; have e2₀ := e₀.symm; clear e₀; subst e2₀)
  (repeat' (((conv => whnf); first | (show (_ : Option mg_V) = _ ∧ _; assumption) | (show K _ _ _ _ _; assumption) | (show mm_th _ _ _ _; assumption) | refine And.intro (by first | assumption | omega | (simp only [true_and, kd_si]; first | done | assumption | omega)) ?_ | (refine And.intro (fun _ => ?_) (fun _ => ?_) <;> first | (exfalso; omega) | skip) | intro _ | fail)))
  all_goals (try ((conv => whnf); (refine Exists.intro _ (Exists.intro _ (And.intro (q2₀) (And.intro ?_ (fun _ _ h₀ => h₀.elim)))); rintro _ _ ⟨rfl, e₀⟩; have e2₀ := e₀.symm; clear e₀; subst e2₀); (repeat' (((conv => whnf); first | (show (_ : Option mg_V) = _ ∧ _; assumption) | (show K _ _ _ _ _; assumption) | (show mm_th _ _ _ _; assumption) | refine And.intro (by first | assumption | omega | (simp only [true_and, kd_si]; first | done | assumption | omega)) ?_ | (refine And.intro (fun _ => ?_) (fun _ => ?_) <;> first | (exfalso; omega) | skip) | intro _ | fail)))))
  all_goals (try ((conv => whnf); (refine Exists.intro _ (Exists.intro _ (And.intro (cX6_fails hl kZ) (And.intro ?_ (fun _ _ h₀ => h₀.elim)))); rintro _ _ ⟨rfl, e₀⟩; have e2₀ := e₀.symm; clear e₀; subst e2₀); (repeat' (((conv => whnf); first | (show (_ : Option mg_V) = _ ∧ _; assumption) | (show K _ _ _ _ _; assumption) | (show mm_th _ _ _ _; assumption) | refine And.intro (by first | assumption | omega | (simp only [true_and, kd_si]; first | done | assumption | omega)) ?_ | (refine And.intro (fun _ => ?_) (fun _ => ?_) <;> first | (exfalso; omega) | skip) | intro _ | fail)))))
  all_goals ((conv => whnf); generalize hY : si Z₀ m₀ 0 0 = Y)
  have fY : mm_f (fun b₀ k₀ => b₀ = m₀ ∧ (k₀ = 0 ∨ (32 ≤ k₀ ∧ k₀ ≤ 35))) M Y := by rw [← hY]; exact mm_f_si ta.1 (by omega)
  have y0 : gi Y m₀ 0 = 0 := by rw [← hY, gi_si, if_pos ⟨rfl, rfl⟩]
  have yA : ∀ k₀, k₀ ≠ 0 → gi Y m₀ k₀ = gi Z₀ m₀ k₀ := fun k₀ hk => by rw [← hY, gi_si, if_neg (by omega)]
  have stY := mm_f_st fY st₀
  clear hY
  refine Exists.intro _ (Exists.intro _ (And.intro (cX6_keeps hl stY) (And.intro ?_ (fun _ _ h₀ => h₀.elim))))
  rintro _ V ⟨rfl, kp₀⟩
  have fK := kp₀.1
  have fV₀ : mm_f (fun b₀ k₀ => (b₀ = m₀ ∧ (k₀ = 0 ∨ (10 ≤ k₀ ∧ k₀ ≤ 13) ∨ (32 ≤ k₀ ∧ k₀ ≤ 35))) ∨ (m₀ + 6 ≤ b₀ ∧ b₀ ≤ m₀ + 10)) M V := mm_f_tr (mm_f_mono fY (fun b₀ k₀ z₀ => by omega)) (mm_f_mono fK (fun b₀ k₀ z₀ => by omega))
  have ktV : mm_kt M V m₀ := by
    obtain ⟨_, ⟨b0, b1, b2, b3⟩, b4, b5, b6, b7⟩ := kp₀
    refine ⟨⟨b0, ?_, ?_, ?_⟩, fun k₀ hk => ?_, fun k₀ hk => ?_, fun k₀ hk => ?_, fun k₀ hk => ?_⟩
    · rw [b1]; exact mm_f_gi fY m₀ 1 (by omega)
    · rw [b2]; exact mm_f_gi fY m₀ 2 (by omega)
    · rw [b3]; exact mm_f_gi fY m₀ 3 (by omega)
    · rw [b4 k₀ (by omega)]; exact mm_f_gi fY (m₀ + 1) k₀ (by omega)
    · rw [(b5 k₀ (by omega)).1, (b5 k₀ (by omega)).2]; exact ⟨mm_f_gi fY (m₀ + 2) k₀ (by omega), mm_f_gi fY (m₀ + 3) k₀ (by omega)⟩
    · rw [b6 k₀ (by omega)]; exact mm_f_gi fY (m₀ + 4) k₀ (by omega)
    · rw [b7 k₀ (by omega)]; exact mm_f_gi fY (m₀ + 5) k₀ (by omega)
  have v0₀ : gi V m₀ 0 = 0 := (mm_f_gi fK m₀ 0 (by omega)).trans y0
  have vA : gi V m₀ 32 = r₀ ∧ gi V m₀ 33 = r₀ + x₀ * gi M m₀ 25 - 1 ∧ gi V m₀ 34 = c₀ ∧ gi V m₀ 35 = c₀ + y₀ * gi M m₀ 26 - 1 := by
    rw [mm_f_gi fK m₀ 32 (by omega), mm_f_gi fK m₀ 33 (by omega), mm_f_gi fK m₀ 34 (by omega), mm_f_gi fK m₀ 35 (by omega), yA 32 (by omega), yA 33 (by omega), yA 34 (by omega), yA 35 (by omega)]
    exact hA
  have kV : kd V m₀ = 7 := (fV₀.1 m₀).trans k7₀
  have ly := LY V fV₀ ktV v0₀ vA
  clear LY ktV vA kp₀ yA hA
  (repeat' (((conv => whnf); first | (show (_ : Option mg_V) = _ ∧ _; assumption) | (show K _ _ _ _ _; assumption) | (show mm_th _ _ _ _; assumption) | refine And.intro (by first | assumption | omega | (simp only [true_and, kd_si]; first | done | assumption | omega)) ?_ | (refine And.intro (fun _ => ?_) (fun _ => ?_) <;> first | (exfalso; omega) | skip) | intro _ | fail)))
  (conv => whnf)
  refine Exists.intro _ (Exists.intro _ (And.intro (ly) (And.intro ?_ (fun _ _ h₀ => h₀.elim))))
  rintro _ N2 ⟨rfl, nw⟩
  have k72 : kd N2 m₀ = 7 := (nw.1.1 m₀).trans k7₀
  clear ly
  (repeat' (((conv => whnf); first | (show (_ : Option mg_V) = _ ∧ _; assumption) | (show K _ _ _ _ _; assumption) | (show mm_th _ _ _ _; assumption) | refine And.intro (by first | assumption | omega | (simp only [true_and, kd_si]; first | done | assumption | omega)) ?_ | (refine And.intro (fun _ => ?_) (fun _ => ?_) <;> first | (exfalso; omega) | skip) | intro _ | fail)))
  (conv => whnf)
  refine Exists.intro _ (Exists.intro _ (And.intro (cX6_starts hl st₀ (by omega) nw t₀) (And.intro ?_ (fun _ _ h₀ => h₀.elim))))
  rintro _ N3 ⟨rfl, Q1₀, Q2₀⟩
  have k73 : kd N3 m₀ = 7 := (Q1₀.1.1 m₀).trans k7₀
  have e27' := mm_f_gi Q1₀.1 m₀ 27 (by omega)
  have m3₀ : x₀ * y₀ * gi N3 m₀ 27 = x₀ * y₀ * gi M m₀ 27 := by rw [e27']
  have Q₀ := And.intro (show some (Sum.inl (x₀ * y₀ * gi N3 m₀ 27) : mg_V) = some (.inl (x₀ * y₀ * gi M m₀ 27)) by rw [m3₀]) (And.intro Q1₀ Q2₀)
  clear nw
  (repeat' (((conv => whnf); first | (show (_ : Option mg_V) = _ ∧ _; assumption) | (show K _ _ _ _ _; assumption) | (show mm_th _ _ _ _; assumption) | refine And.intro (by first | assumption | omega | (simp only [true_and, kd_si]; first | done | assumption | omega)) ?_ | (refine And.intro (fun _ => ?_) (fun _ => ?_) <;> first | (exfalso; omega) | skip) | intro _ | fail)))
