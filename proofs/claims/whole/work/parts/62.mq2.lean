set_option maxRecDepth 100000 in
theorem cX6_selected1 {D : mg_D} {l : Launch} (hl : l.stackTraces = false) {M : mg_M} {m₀ : Nat} {x₀ : Int} (st₀ : mm_st M m₀) (h₀ : x₀ ≠ 116 ∧ x₀ ≠ 98 ∧ x₀ ≠ 108 ∧ x₀ ≠ 114) : mg_Mt D l 168 [.inr (.inl m₀), .inl x₀] M (fun v₀ N => v₀ = some (.inl 0) ∧ N = si M m₀ 0 1) mg_no := by
  refine mg_of2 hl ok_X6_selected al_X6_selected rfl (fun K hK₀ => ?_)
  have k7₀ := st₀.1
  refine hK₀ _ _ _ _ _ ?_
  (repeat' (((conv => whnf); first | assumption | refine And.intro (by first | assumption | omega | (simp only [true_and]; first | done | assumption | omega)) ?_ | (refine And.intro (fun _ => ?_) (fun _ => ?_) <;> first | (exfalso; omega) | skip) | intro _ | fail)))
  all_goals (try ((conv => whnf); (refine Exists.intro _ (Exists.intro _ (And.intro (cX6_fails hl k7₀) (And.intro ?_ (fun _ _ h₀ => h₀.elim)))); rintro _ _ ⟨rfl, e₀⟩; have e2₀ := e₀.symm; clear e₀; subst e2₀); (repeat' (((conv => whnf); first | assumption | refine And.intro (by first | assumption | omega | (simp only [true_and]; first | done | assumption | omega)) ?_ | (refine And.intro (fun _ => ?_) (fun _ => ?_) <;> first | (exfalso; omega) | skip) | intro _ | fail)))))
  all_goals ((conv => whnf) <;> first | rfl | exact And.intro rfl rfl)
set_option maxRecDepth 100000 in
theorem cX6_selected0 {D : mg_D} {l : Launch} (hl : l.stackTraces = false) {M : mg_M} {m₀ : Nat} {x₀ : Int} (st₀ : mm_st M m₀) (h₀ : x₀ = 116 ∨ x₀ = 98 ∨ x₀ = 108 ∨ x₀ = 114) : mg_Mt D l 168 [.inr (.inl m₀), .inl x₀] M (fun v₀ N => v₀ = some (.inl (if x₀ = 116 then gi M m₀ 21 else if x₀ = 98 then gi M m₀ 22 else if x₀ = 108 then gi M m₀ 23 else gi M m₀ 24)) ∧ N = si M m₀ 0 0) mg_no := by
  refine mg_of2 hl ok_X6_selected al_X6_selected rfl (fun K hK₀ => ?_)
  have k7₀ := st₀.1
  have e1₀ : gi (si M m₀ 0 0) m₀ 21 = gi M m₀ 21 := by rw [gi_si, if_neg (by omega)]
  have e2₀ : gi (si M m₀ 0 0) m₀ 22 = gi M m₀ 22 := by rw [gi_si, if_neg (by omega)]
  have e3₀ : gi (si M m₀ 0 0) m₀ 23 = gi M m₀ 23 := by rw [gi_si, if_neg (by omega)]
  have e4₀ : gi (si M m₀ 0 0) m₀ 24 = gi M m₀ 24 := by rw [gi_si, if_neg (by omega)]
  refine hK₀ _ _ _ _ _ ?_
  (repeat' (((conv => whnf); first | assumption | refine And.intro (by first | assumption | omega | (simp only [true_and, kd_si]; first | done | assumption | omega)) ?_ | (refine And.intro (fun _ => ?_) (fun _ => ?_) <;> first | (exfalso; omega) | skip) | intro _ | fail)))
  all_goals (try ((conv => whnf); (refine Exists.intro _ (Exists.intro _ (And.intro (cX6_fails hl k7₀) (And.intro ?_ (fun _ _ h₀ => h₀.elim)))); rintro _ _ ⟨rfl, e₀⟩; have e2₀ := e₀.symm; clear e₀; subst e2₀); (repeat' (((conv => whnf); first | assumption | refine And.intro (by first | assumption | omega | (simp only [true_and, kd_si]; first | done | assumption | omega)) ?_ | (refine And.intro (fun _ => ?_) (fun _ => ?_) <;> first | (exfalso; omega) | skip) | intro _ | fail)))))
  all_goals ((conv => whnf); refine And.intro ?_ rfl; congr 2; (try simp only [e1₀, e2₀, e3₀, e4₀]); (repeat' split) <;> first | rfl | omega)
set_option maxRecDepth 100000 in
theorem cX6_selectedCells {D : mg_D} {l : Launch} (hl : l.stackTraces = false) {M : mg_M} {m₀ : Nat} {tp lf₀ hg wd : Int → Int} (st₀ : mm_st M m₀) (rc : mm_rc M m₀) (h4 : 0 ≤ gi M m₀ 4 ∧ gi M m₀ 4 ≤ 120) (hs : mm_si M m₀) (rt : mm_RT M m₀ tp lf₀ hg wd) : mg_Mt D l 170 [.inr (.inl m₀)] M (fun v₀ N => v₀ = some (.inl (mh_sum (fun k₀ => if mm_ch M m₀ tp lf₀ hg wd k₀ then 1 else 0) (gi M m₀ 4).toNat)) ∧ N = si M m₀ 0 0) mg_no := by
  refine mg_of2 hl ok_X6_selectedCells al_X6_selectedCells rfl (fun K hK₀ => ?_)
  have k7₀ := st₀.1
  have f₀ : mm_f (fun b₀ k₀ => b₀ = m₀ ∧ k₀ = 0) M (si M m₀ 0 0) := mm_f0 rfl
  have t1₀ := mm_f_gi f₀ m₀ 1 (by omega)
  have t2₀ := mm_f_gi f₀ m₀ 2 (by omega)
  have t4₀ := mm_f_gi f₀ m₀ 4 (by omega)
  have t21 := mm_f_gi f₀ m₀ 21 (by omega)
  have t22 := mm_f_gi f₀ m₀ 22 (by omega)
  have t23 := mm_f_gi f₀ m₀ 23 (by omega)
  have t24 := mm_f_gi f₀ m₀ 24 (by omega)
  have c₀ := cX6_chosen (D := D) hl (mm_f_st f₀ st₀) (mm_rc_f f₀ (by omega) (by omega) rc) (by omega) (by omega) (mm_RT_f f₀ (by omega) (by omega) (by omega) (fun j₀ => by omega) rt)
  simp only [mm_ch, t21, t22, t23, t24, t4₀] at c₀
  refine hK₀ _ _ _ _ _ ?_
  (repeat' (((conv => whnf); first | assumption | refine And.intro (by first | assumption | omega | (simp only [true_and, kd_si]; first | done | assumption | omega)) ?_ | (refine And.intro (fun _ => ?_) (fun _ => ?_) <;> first | (exfalso; omega) | skip) | intro _ | fail)))
  all_goals (try ((conv => whnf); (refine Exists.intro _ (Exists.intro _ (And.intro (c₀) (And.intro ?_ (fun _ _ h₀ => h₀.elim)))); rintro _ _ ⟨rfl, e₀⟩; have e2₀ := e₀.symm; clear e₀; subst e2₀); (repeat' (((conv => whnf); first | assumption | refine And.intro (by first | assumption | omega | (simp only [true_and, kd_si]; first | done | assumption | omega)) ?_ | (refine And.intro (fun _ => ?_) (fun _ => ?_) <;> first | (exfalso; omega) | skip) | intro _ | fail)))))
  all_goals ((conv => whnf) <;> first | rfl | exact And.intro rfl rfl)
set_option maxRecDepth 100000 in
theorem cX6_sum {D : mg_D} {l : Launch} (hl : l.stackTraces = false) {M : mg_M} {m₀ : Nat} {tp lf₀ hg wd : Int → Int} (st₀ : mm_st M m₀) (rc : mm_rc M m₀) (h4 : 0 ≤ gi M m₀ 4 ∧ gi M m₀ 4 ≤ 120) (hs : mm_si M m₀) (rt : mm_RT M m₀ tp lf₀ hg wd) (hco : ∀ k₀ : Nat, (k₀ : Int) < gi M m₀ 4 → 0 ≤ gi M (m₀ + 2) k₀ ∧ gi M (m₀ + 2) k₀ ≤ 999) : mg_Mt D l 203 [.inr (.inl m₀)] M (fun v₀ N => v₀ = some (.inr (.inr (.inl (mh_sum (fun k₀ => if mm_ch M m₀ tp lf₀ hg wd k₀ then gi M (m₀ + 2) k₀ else 0) (gi M m₀ 4).toNat)))) ∧ N = si M m₀ 0 0) mg_no := by
  refine mg_of2 hl ok_X6_sum al_X6_sum rfl (fun K hK₀ => ?_)
  have k7₀ := st₀.1
  have f₀ : mm_f (fun b₀ k₀ => b₀ = m₀ ∧ k₀ = 0) M (si M m₀ 0 0) := mm_f0 rfl
  have t1₀ := mm_f_gi f₀ m₀ 1 (by omega)
  have t2₀ := mm_f_gi f₀ m₀ 2 (by omega)
  have t4₀ := mm_f_gi f₀ m₀ 4 (by omega)
  have t21 := mm_f_gi f₀ m₀ 21 (by omega)
  have t22 := mm_f_gi f₀ m₀ 22 (by omega)
  have t23 := mm_f_gi f₀ m₀ 23 (by omega)
  have t24 := mm_f_gi f₀ m₀ 24 (by omega)
  have tc₀ := fun k₀ => mm_f_gi f₀ (m₀ + 2) k₀ (by omega)
  have c₀ := cX6_chosenSum (D := D) hl (mm_f_st f₀ st₀) (mm_rc_f f₀ (by omega) (by omega) rc) (by omega) (by omega) (mm_RT_f f₀ (by omega) (by omega) (by omega) (fun j₀ => by omega) rt) (fun k₀ hk => by rw [tc₀]; exact hco k₀ (by omega))
  simp only [mm_ch, t21, t22, t23, t24, t4₀, tc₀] at c₀
  refine hK₀ _ _ _ _ _ ?_
  (repeat' (((conv => whnf); first | assumption | refine And.intro (by first | assumption | omega | (simp only [true_and, kd_si]; first | done | assumption | omega)) ?_ | (refine And.intro (fun _ => ?_) (fun _ => ?_) <;> first | (exfalso; omega) | skip) | intro _ | fail)))
  all_goals (try ((conv => whnf); (refine Exists.intro _ (Exists.intro _ (And.intro (c₀) (And.intro ?_ (fun _ _ h₀ => h₀.elim)))); rintro _ _ ⟨rfl, e₀⟩; have e2₀ := e₀.symm; clear e₀; subst e2₀); (repeat' (((conv => whnf); first | assumption | refine And.intro (by first | assumption | omega | (simp only [true_and, kd_si]; first | done | assumption | omega)) ?_ | (refine And.intro (fun _ => ?_) (fun _ => ?_) <;> first | (exfalso; omega) | skip) | intro _ | fail)))))
  all_goals ((conv => whnf) <;> first | rfl | exact And.intro rfl rfl)
set_option maxRecDepth 100000 in
theorem cX6_mean1 {D : mg_D} {l : Launch} (hl : l.stackTraces = false) {M : mg_M} {m₀ : Nat} {tp lf₀ hg wd : Int → Int} (st₀ : mm_st M m₀) (rc : mm_rc M m₀) (h4 : 0 ≤ gi M m₀ 4 ∧ gi M m₀ 4 ≤ 120) (hs : mm_si M m₀) (rt : mm_RT M m₀ tp lf₀ hg wd) (h₀ : mh_sum (fun k₀ => if mm_ch M m₀ tp lf₀ hg wd k₀ ∧ 0 < gi M (m₀ + 2) k₀ then 1 else 0) (gi M m₀ 4).toNat = 0) : mg_Mt D l 204 [.inr (.inl m₀)] M (fun v₀ N => v₀ = some (.inr (.inr (.inr (.inl 0)))) ∧ N = si M m₀ 0 1) mg_no := by
  refine mg_of2 hl ok_X6_mean al_X6_mean rfl (fun K hK₀ => ?_)
  have k7₀ := st₀.1
  have fl₀ := cX6_filled (D := D) hl st₀ rc h4 hs rt
  rw [h₀] at fl₀
  refine hK₀ _ _ _ _ _ ?_
  (repeat' (((conv => whnf); first | assumption | refine And.intro (by first | assumption | omega | (simp only [true_and]; first | done | assumption | omega)) ?_ | (refine And.intro (fun _ => ?_) (fun _ => ?_) <;> first | (exfalso; omega) | skip) | intro _ | fail)))
  all_goals (try ((conv => whnf); (refine Exists.intro _ (Exists.intro _ (And.intro (fl₀) (And.intro ?_ (fun _ _ h₀ => h₀.elim)))); rintro _ _ ⟨rfl, e₀⟩; have e2₀ := e₀.symm; clear e₀; subst e2₀); (repeat' (((conv => whnf); first | assumption | refine And.intro (by first | assumption | omega | (simp only [true_and]; first | done | assumption | omega)) ?_ | (refine And.intro (fun _ => ?_) (fun _ => ?_) <;> first | (exfalso; omega) | skip) | intro _ | fail)))))
  all_goals (try ((conv => whnf); (refine Exists.intro _ (Exists.intro _ (And.intro (cX6_fails hl k7₀) (And.intro ?_ (fun _ _ h₀ => h₀.elim)))); rintro _ _ ⟨rfl, e₀⟩; have e2₀ := e₀.symm; clear e₀; subst e2₀); (repeat' (((conv => whnf); first | assumption | refine And.intro (by first | assumption | omega | (simp only [true_and]; first | done | assumption | omega)) ?_ | (refine And.intro (fun _ => ?_) (fun _ => ?_) <;> first | (exfalso; omega) | skip) | intro _ | fail)))))
  all_goals ((conv => whnf) <;> first | rfl | exact And.intro rfl rfl)
set_option maxRecDepth 100000 in
theorem cX6_mean0 {D : mg_D} {l : Launch} (hl : l.stackTraces = false) {M : mg_M} {m₀ : Nat} {tp lf₀ hg wd : Int → Int} (st₀ : mm_st M m₀) (rc : mm_rc M m₀) (h4 : 0 ≤ gi M m₀ 4 ∧ gi M m₀ 4 ≤ 120) (hs : mm_si M m₀) (rt : mm_RT M m₀ tp lf₀ hg wd) (hco : ∀ k₀ : Nat, (k₀ : Int) < gi M m₀ 4 → 0 ≤ gi M (m₀ + 2) k₀ ∧ gi M (m₀ + 2) k₀ ≤ 999) {a₀ b₀ : Int} (hb₀ : mh_sum (fun k₀ => if mm_ch M m₀ tp lf₀ hg wd k₀ ∧ 0 < gi M (m₀ + 2) k₀ then 1 else 0) (gi M m₀ 4).toNat = b₀) (ha₀ : mh_sum (fun k₀ => if mm_ch M m₀ tp lf₀ hg wd k₀ then gi M (m₀ + 2) k₀ else 0) (gi M m₀ 4).toNat = a₀) (h₀ : b₀ ≠ 0) (hq : vf_n64 (FP.ddiv (FP.i2d (Int32.ofInt a₀)) (FP.i2d (Int32.ofInt b₀)))) : mg_Mt D l 204 [.inr (.inl m₀)] M (fun v₀ N => v₀ = some (.inr (.inr (.inr (.inl (FP.ddiv (FP.i2d (Int32.ofInt a₀)) (FP.i2d (Int32.ofInt b₀))))))) ∧ N = si M m₀ 0 0) mg_no := by
  refine mg_of2 hl ok_X6_mean al_X6_mean rfl (fun K hK₀ => ?_)
  have k7₀ := st₀.1
  have fl₀ := cX6_filled (D := D) hl st₀ rc h4 hs rt
  rw [hb₀] at fl₀
  have f₀ : mm_f (fun b₀ k₀ => b₀ = m₀ ∧ k₀ = 0) M (si M m₀ 0 0) := mm_f0 rfl
  have t1₀ := mm_f_gi f₀ m₀ 1 (by omega)
  have t2₀ := mm_f_gi f₀ m₀ 2 (by omega)
  have t4₀ := mm_f_gi f₀ m₀ 4 (by omega)
  have t21 := mm_f_gi f₀ m₀ 21 (by omega)
  have t22 := mm_f_gi f₀ m₀ 22 (by omega)
  have t23 := mm_f_gi f₀ m₀ 23 (by omega)
  have t24 := mm_f_gi f₀ m₀ 24 (by omega)
  have tc₀ := fun k₀ => mm_f_gi f₀ (m₀ + 2) k₀ (by omega)
  have c1₀ := cX6_chosenSum (D := D) hl (mm_f_st f₀ st₀) (mm_rc_f f₀ (by omega) (by omega) rc) (by omega) (by omega) (mm_RT_f f₀ (by omega) (by omega) (by omega) (fun j₀ => by omega) rt) (fun k₀ hk => by rw [tc₀]; exact hco k₀ (by omega))
  have c2₀ := cX6_filled (D := D) hl (mm_f_st f₀ st₀) (mm_rc_f f₀ (by omega) (by omega) rc) (by omega) (by omega) (mm_RT_f f₀ (by omega) (by omega) (by omega) (fun j₀ => by omega) rt)
  simp only [mm_ch, t21, t22, t23, t24, t4₀, tc₀] at c1₀ c2₀
  simp only [mm_ch] at ha₀ hb₀
  rw [ha₀] at c1₀
  rw [hb₀] at c2₀
  refine hK₀ _ _ _ _ _ ?_
  (repeat' (((conv => whnf); first | assumption | refine And.intro (by first | assumption | omega | (simp only [true_and, kd_si]; first | done | assumption | omega)) ?_ | (refine And.intro (fun _ => ?_) (fun _ => ?_) <;> first | (exfalso; omega) | skip) | intro _ | fail)))
  all_goals (try ((conv => whnf); (refine Exists.intro _ (Exists.intro _ (And.intro (fl₀) (And.intro ?_ (fun _ _ h₀ => h₀.elim)))); rintro _ _ ⟨rfl, e₀⟩; have e2₀ := e₀.symm; clear e₀; subst e2₀); (repeat' (((conv => whnf); first | assumption | refine And.intro (by first | assumption | omega | (simp only [true_and, kd_si]; first | done | assumption | omega)) ?_ | (refine And.intro (fun _ => ?_) (fun _ => ?_) <;> first | (exfalso; omega) | skip) | intro _ | fail)))))
  all_goals (try ((conv => whnf); (refine Exists.intro _ (Exists.intro _ (And.intro (cX6_fails hl k7₀) (And.intro ?_ (fun _ _ h₀ => h₀.elim)))); rintro _ _ ⟨rfl, e₀⟩; have e2₀ := e₀.symm; clear e₀; subst e2₀); (repeat' (((conv => whnf); first | assumption | refine And.intro (by first | assumption | omega | (simp only [true_and, kd_si]; first | done | assumption | omega)) ?_ | (refine And.intro (fun _ => ?_) (fun _ => ?_) <;> first | (exfalso; omega) | skip) | intro _ | fail)))))
  all_goals (try ((conv => whnf); (refine Exists.intro _ (Exists.intro _ (And.intro (c1₀) (And.intro ?_ (fun _ _ h₀ => h₀.elim)))); rintro _ _ ⟨rfl, e₀⟩; have e2₀ := e₀.symm; clear e₀; subst e2₀); (repeat' (((conv => whnf); first | assumption | refine And.intro (by first | assumption | omega | (simp only [true_and, kd_si]; first | done | assumption | omega)) ?_ | (refine And.intro (fun _ => ?_) (fun _ => ?_) <;> first | (exfalso; omega) | skip) | intro _ | fail)))))
  all_goals (try ((conv => whnf); (refine Exists.intro _ (Exists.intro _ (And.intro (c2₀) (And.intro ?_ (fun _ _ h₀ => h₀.elim)))); rintro _ _ ⟨rfl, e₀⟩; have e2₀ := e₀.symm; clear e₀; subst e2₀); (repeat' (((conv => whnf); first | assumption | refine And.intro (by first | assumption | omega | (simp only [true_and, kd_si]; first | done | assumption | omega)) ?_ | (refine And.intro (fun _ => ?_) (fun _ => ?_) <;> first | (exfalso; omega) | skip) | intro _ | fail)))))
  all_goals ((conv => whnf) <;> first | rfl | exact And.intro rfl rfl)
set_option maxRecDepth 100000 in
theorem cX6_isTiled {D : mg_D} {l : Launch} (hl : l.stackTraces = false) {M : mg_M} {m₀ : Nat} (st₀ : mm_st M m₀) (rc : mm_rc M m₀) (h₀ : ¬ ((0 < gi M m₀ 3 ∧ gi M m₀ 3 < gi M m₀ 1) ∧ ∃ j₀, (0 ≤ j₀ ∧ j₀ < gi M m₀ 2) ∧ mi M (m₀ + 1) (gi M m₀ 3) j₀ = mi M (m₀ + 1) (gi M m₀ 3 - 1) j₀)) : mg_Mt D l 206 [.inr (.inl m₀)] M (fun v₀ N => v₀ = some (.inl 1) ∧ N = si M m₀ 0 0) mg_no := by
  refine mg_of2 hl ok_X6_isTiled al_X6_isTiled rfl (fun K hK₀ => ?_)
  have k7₀ := st₀.1
  have f₀ : mm_f (fun b₀ k₀ => b₀ = m₀ ∧ k₀ = 0) M (si M m₀ 0 0) := mm_f0 rfl
  have t1₀ := mm_f_gi f₀ m₀ 1 (by omega)
  have t2₀ := mm_f_gi f₀ m₀ 2 (by omega)
  have t3₀ := mm_f_gi f₀ m₀ 3 (by omega)
  have tc₀ : ∀ r₀ c₀, mi (si M m₀ 0 0) (m₀ + 1) r₀ c₀ = mi M (m₀ + 1) r₀ c₀ := fun r₀ c₀ => mm_f_gi f₀ (m₀ + 1) _ (by omega)
  have c₀ := cX6_isTiedAt (D := D) (r₀ := gi (si M m₀ 0 0) m₀ 3) hl (mm_f_st f₀ st₀) (mm_rc_f f₀ (by omega) (by omega) rc)
  rw [mh_pr0 (by simp only [t1₀, t2₀, t3₀, tc₀]; exact h₀)] at c₀
  clear h₀
  refine hK₀ _ _ _ _ _ ?_
  (repeat' (((conv => whnf); first | assumption | refine And.intro (by first | assumption | omega | (simp only [true_and, kd_si]; first | done | assumption | omega)) ?_ | (refine And.intro (fun _ => ?_) (fun _ => ?_) <;> first | (exfalso; omega) | skip) | intro _ | fail)))
  all_goals (try ((conv => whnf); (refine Exists.intro _ (Exists.intro _ (And.intro (c₀) (And.intro ?_ (fun _ _ h₀ => h₀.elim)))); rintro _ _ ⟨rfl, e₀⟩; have e2₀ := e₀.symm; clear e₀; subst e2₀); (repeat' (((conv => whnf); first | assumption | refine And.intro (by first | assumption | omega | (simp only [true_and, kd_si]; first | done | assumption | omega)) ?_ | (refine And.intro (fun _ => ?_) (fun _ => ?_) <;> first | (exfalso; omega) | skip) | intro _ | fail)))))
  all_goals ((conv => whnf) <;> first | rfl | exact And.intro rfl rfl)
theorem mh_wsum1 {M : mg_M} {a₀ : Nat} {c₀ n₀ : Int} (h₀ : 0 ≤ n₀) (hc₀ : 0 ≤ c₀) : mh_wsum M a₀ c₀ (n₀ + 1) = mh_wsum M a₀ c₀ n₀ + gi M a₀ (c₀ + n₀).toNat := by
  unfold mh_wsum
  rw [mh_sumI h₀]
  (try dsimp only)
  congr 2
  omega
theorem mh_wsum0 {M : mg_M} {a₀ : Nat} {c₀ : Int} : mh_wsum M a₀ c₀ 0 = 0 := rfl
theorem mh_wsumb {M : mg_M} {a₀ : Nat} {c₀ n₀ x₀ : Int} (hc₀ : 0 ≤ c₀) (hn : 0 ≤ n₀) (h₀ : ∀ k₀ : Nat, (k₀ : Int) < c₀ + n₀ → 0 ≤ gi M a₀ k₀ ∧ gi M a₀ k₀ ≤ x₀) : 0 ≤ mh_wsum M a₀ c₀ n₀ ∧ mh_wsum M a₀ c₀ n₀ ≤ x₀ * n₀ := by
  have := mh_suml (fun k₀ => gi M a₀ (c₀.toNat + k₀)) x₀ n₀.toNat (fun i₀ hi => by (try dsimp only); exact h₀ _ (by omega))
  unfold mh_wsum
  rw [show ((n₀.toNat : Nat) : Int) = n₀ by omega] at this
  exact this
set_option maxRecDepth 100000 in
theorem cX6_sizeOf0 {D : mg_D} {l : Launch} (hl : l.stackTraces = false) {M : mg_M} {m₀ : Nat} {r₀ c₀ T L₀ H₀ W₀ : Int} (st₀ : mm_st M m₀) (rc : mm_rc M m₀) (h₀ : mh_rg (gi M m₀ 1) (gi M m₀ 2) r₀ c₀) (hr : mm_rect M m₀ (mi M (m₀ + 1) r₀ c₀) T L₀ H₀ W₀) (hw : ∀ k₀ : Nat, (k₀ : Int) < gi M m₀ 2 → 10 ≤ gi M (m₀ + 4) k₀ ∧ gi M (m₀ + 4) k₀ ≤ 200) (hh : ∀ k₀ : Nat, (k₀ : Int) < gi M m₀ 1 → 5 ≤ gi M (m₀ + 5) k₀ ∧ gi M (m₀ + 5) k₀ ≤ 100) : mg_Mt D l 199 [.inr (.inl m₀), .inl r₀, .inl c₀] M (fun v₀ N => v₀ = some (.inl (mh_wsum M (m₀ + 4) L₀ W₀ * mh_wsum M (m₀ + 5) T H₀)) ∧ N = si M m₀ 0 0) mg_no := by
  refine mg_of2 hl ok_X6_sizeOf al_X6_sizeOf rfl (fun K hK₀ => ?_)
  have k7₀ := st₀.1
  have rc' := rc
  unfold mm_rc at rc'
  have r1₀ := hr.1
  have r2 := hr.2.1
  obtain ⟨a8, b8, c8₀⟩ := st₀.2.1.2.2.2.1
  obtain ⟨a9, b9, c9₀⟩ := st₀.2.1.2.2.2.2
  have F₀ : ∀ P, P = si M m₀ 0 0 → K 27 [(0, Sum.inr (Sum.inl m₀)), (3, Sum.inl (mi M (m₀ + 1) r₀ c₀)), (4, Sum.inl 0), (5, Sum.inl 0), (6, Sum.inl 0)] [] P 0 := by
    intro P e₀
    have f₀ := mm_f0 e₀
    have stP := mm_f_st f₀ st₀
    have k7P := stP.1
    have rcP := mm_rc_f f₀ (by omega) (by omega) rc
    have rP : mm_rect P m₀ (mi M (m₀ + 1) r₀ c₀) T L₀ H₀ W₀ := mm_rect_f (mm_f_gi f₀ m₀ 1 (by omega)) (mm_f_gi f₀ m₀ 2 (by omega)) (fun j₀ => mm_f_gi f₀ (m₀ + 1) j₀ (by omega)) hr
    obtain ⟨a8, b8, c8₀⟩ := stP.2.1.2.2.2.1
    obtain ⟨a9, b9, c9₀⟩ := stP.2.1.2.2.2.2
    generalize mi M (m₀ + 1) r₀ c₀ = k₀ at *
    have B1 := fun n₀ (h0 : 0 ≤ n₀) (hn : n₀ ≤ W₀) => @mh_wsumb M (m₀ + 4) L₀ n₀ 200 (by omega) h0 (fun i₀ hi => by have := hw i₀ (by omega); omega)
    have B2 := fun n₀ (h0 : 0 ≤ n₀) (hn : n₀ ≤ H₀) => @mh_wsumb M (m₀ + 5) T n₀ 100 (by omega) h0 (fun i₀ hi => by have := hh i₀ (by omega); omega)
    have F2 : K 64 [(0, Sum.inr (Sum.inl m₀)), (3, Sum.inl k₀), (4, Sum.inl (mh_wsum M (m₀ + 4) L₀ W₀)), (5, Sum.inl 0), (6, Sum.inl 0)] [] P 0 := by
      refine mh_for (P := fun j₀ x₀ => x₀ = mh_wsum M (m₀ + 5) T j₀) (G := fun j₀ x₀ => K 64 [(0, Sum.inr (Sum.inl m₀)), (3, Sum.inl k₀), (4, Sum.inl (mh_wsum M (m₀ + 4) L₀ W₀)), (5, Sum.inl x₀), (6, Sum.inl j₀)] [] P 0) (lo := 0) (hi := H₀) (by omega) ?_ ?_ 0 rfl
      · intro x₀ hx
        have b1 := B1 W₀ (by omega) (by omega)
        have b2 := B2 H₀ (by omega) (by omega)
        rw [← hx] at b2
        have b3 : 0 ≤ mh_wsum M (m₀ + 4) L₀ W₀ * x₀ ∧ mh_wsum M (m₀ + 4) L₀ W₀ * x₀ ≤ 2000 * 1200 := ⟨Int.mul_nonneg b1.1 b2.1, Int.mul_le_mul (by omega) (by omega) b2.1 (by omega)⟩
        clear B1 B2
        refine hK₀ _ _ _ _ _ ?_
        (repeat' (((conv => whnf); first | assumption | refine And.intro (by first | assumption | omega | (simp only [true_and, a8, b8, c8₀, a9, b9, c9₀]; first | done | assumption | omega)) ?_ | (refine And.intro (fun _ => ?_) (fun _ => ?_) <;> first | (exfalso; omega) | skip) | intro _ | fail)))
        all_goals (try ((conv => whnf); (refine Exists.intro _ (Exists.intro _ (And.intro (cX6_rowMany hl stP rcP rP) (And.intro ?_ (fun _ _ h₀ => h₀.elim)))); rintro _ _ ⟨rfl, e₀⟩; have e2₀ := e₀.symm; clear e₀; subst e2₀); (repeat' (((conv => whnf); first | assumption | refine And.intro (by first | assumption | omega | (simp only [true_and, a8, b8, c8₀, a9, b9, c9₀]; first | done | assumption | omega)) ?_ | (refine And.intro (fun _ => ?_) (fun _ => ?_) <;> first | (exfalso; omega) | skip) | intro _ | fail)))))
        all_goals ((conv => whnf); rw [hx]; exact And.intro rfl e₀)
      · intro j₀ x₀ h1 h2 hx nex
        have b2 := B2 j₀ (by omega) (by omega)
        rw [← hx] at b2
        have e1₀ := @mh_wsum1 M (m₀ + 5) T j₀ (by omega) (by omega)
        rw [← hx] at e1₀
        have w1₀ := hh (T + j₀).toNat (by omega)
        have w2₀ := mm_f_gi f₀ (m₀ + 5) (T + j₀).toNat (by omega)
        have w3₀ : gi P (gr P m₀ 9) (T + j₀).toNat = gi M (m₀ + 5) (T + j₀).toNat := by rw [a9]; exact w2₀
        have nex2 : ∀ z₀, z₀ = x₀ + gi M (m₀ + 5) (T + j₀).toNat → K 64 [(0, Sum.inr (Sum.inl m₀)), (3, Sum.inl k₀), (4, Sum.inl (mh_wsum M (m₀ + 4) L₀ W₀)), (5, Sum.inl z₀), (6, Sum.inl (j₀ + 1))] [] P 0 := fun z₀ hz => nex z₀ (hz.trans e1₀.symm)
        clear nex e1₀ hx B1 B2
        refine hK₀ _ _ _ _ _ ?_
        (repeat' (((conv => whnf); first | assumption | refine And.intro (by first | assumption | omega | (simp only [true_and, a8, b8, c8₀, a9, b9, c9₀]; first | done | assumption | omega)) ?_ | (refine And.intro (fun _ => ?_) (fun _ => ?_) <;> first | (exfalso; omega) | skip) | intro _ | fail)))
        all_goals (try ((conv => whnf); (refine Exists.intro _ (Exists.intro _ (And.intro (cX6_rowMany hl stP rcP rP) (And.intro ?_ (fun _ _ h₀ => h₀.elim)))); rintro _ _ ⟨rfl, e₀⟩; have e2₀ := e₀.symm; clear e₀; subst e2₀); (repeat' (((conv => whnf); first | assumption | refine And.intro (by first | assumption | omega | (simp only [true_and, a8, b8, c8₀, a9, b9, c9₀]; first | done | assumption | omega)) ?_ | (refine And.intro (fun _ => ?_) (fun _ => ?_) <;> first | (exfalso; omega) | skip) | intro _ | fail)))))
        all_goals (try ((conv => whnf); (refine Exists.intro _ (Exists.intro _ (And.intro (cX6_topRow hl stP rcP rP) (And.intro ?_ (fun _ _ h₀ => h₀.elim)))); rintro _ _ ⟨rfl, e₀⟩; have e2₀ := e₀.symm; clear e₀; subst e2₀); (repeat' (((conv => whnf); first | assumption | refine And.intro (by first | assumption | omega | (simp only [true_and, a8, b8, c8₀, a9, b9, c9₀]; first | done | assumption | omega)) ?_ | (refine And.intro (fun _ => ?_) (fun _ => ?_) <;> first | (exfalso; omega) | skip) | intro _ | fail)))))
        all_goals ((conv => whnf); exact nex2 _ (by omega))
    refine mh_for (P := fun j₀ x₀ => x₀ = mh_wsum M (m₀ + 4) L₀ j₀) (G := fun j₀ x₀ => K 27 [(0, Sum.inr (Sum.inl m₀)), (3, Sum.inl k₀), (4, Sum.inl x₀), (5, Sum.inl 0), (6, Sum.inl j₀)] [] P 0) (lo := 0) (hi := W₀) (by omega) ?_ ?_ 0 rfl
    · intro x₀ hx
      subst hx
      clear B1 B2
      refine hK₀ _ _ _ _ _ ?_
      (repeat' (((conv => whnf); first | assumption | refine And.intro (by first | assumption | omega | (simp only [true_and, a8, b8, c8₀, a9, b9, c9₀]; first | done | assumption | omega)) ?_ | (refine And.intro (fun _ => ?_) (fun _ => ?_) <;> first | (exfalso; omega) | skip) | intro _ | fail)))
      all_goals (try ((conv => whnf); (refine Exists.intro _ (Exists.intro _ (And.intro (cX6_colMany hl stP rcP rP) (And.intro ?_ (fun _ _ h₀ => h₀.elim)))); rintro _ _ ⟨rfl, e₀⟩; have e2₀ := e₀.symm; clear e₀; subst e2₀); (repeat' (((conv => whnf); first | assumption | refine And.intro (by first | assumption | omega | (simp only [true_and, a8, b8, c8₀, a9, b9, c9₀]; first | done | assumption | omega)) ?_ | (refine And.intro (fun _ => ?_) (fun _ => ?_) <;> first | (exfalso; omega) | skip) | intro _ | fail)))))
    · intro j₀ x₀ h1 h2 hx nex
      have b2 := B1 j₀ (by omega) (by omega)
      rw [← hx] at b2
      have e1₀ := @mh_wsum1 M (m₀ + 4) L₀ j₀ (by omega) (by omega)
      rw [← hx] at e1₀
      have w1₀ := hw (L₀ + j₀).toNat (by omega)
      have w2₀ := mm_f_gi f₀ (m₀ + 4) (L₀ + j₀).toNat (by omega)
      have w3₀ : gi P (gr P m₀ 8) (L₀ + j₀).toNat = gi M (m₀ + 4) (L₀ + j₀).toNat := by rw [a8]; exact w2₀
      have nex2 : ∀ z₀, z₀ = x₀ + gi M (m₀ + 4) (L₀ + j₀).toNat → K 27 [(0, Sum.inr (Sum.inl m₀)), (3, Sum.inl k₀), (4, Sum.inl z₀), (5, Sum.inl 0), (6, Sum.inl (j₀ + 1))] [] P 0 := fun z₀ hz => nex z₀ (hz.trans e1₀.symm)
      clear nex e1₀ hx B1 B2
      refine hK₀ _ _ _ _ _ ?_
      (repeat' (((conv => whnf); first | assumption | refine And.intro (by first | assumption | omega | (simp only [true_and, a8, b8, c8₀, a9, b9, c9₀]; first | done | assumption | omega)) ?_ | (refine And.intro (fun _ => ?_) (fun _ => ?_) <;> first | (exfalso; omega) | skip) | intro _ | fail)))
      all_goals (try ((conv => whnf); (refine Exists.intro _ (Exists.intro _ (And.intro (cX6_colMany hl stP rcP rP) (And.intro ?_ (fun _ _ h₀ => h₀.elim)))); rintro _ _ ⟨rfl, e₀⟩; have e2₀ := e₀.symm; clear e₀; subst e2₀); (repeat' (((conv => whnf); first | assumption | refine And.intro (by first | assumption | omega | (simp only [true_and, a8, b8, c8₀, a9, b9, c9₀]; first | done | assumption | omega)) ?_ | (refine And.intro (fun _ => ?_) (fun _ => ?_) <;> first | (exfalso; omega) | skip) | intro _ | fail)))))
      all_goals (try ((conv => whnf); (refine Exists.intro _ (Exists.intro _ (And.intro (cX6_leftCol hl stP rcP rP) (And.intro ?_ (fun _ _ h₀ => h₀.elim)))); rintro _ _ ⟨rfl, e₀⟩; have e2₀ := e₀.symm; clear e₀; subst e2₀); (repeat' (((conv => whnf); first | assumption | refine And.intro (by first | assumption | omega | (simp only [true_and, a8, b8, c8₀, a9, b9, c9₀]; first | done | assumption | omega)) ?_ | (refine And.intro (fun _ => ?_) (fun _ => ?_) <;> first | (exfalso; omega) | skip) | intro _ | fail)))))
      all_goals ((conv => whnf); exact nex2 _ (by omega))
  refine hK₀ _ _ _ _ _ ?_
  (repeat' (((conv => whnf); first | assumption | refine And.intro (by first | assumption | omega | (simp only [true_and, a8, b8, c8₀, a9, b9, c9₀]; first | done | assumption | omega)) ?_ | (refine And.intro (fun _ => ?_) (fun _ => ?_) <;> first | (exfalso; omega) | skip) | intro _ | fail)))
  (conv => whnf)
  refine Exists.intro _ (Exists.intro _ (And.intro (cX6_failsSquare0 hl st₀ rc h₀) (And.intro ?_ (fun _ _ h₀ => h₀.elim))))
  rintro _ P ⟨rfl, e₀⟩
  have f₀ := mm_f0 e₀
  have stP := mm_f_st f₀ st₀
  have k7P := stP.1
  have eid : mi P (m₀ + 1) r₀ c₀ = mi M (m₀ + 1) r₀ c₀ := mm_f_gi f₀ (m₀ + 1) _ (by omega)
  have w₀ := F₀ P e₀
  rw [← eid] at w₀
  (repeat' (((conv => whnf); first | assumption | refine And.intro (by first | assumption | omega | (simp only [true_and, a8, b8, c8₀, a9, b9, c9₀]; first | done | assumption | omega)) ?_ | (refine And.intro (fun _ => ?_) (fun _ => ?_) <;> first | (exfalso; omega) | skip) | intro _ | fail)))
  all_goals (try ((conv => whnf); (refine Exists.intro _ (Exists.intro _ (And.intro (cX6_id hl stP (by omega) (by omega)) (And.intro ?_ (fun _ _ h₀ => h₀.elim)))); rintro _ _ ⟨rfl, e₀⟩; have e2₀ := e₀.symm; clear e₀; subst e2₀); (repeat' (((conv => whnf); first | assumption | refine And.intro (by first | assumption | omega | (simp only [true_and, a8, b8, c8₀, a9, b9, c9₀]; first | done | assumption | omega)) ?_ | (refine And.intro (fun _ => ?_) (fun _ => ?_) <;> first | (exfalso; omega) | skip) | intro _ | fail)))))
