theorem mm_f0 {M P : mg_M} {m₀ : Nat} {x₀ : Int} (e₀ : P = si M m₀ 0 x₀) : mm_f (fun b₀ k₀ => b₀ = m₀ ∧ k₀ = 0) M P := by
  rw [e₀]
  exact mm_f_si mm_f_rfl ⟨rfl, rfl⟩
set_option maxRecDepth 100000 in
theorem cX6_failsSquare0 {D : mg_D} {l : Launch} (hl : l.stackTraces = false) {M : mg_M} {m₀ : Nat} {r₀ c₀ : Int} (st₀ : mm_st M m₀) (rc : mm_rc M m₀) (h₀ : mh_rg (gi M m₀ 1) (gi M m₀ 2) r₀ c₀) : mg_Mt D l 153 [.inr (.inl m₀), .inl r₀, .inl c₀] M (fun v₀ N => v₀ = some (.inl 0) ∧ N = si M m₀ 0 0) mg_no := by
  refine mg_of2 hl ok_X6_failsSquare al_X6_failsSquare rfl (fun K hK₀ => ?_)
  have k7₀ := st₀.1
  refine hK₀ _ _ _ _ _ ?_
  (repeat' (((conv => whnf); first | assumption | refine And.intro (by first | assumption | omega | (simp only [true_and]; first | done | assumption | omega)) ?_ | (refine And.intro (fun _ => ?_) (fun _ => ?_) <;> first | (exfalso; omega) | skip) | intro _ | fail)))
  all_goals (try ((conv => whnf); (refine Exists.intro _ (Exists.intro _ (And.intro (cX6_isSquare hl k7₀ rc) (And.intro ?_ (fun _ _ h₀ => h₀.elim)))); rintro _ _ ⟨rfl, e₀⟩; have e2₀ := e₀.symm; clear e₀; subst e2₀); (repeat' (((conv => whnf); first | assumption | refine And.intro (by first | assumption | omega | (simp only [true_and]; first | done | assumption | omega)) ?_ | (refine And.intro (fun _ => ?_) (fun _ => ?_) <;> first | (exfalso; omega) | skip) | intro _ | fail)))))
  all_goals (try ((conv => whnf); (refine Exists.intro _ (Exists.intro _ (And.intro (cX6_fails hl k7₀) (And.intro ?_ (fun _ _ h₀ => h₀.elim)))); rintro _ _ ⟨rfl, e₀⟩; have e2₀ := e₀.symm; clear e₀; subst e2₀); (repeat' (((conv => whnf); first | assumption | refine And.intro (by first | assumption | omega | (simp only [true_and]; first | done | assumption | omega)) ?_ | (refine And.intro (fun _ => ?_) (fun _ => ?_) <;> first | (exfalso; omega) | skip) | intro _ | fail)))))
  all_goals ((conv => whnf) <;> first | rfl | exact And.intro rfl rfl)
set_option maxRecDepth 100000 in
theorem cX6_failsSquare1 {D : mg_D} {l : Launch} (hl : l.stackTraces = false) {M : mg_M} {m₀ : Nat} {r₀ c₀ : Int} (st₀ : mm_st M m₀) (rc : mm_rc M m₀) (h₀ : ¬ mh_rg (gi M m₀ 1) (gi M m₀ 2) r₀ c₀) : mg_Mt D l 153 [.inr (.inl m₀), .inl r₀, .inl c₀] M (fun v₀ N => v₀ = some (.inl 1) ∧ N = si M m₀ 0 1) mg_no := by
  refine mg_of2 hl ok_X6_failsSquare al_X6_failsSquare rfl (fun K hK₀ => ?_)
  have k7₀ := st₀.1
  refine hK₀ _ _ _ _ _ ?_
  (repeat' (((conv => whnf); first | assumption | refine And.intro (by first | assumption | omega | (simp only [true_and]; first | done | assumption | omega)) ?_ | (refine And.intro (fun _ => ?_) (fun _ => ?_) <;> first | (exfalso; omega) | skip) | intro _ | fail)))
  all_goals (try ((conv => whnf); (refine Exists.intro _ (Exists.intro _ (And.intro (cX6_isSquare hl k7₀ rc) (And.intro ?_ (fun _ _ h₀ => h₀.elim)))); rintro _ _ ⟨rfl, e₀⟩; have e2₀ := e₀.symm; clear e₀; subst e2₀); (repeat' (((conv => whnf); first | assumption | refine And.intro (by first | assumption | omega | (simp only [true_and]; first | done | assumption | omega)) ?_ | (refine And.intro (fun _ => ?_) (fun _ => ?_) <;> first | (exfalso; omega) | skip) | intro _ | fail)))))
  all_goals (try ((conv => whnf); (refine Exists.intro _ (Exists.intro _ (And.intro (cX6_fails hl k7₀) (And.intro ?_ (fun _ _ h₀ => h₀.elim)))); rintro _ _ ⟨rfl, e₀⟩; have e2₀ := e₀.symm; clear e₀; subst e2₀); (repeat' (((conv => whnf); first | assumption | refine And.intro (by first | assumption | omega | (simp only [true_and]; first | done | assumption | omega)) ?_ | (refine And.intro (fun _ => ?_) (fun _ => ?_) <;> first | (exfalso; omega) | skip) | intro _ | fail)))))
  all_goals ((conv => whnf) <;> first | rfl | exact And.intro rfl rfl)
set_option maxRecDepth 100000 in
theorem cX6_failsTwo0 {D : mg_D} {l : Launch} (hl : l.stackTraces = false) {M : mg_M} {m₀ : Nat} {r₀ c₀ r' c' : Int} (st₀ : mm_st M m₀) (rc : mm_rc M m₀) (h₀ : mh_rg (gi M m₀ 1) (gi M m₀ 2) r₀ c₀) (h' : mh_rg (gi M m₀ 1) (gi M m₀ 2) r' c') : mg_Mt D l 166 [.inr (.inl m₀), .inl r₀, .inl c₀, .inl r', .inl c'] M (fun v₀ N => v₀ = some (.inl 0) ∧ N = si M m₀ 0 0) mg_no := by
  refine mg_of2 hl ok_X6_failsTwo al_X6_failsTwo rfl (fun K hK₀ => ?_)
  have k7₀ := st₀.1
  refine hK₀ _ _ _ _ _ ?_
  (repeat' (((conv => whnf); first | assumption | refine And.intro (by first | assumption | omega | (simp only [true_and]; first | done | assumption | omega)) ?_ | (refine And.intro (fun _ => ?_) (fun _ => ?_) <;> first | (exfalso; omega) | skip) | intro _ | fail)))
  all_goals (try ((conv => whnf); (refine Exists.intro _ (Exists.intro _ (And.intro (cX6_isSquare hl k7₀ rc) (And.intro ?_ (fun _ _ h₀ => h₀.elim)))); rintro _ _ ⟨rfl, e₀⟩; have e2₀ := e₀.symm; clear e₀; subst e2₀); (repeat' (((conv => whnf); first | assumption | refine And.intro (by first | assumption | omega | (simp only [true_and]; first | done | assumption | omega)) ?_ | (refine And.intro (fun _ => ?_) (fun _ => ?_) <;> first | (exfalso; omega) | skip) | intro _ | fail)))))
  all_goals (try ((conv => whnf); (refine Exists.intro _ (Exists.intro _ (And.intro (cX6_isSquare hl k7₀ rc) (And.intro ?_ (fun _ _ h₀ => h₀.elim)))); rintro _ _ ⟨rfl, e₀⟩; have e2₀ := e₀.symm; clear e₀; subst e2₀); (repeat' (((conv => whnf); first | assumption | refine And.intro (by first | assumption | omega | (simp only [true_and]; first | done | assumption | omega)) ?_ | (refine And.intro (fun _ => ?_) (fun _ => ?_) <;> first | (exfalso; omega) | skip) | intro _ | fail)))))
  all_goals (try ((conv => whnf); (refine Exists.intro _ (Exists.intro _ (And.intro (cX6_fails hl k7₀) (And.intro ?_ (fun _ _ h₀ => h₀.elim)))); rintro _ _ ⟨rfl, e₀⟩; have e2₀ := e₀.symm; clear e₀; subst e2₀); (repeat' (((conv => whnf); first | assumption | refine And.intro (by first | assumption | omega | (simp only [true_and]; first | done | assumption | omega)) ?_ | (refine And.intro (fun _ => ?_) (fun _ => ?_) <;> first | (exfalso; omega) | skip) | intro _ | fail)))))
  all_goals ((conv => whnf) <;> first | rfl | exact And.intro rfl rfl)
set_option maxRecDepth 100000 in
theorem cX6_failsTwo1 {D : mg_D} {l : Launch} (hl : l.stackTraces = false) {M : mg_M} {m₀ : Nat} {r₀ c₀ r' c' : Int} (st₀ : mm_st M m₀) (rc : mm_rc M m₀) (h₀ : ¬ (mh_rg (gi M m₀ 1) (gi M m₀ 2) r₀ c₀ ∧ mh_rg (gi M m₀ 1) (gi M m₀ 2) r' c')) : mg_Mt D l 166 [.inr (.inl m₀), .inl r₀, .inl c₀, .inl r', .inl c'] M (fun v₀ N => v₀ = some (.inl 1) ∧ N = si M m₀ 0 1) mg_no := by
  refine mg_of2 hl ok_X6_failsTwo al_X6_failsTwo rfl (fun K hK₀ => ?_)
  have k7₀ := st₀.1
  refine hK₀ _ _ _ _ _ ?_
  (repeat' (((conv => whnf); first | assumption | refine And.intro (by first | assumption | omega | (simp only [true_and]; first | done | assumption | omega)) ?_ | (refine And.intro (fun _ => ?_) (fun _ => ?_) <;> first | (exfalso; omega) | skip) | intro _ | fail)))
  all_goals (try ((conv => whnf); (refine Exists.intro _ (Exists.intro _ (And.intro (cX6_isSquare hl k7₀ rc) (And.intro ?_ (fun _ _ h₀ => h₀.elim)))); rintro _ _ ⟨rfl, e₀⟩; have e2₀ := e₀.symm; clear e₀; subst e2₀); (repeat' (((conv => whnf); first | assumption | refine And.intro (by first | assumption | omega | (simp only [true_and]; first | done | assumption | omega)) ?_ | (refine And.intro (fun _ => ?_) (fun _ => ?_) <;> first | (exfalso; omega) | skip) | intro _ | fail)))))
  all_goals (try ((conv => whnf); (refine Exists.intro _ (Exists.intro _ (And.intro (cX6_isSquare hl k7₀ rc) (And.intro ?_ (fun _ _ h₀ => h₀.elim)))); rintro _ _ ⟨rfl, e₀⟩; have e2₀ := e₀.symm; clear e₀; subst e2₀); (repeat' (((conv => whnf); first | assumption | refine And.intro (by first | assumption | omega | (simp only [true_and]; first | done | assumption | omega)) ?_ | (refine And.intro (fun _ => ?_) (fun _ => ?_) <;> first | (exfalso; omega) | skip) | intro _ | fail)))))
  all_goals (try ((conv => whnf); (refine Exists.intro _ (Exists.intro _ (And.intro (cX6_fails hl k7₀) (And.intro ?_ (fun _ _ h₀ => h₀.elim)))); rintro _ _ ⟨rfl, e₀⟩; have e2₀ := e₀.symm; clear e₀; subst e2₀); (repeat' (((conv => whnf); first | assumption | refine And.intro (by first | assumption | omega | (simp only [true_and]; first | done | assumption | omega)) ?_ | (refine And.intro (fun _ => ?_) (fun _ => ?_) <;> first | (exfalso; omega) | skip) | intro _ | fail)))))
  all_goals ((conv => whnf) <;> first | rfl | exact And.intro rfl rfl)
set_option maxRecDepth 100000 in
theorem cX6_isCol {D : mg_D} {l : Launch} (hl : l.stackTraces = false) {M : mg_M} {m₀ : Nat} {c₀ : Int} (k7₀ : kd M m₀ = 7) (rc : mm_rc M m₀) : mg_Mt D l 192 [.inr (.inl m₀), .inl c₀] M (fun v₀ N => v₀ = some (.inl (if 0 ≤ c₀ ∧ c₀ < gi M m₀ 2 then 1 else 0)) ∧ N = M) mg_no := by
  refine mg_of2 hl ok_X6_isCol al_X6_isCol rfl (fun K hK₀ => ?_)
  unfold mm_rc at rc
  refine hK₀ _ _ _ _ _ ?_
  (repeat' (((conv => whnf); first | assumption | refine And.intro (by first | omega) ?_ | (refine And.intro (fun _ => ?_) (fun _ => ?_) <;> first | (exfalso; omega) | skip) | intro _ | fail)))
  all_goals (try ((conv => whnf); (refine Exists.intro _ (Exists.intro _ (And.intro (cX6_in hl) (And.intro ?_ (fun _ _ h₀ => h₀.elim)))); rintro _ _ ⟨rfl, e₀⟩; have e2₀ := e₀.symm; clear e₀; subst e2₀); (repeat' (((conv => whnf); first | assumption | refine And.intro (by first | omega) ?_ | (refine And.intro (fun _ => ?_) (fun _ => ?_) <;> first | (exfalso; omega) | skip) | intro _ | fail)))))
  all_goals (refine And.intro ?_ ?_ <;> first | rfl | ((repeat' split) <;> first | rfl | omega))
set_option maxRecDepth 100000 in
theorem cX6_thrown {D : mg_D} {l : Launch} (hl : l.stackTraces = false) {M : mg_M} {m₀ : Nat} (k7₀ : kd M m₀ = 7) : mg_Mt D l 124 [.inr (.inl m₀)] M (fun v₀ N => v₀ = some (.inl (gi M m₀ 0)) ∧ N = M) mg_no := by
  refine mg_of2 hl ok_X6_thrown al_X6_thrown rfl (fun K hK₀ => ?_)
  refine hK₀ _ _ _ _ _ ?_
  (repeat' (first | rfl | ((conv => whnf); first | exact And.intro rfl rfl | refine And.intro (by first | assumption | omega) ?_ | (refine And.intro (fun _ => ?_) (fun _ => ?_) <;> first | (exfalso; omega) | skip) | exact rfl | intro _ | fail)))
set_option maxRecDepth 100000 in
theorem cX6_rows {D : mg_D} {l : Launch} (hl : l.stackTraces = false) {M : mg_M} {m₀ : Nat} (k7₀ : kd M m₀ = 7) : mg_Mt D l 140 [.inr (.inl m₀)] M (fun v₀ N => v₀ = some (.inl (gi M m₀ 1)) ∧ N = si M m₀ 0 0) mg_no := by
  refine mg_of2 hl ok_X6_rows al_X6_rows rfl (fun K hK₀ => ?_)
  have e₀ : gi (si M m₀ 0 0) m₀ 1 = gi M m₀ 1 := by rw [gi_si, if_neg (by omega)]
  refine hK₀ _ _ _ _ _ ?_
  (repeat' (((conv => whnf); first | assumption | refine And.intro (by first | assumption | omega | (simp only [kd_si]; first | done | assumption | omega)) ?_ | (refine And.intro (fun _ => ?_) (fun _ => ?_) <;> first | (exfalso; omega) | skip) | intro _ | fail)))
  all_goals ((conv => whnf); rw [e₀]; exact And.intro rfl rfl)
set_option maxRecDepth 100000 in
theorem cX6_columns {D : mg_D} {l : Launch} (hl : l.stackTraces = false) {M : mg_M} {m₀ : Nat} (k7₀ : kd M m₀ = 7) : mg_Mt D l 141 [.inr (.inl m₀)] M (fun v₀ N => v₀ = some (.inl (gi M m₀ 2)) ∧ N = si M m₀ 0 0) mg_no := by
  refine mg_of2 hl ok_X6_columns al_X6_columns rfl (fun K hK₀ => ?_)
  have e₀ : gi (si M m₀ 0 0) m₀ 2 = gi M m₀ 2 := by rw [gi_si, if_neg (by omega)]
  refine hK₀ _ _ _ _ _ ?_
  (repeat' (((conv => whnf); first | assumption | refine And.intro (by first | assumption | omega | (simp only [kd_si]; first | done | assumption | omega)) ?_ | (refine And.intro (fun _ => ?_) (fun _ => ?_) <;> first | (exfalso; omega) | skip) | intro _ | fail)))
  all_goals ((conv => whnf); rw [e₀]; exact And.intro rfl rfl)
set_option maxRecDepth 100000 in
theorem cX6_cellCount {D : mg_D} {l : Launch} (hl : l.stackTraces = false) {M : mg_M} {m₀ : Nat} (k7₀ : kd M m₀ = 7) : mg_Mt D l 142 [.inr (.inl m₀)] M (fun v₀ N => v₀ = some (.inl (gi M m₀ 4)) ∧ N = si M m₀ 0 0) mg_no := by
  refine mg_of2 hl ok_X6_cellCount al_X6_cellCount rfl (fun K hK₀ => ?_)
  have e₀ : gi (si M m₀ 0 0) m₀ 4 = gi M m₀ 4 := by rw [gi_si, if_neg (by omega)]
  refine hK₀ _ _ _ _ _ ?_
  (repeat' (((conv => whnf); first | assumption | refine And.intro (by first | assumption | omega | (simp only [kd_si]; first | done | assumption | omega)) ?_ | (refine And.intro (fun _ => ?_) (fun _ => ?_) <;> first | (exfalso; omega) | skip) | intro _ | fail)))
  all_goals ((conv => whnf); rw [e₀]; exact And.intro rfl rfl)
set_option maxRecDepth 100000 in
theorem cX6_cellsBySquares {D : mg_D} {l : Launch} (hl : l.stackTraces = false) {M : mg_M} {m₀ : Nat} (k7₀ : kd M m₀ = 7) : mg_Mt D l 143 [.inr (.inl m₀)] M (fun v₀ N => v₀ = some (.inl (gi M m₀ 4)) ∧ N = si M m₀ 0 0) mg_no := by
  refine mg_of2 hl ok_X6_cellsBySquares al_X6_cellsBySquares rfl (fun K hK₀ => ?_)
  have e₀ : gi (si M m₀ 0 0) m₀ 4 = gi M m₀ 4 := by rw [gi_si, if_neg (by omega)]
  refine hK₀ _ _ _ _ _ ?_
  (repeat' (((conv => whnf); first | assumption | refine And.intro (by first | assumption | omega | (simp only [kd_si]; first | done | assumption | omega)) ?_ | (refine And.intro (fun _ => ?_) (fun _ => ?_) <;> first | (exfalso; omega) | skip) | intro _ | fail)))
  all_goals ((conv => whnf); rw [e₀]; exact And.intro rfl rfl)
set_option maxRecDepth 100000 in
theorem cX6_header {D : mg_D} {l : Launch} (hl : l.stackTraces = false) {M : mg_M} {m₀ : Nat} (k7₀ : kd M m₀ = 7) : mg_Mt D l 190 [.inr (.inl m₀)] M (fun v₀ N => v₀ = some (.inl (gi M m₀ 3)) ∧ N = si M m₀ 0 0) mg_no := by
  refine mg_of2 hl ok_X6_header al_X6_header rfl (fun K hK₀ => ?_)
  have e₀ : gi (si M m₀ 0 0) m₀ 3 = gi M m₀ 3 := by rw [gi_si, if_neg (by omega)]
  refine hK₀ _ _ _ _ _ ?_
  (repeat' (((conv => whnf); first | assumption | refine And.intro (by first | assumption | omega | (simp only [kd_si]; first | done | assumption | omega)) ?_ | (refine And.intro (fun _ => ?_) (fun _ => ?_) <;> first | (exfalso; omega) | skip) | intro _ | fail)))
  all_goals ((conv => whnf); rw [e₀]; exact And.intro rfl rfl)
set_option maxRecDepth 100000 in
theorem cX6_topOf0 {D : mg_D} {l : Launch} (hl : l.stackTraces = false) {M : mg_M} {m₀ : Nat} {r₀ c₀ T L₀ H₀ W₀ : Int} (st₀ : mm_st M m₀) (rc : mm_rc M m₀) (h₀ : mh_rg (gi M m₀ 1) (gi M m₀ 2) r₀ c₀) (hr : mm_rect M m₀ (mi M (m₀ + 1) r₀ c₀) T L₀ H₀ W₀) : mg_Mt D l 158 [.inr (.inl m₀), .inl r₀, .inl c₀] M (fun v₀ N => v₀ = some (.inl T) ∧ N = si M m₀ 0 0) mg_no := by
  refine mg_of2 hl ok_X6_topOf al_X6_topOf rfl (fun K hK₀ => ?_)
  have k7₀ := st₀.1
  have rc' := rc
  unfold mm_rc at rc'
  refine hK₀ _ _ _ _ _ ?_
  (repeat' (((conv => whnf); first | assumption | refine And.intro (by first | assumption | omega | (simp only [true_and]; first | done | assumption | omega)) ?_ | (refine And.intro (fun _ => ?_) (fun _ => ?_) <;> first | (exfalso; omega) | skip) | intro _ | fail)))
  (conv => whnf)
  refine Exists.intro _ (Exists.intro _ (And.intro (cX6_failsSquare0 hl st₀ rc h₀) (And.intro ?_ (fun _ _ h₀ => h₀.elim))))
  rintro _ P ⟨rfl, e₀⟩
  have f₀ := mm_f0 e₀
  have stP := mm_f_st f₀ st₀
  have k7P := stP.1
  have rcP := mm_rc_f f₀ (by omega) (by omega) rc
  have eid : mi P (m₀ + 1) r₀ c₀ = mi M (m₀ + 1) r₀ c₀ := mm_f_gi f₀ (m₀ + 1) _ (by omega)
  have rP : mm_rect P m₀ (mi P (m₀ + 1) r₀ c₀) T L₀ H₀ W₀ := by
    rw [eid]
    exact mm_rect_f (mm_f_gi f₀ m₀ 1 (by omega)) (mm_f_gi f₀ m₀ 2 (by omega)) (fun j₀ => mm_f_gi f₀ (m₀ + 1) j₀ (by omega)) hr
  (repeat' (((conv => whnf); first | assumption | refine And.intro (by first | assumption | omega | (simp only [true_and]; first | done | assumption | omega)) ?_ | (refine And.intro (fun _ => ?_) (fun _ => ?_) <;> first | (exfalso; omega) | skip) | intro _ | fail)))
  all_goals (try ((conv => whnf); (refine Exists.intro _ (Exists.intro _ (And.intro (cX6_id hl stP (by omega) (by omega)) (And.intro ?_ (fun _ _ h₀ => h₀.elim)))); rintro _ _ ⟨rfl, e₀⟩; have e2₀ := e₀.symm; clear e₀; subst e2₀); (repeat' (((conv => whnf); first | assumption | refine And.intro (by first | assumption | omega | (simp only [true_and]; first | done | assumption | omega)) ?_ | (refine And.intro (fun _ => ?_) (fun _ => ?_) <;> first | (exfalso; omega) | skip) | intro _ | fail)))))
  all_goals (try ((conv => whnf); (refine Exists.intro _ (Exists.intro _ (And.intro (cX6_topRow hl stP rcP rP) (And.intro ?_ (fun _ _ h₀ => h₀.elim)))); rintro _ _ ⟨rfl, e₀⟩; have e2₀ := e₀.symm; clear e₀; subst e2₀); (repeat' (((conv => whnf); first | assumption | refine And.intro (by first | assumption | omega | (simp only [true_and]; first | done | assumption | omega)) ?_ | (refine And.intro (fun _ => ?_) (fun _ => ?_) <;> first | (exfalso; omega) | skip) | intro _ | fail)))))
set_option maxRecDepth 100000 in
theorem cX6_leftOf0 {D : mg_D} {l : Launch} (hl : l.stackTraces = false) {M : mg_M} {m₀ : Nat} {r₀ c₀ T L₀ H₀ W₀ : Int} (st₀ : mm_st M m₀) (rc : mm_rc M m₀) (h₀ : mh_rg (gi M m₀ 1) (gi M m₀ 2) r₀ c₀) (hr : mm_rect M m₀ (mi M (m₀ + 1) r₀ c₀) T L₀ H₀ W₀) : mg_Mt D l 159 [.inr (.inl m₀), .inl r₀, .inl c₀] M (fun v₀ N => v₀ = some (.inl L₀) ∧ N = si M m₀ 0 0) mg_no := by
  refine mg_of2 hl ok_X6_leftOf al_X6_leftOf rfl (fun K hK₀ => ?_)
  have k7₀ := st₀.1
  have rc' := rc
  unfold mm_rc at rc'
  refine hK₀ _ _ _ _ _ ?_
  (repeat' (((conv => whnf); first | assumption | refine And.intro (by first | assumption | omega | (simp only [true_and]; first | done | assumption | omega)) ?_ | (refine And.intro (fun _ => ?_) (fun _ => ?_) <;> first | (exfalso; omega) | skip) | intro _ | fail)))
  (conv => whnf)
  refine Exists.intro _ (Exists.intro _ (And.intro (cX6_failsSquare0 hl st₀ rc h₀) (And.intro ?_ (fun _ _ h₀ => h₀.elim))))
  rintro _ P ⟨rfl, e₀⟩
  have f₀ := mm_f0 e₀
  have stP := mm_f_st f₀ st₀
  have k7P := stP.1
  have rcP := mm_rc_f f₀ (by omega) (by omega) rc
  have eid : mi P (m₀ + 1) r₀ c₀ = mi M (m₀ + 1) r₀ c₀ := mm_f_gi f₀ (m₀ + 1) _ (by omega)
  have rP : mm_rect P m₀ (mi P (m₀ + 1) r₀ c₀) T L₀ H₀ W₀ := by
    rw [eid]
    exact mm_rect_f (mm_f_gi f₀ m₀ 1 (by omega)) (mm_f_gi f₀ m₀ 2 (by omega)) (fun j₀ => mm_f_gi f₀ (m₀ + 1) j₀ (by omega)) hr
  (repeat' (((conv => whnf); first | assumption | refine And.intro (by first | assumption | omega | (simp only [true_and]; first | done | assumption | omega)) ?_ | (refine And.intro (fun _ => ?_) (fun _ => ?_) <;> first | (exfalso; omega) | skip) | intro _ | fail)))
  all_goals (try ((conv => whnf); (refine Exists.intro _ (Exists.intro _ (And.intro (cX6_id hl stP (by omega) (by omega)) (And.intro ?_ (fun _ _ h₀ => h₀.elim)))); rintro _ _ ⟨rfl, e₀⟩; have e2₀ := e₀.symm; clear e₀; subst e2₀); (repeat' (((conv => whnf); first | assumption | refine And.intro (by first | assumption | omega | (simp only [true_and]; first | done | assumption | omega)) ?_ | (refine And.intro (fun _ => ?_) (fun _ => ?_) <;> first | (exfalso; omega) | skip) | intro _ | fail)))))
  all_goals (try ((conv => whnf); (refine Exists.intro _ (Exists.intro _ (And.intro (cX6_leftCol hl stP rcP rP) (And.intro ?_ (fun _ _ h₀ => h₀.elim)))); rintro _ _ ⟨rfl, e₀⟩; have e2₀ := e₀.symm; clear e₀; subst e2₀); (repeat' (((conv => whnf); first | assumption | refine And.intro (by first | assumption | omega | (simp only [true_and]; first | done | assumption | omega)) ?_ | (refine And.intro (fun _ => ?_) (fun _ => ?_) <;> first | (exfalso; omega) | skip) | intro _ | fail)))))
set_option maxRecDepth 100000 in
theorem cX6_rowsOf0 {D : mg_D} {l : Launch} (hl : l.stackTraces = false) {M : mg_M} {m₀ : Nat} {r₀ c₀ T L₀ H₀ W₀ : Int} (st₀ : mm_st M m₀) (rc : mm_rc M m₀) (h₀ : mh_rg (gi M m₀ 1) (gi M m₀ 2) r₀ c₀) (hr : mm_rect M m₀ (mi M (m₀ + 1) r₀ c₀) T L₀ H₀ W₀) : mg_Mt D l 160 [.inr (.inl m₀), .inl r₀, .inl c₀] M (fun v₀ N => v₀ = some (.inl H₀) ∧ N = si M m₀ 0 0) mg_no := by
  refine mg_of2 hl ok_X6_rowsOf al_X6_rowsOf rfl (fun K hK₀ => ?_)
  have k7₀ := st₀.1
  have rc' := rc
  unfold mm_rc at rc'
  refine hK₀ _ _ _ _ _ ?_
  (repeat' (((conv => whnf); first | assumption | refine And.intro (by first | assumption | omega | (simp only [true_and]; first | done | assumption | omega)) ?_ | (refine And.intro (fun _ => ?_) (fun _ => ?_) <;> first | (exfalso; omega) | skip) | intro _ | fail)))
  (conv => whnf)
  refine Exists.intro _ (Exists.intro _ (And.intro (cX6_failsSquare0 hl st₀ rc h₀) (And.intro ?_ (fun _ _ h₀ => h₀.elim))))
  rintro _ P ⟨rfl, e₀⟩
  have f₀ := mm_f0 e₀
  have stP := mm_f_st f₀ st₀
  have k7P := stP.1
  have rcP := mm_rc_f f₀ (by omega) (by omega) rc
  have eid : mi P (m₀ + 1) r₀ c₀ = mi M (m₀ + 1) r₀ c₀ := mm_f_gi f₀ (m₀ + 1) _ (by omega)
  have rP : mm_rect P m₀ (mi P (m₀ + 1) r₀ c₀) T L₀ H₀ W₀ := by
    rw [eid]
    exact mm_rect_f (mm_f_gi f₀ m₀ 1 (by omega)) (mm_f_gi f₀ m₀ 2 (by omega)) (fun j₀ => mm_f_gi f₀ (m₀ + 1) j₀ (by omega)) hr
  (repeat' (((conv => whnf); first | assumption | refine And.intro (by first | assumption | omega | (simp only [true_and]; first | done | assumption | omega)) ?_ | (refine And.intro (fun _ => ?_) (fun _ => ?_) <;> first | (exfalso; omega) | skip) | intro _ | fail)))
  all_goals (try ((conv => whnf); (refine Exists.intro _ (Exists.intro _ (And.intro (cX6_id hl stP (by omega) (by omega)) (And.intro ?_ (fun _ _ h₀ => h₀.elim)))); rintro _ _ ⟨rfl, e₀⟩; have e2₀ := e₀.symm; clear e₀; subst e2₀); (repeat' (((conv => whnf); first | assumption | refine And.intro (by first | assumption | omega | (simp only [true_and]; first | done | assumption | omega)) ?_ | (refine And.intro (fun _ => ?_) (fun _ => ?_) <;> first | (exfalso; omega) | skip) | intro _ | fail)))))
  all_goals (try ((conv => whnf); (refine Exists.intro _ (Exists.intro _ (And.intro (cX6_rowMany hl stP rcP rP) (And.intro ?_ (fun _ _ h₀ => h₀.elim)))); rintro _ _ ⟨rfl, e₀⟩; have e2₀ := e₀.symm; clear e₀; subst e2₀); (repeat' (((conv => whnf); first | assumption | refine And.intro (by first | assumption | omega | (simp only [true_and]; first | done | assumption | omega)) ?_ | (refine And.intro (fun _ => ?_) (fun _ => ?_) <;> first | (exfalso; omega) | skip) | intro _ | fail)))))
set_option maxRecDepth 100000 in
theorem cX6_columnsOf0 {D : mg_D} {l : Launch} (hl : l.stackTraces = false) {M : mg_M} {m₀ : Nat} {r₀ c₀ T L₀ H₀ W₀ : Int} (st₀ : mm_st M m₀) (rc : mm_rc M m₀) (h₀ : mh_rg (gi M m₀ 1) (gi M m₀ 2) r₀ c₀) (hr : mm_rect M m₀ (mi M (m₀ + 1) r₀ c₀) T L₀ H₀ W₀) : mg_Mt D l 161 [.inr (.inl m₀), .inl r₀, .inl c₀] M (fun v₀ N => v₀ = some (.inl W₀) ∧ N = si M m₀ 0 0) mg_no := by
  refine mg_of2 hl ok_X6_columnsOf al_X6_columnsOf rfl (fun K hK₀ => ?_)
  have k7₀ := st₀.1
  have rc' := rc
  unfold mm_rc at rc'
  refine hK₀ _ _ _ _ _ ?_
  (repeat' (((conv => whnf); first | assumption | refine And.intro (by first | assumption | omega | (simp only [true_and]; first | done | assumption | omega)) ?_ | (refine And.intro (fun _ => ?_) (fun _ => ?_) <;> first | (exfalso; omega) | skip) | intro _ | fail)))
  (conv => whnf)
  refine Exists.intro _ (Exists.intro _ (And.intro (cX6_failsSquare0 hl st₀ rc h₀) (And.intro ?_ (fun _ _ h₀ => h₀.elim))))
  rintro _ P ⟨rfl, e₀⟩
  have f₀ := mm_f0 e₀
  have stP := mm_f_st f₀ st₀
  have k7P := stP.1
  have rcP := mm_rc_f f₀ (by omega) (by omega) rc
  have eid : mi P (m₀ + 1) r₀ c₀ = mi M (m₀ + 1) r₀ c₀ := mm_f_gi f₀ (m₀ + 1) _ (by omega)
  have rP : mm_rect P m₀ (mi P (m₀ + 1) r₀ c₀) T L₀ H₀ W₀ := by
    rw [eid]
    exact mm_rect_f (mm_f_gi f₀ m₀ 1 (by omega)) (mm_f_gi f₀ m₀ 2 (by omega)) (fun j₀ => mm_f_gi f₀ (m₀ + 1) j₀ (by omega)) hr
  (repeat' (((conv => whnf); first | assumption | refine And.intro (by first | assumption | omega | (simp only [true_and]; first | done | assumption | omega)) ?_ | (refine And.intro (fun _ => ?_) (fun _ => ?_) <;> first | (exfalso; omega) | skip) | intro _ | fail)))
  all_goals (try ((conv => whnf); (refine Exists.intro _ (Exists.intro _ (And.intro (cX6_id hl stP (by omega) (by omega)) (And.intro ?_ (fun _ _ h₀ => h₀.elim)))); rintro _ _ ⟨rfl, e₀⟩; have e2₀ := e₀.symm; clear e₀; subst e2₀); (repeat' (((conv => whnf); first | assumption | refine And.intro (by first | assumption | omega | (simp only [true_and]; first | done | assumption | omega)) ?_ | (refine And.intro (fun _ => ?_) (fun _ => ?_) <;> first | (exfalso; omega) | skip) | intro _ | fail)))))
  all_goals (try ((conv => whnf); (refine Exists.intro _ (Exists.intro _ (And.intro (cX6_colMany hl stP rcP rP) (And.intro ?_ (fun _ _ h₀ => h₀.elim)))); rintro _ _ ⟨rfl, e₀⟩; have e2₀ := e₀.symm; clear e₀; subst e2₀); (repeat' (((conv => whnf); first | assumption | refine And.intro (by first | assumption | omega | (simp only [true_and]; first | done | assumption | omega)) ?_ | (refine And.intro (fun _ => ?_) (fun _ => ?_) <;> first | (exfalso; omega) | skip) | intro _ | fail)))))
set_option maxRecDepth 100000 in
theorem cX6_topOf1 {D : mg_D} {l : Launch} (hl : l.stackTraces = false) {M : mg_M} {m₀ : Nat} {r₀ c₀ : Int} (st₀ : mm_st M m₀) (rc : mm_rc M m₀) (h₀ : ¬ mh_rg (gi M m₀ 1) (gi M m₀ 2) r₀ c₀) : mg_Mt D l 158 [.inr (.inl m₀), .inl r₀, .inl c₀] M (fun v₀ N => v₀ = some (.inl 0) ∧ N = si M m₀ 0 1) mg_no := by
  refine mg_of2 hl ok_X6_topOf al_X6_topOf rfl (fun K hK₀ => ?_)
  have k7₀ := st₀.1
  refine hK₀ _ _ _ _ _ ?_
  (repeat' (((conv => whnf); first | assumption | refine And.intro (by first | assumption | omega | (simp only [true_and]; first | done | assumption | omega)) ?_ | (refine And.intro (fun _ => ?_) (fun _ => ?_) <;> first | (exfalso; omega) | skip) | intro _ | fail)))
  all_goals (try ((conv => whnf); (refine Exists.intro _ (Exists.intro _ (And.intro (cX6_failsSquare1 hl st₀ rc h₀) (And.intro ?_ (fun _ _ h₀ => h₀.elim)))); rintro _ _ ⟨rfl, e₀⟩; have e2₀ := e₀.symm; clear e₀; subst e2₀); (repeat' (((conv => whnf); first | assumption | refine And.intro (by first | assumption | omega | (simp only [true_and]; first | done | assumption | omega)) ?_ | (refine And.intro (fun _ => ?_) (fun _ => ?_) <;> first | (exfalso; omega) | skip) | intro _ | fail)))))
  all_goals ((conv => whnf) <;> first | rfl | exact And.intro rfl rfl)
set_option maxRecDepth 100000 in
theorem cX6_leftOf1 {D : mg_D} {l : Launch} (hl : l.stackTraces = false) {M : mg_M} {m₀ : Nat} {r₀ c₀ : Int} (st₀ : mm_st M m₀) (rc : mm_rc M m₀) (h₀ : ¬ mh_rg (gi M m₀ 1) (gi M m₀ 2) r₀ c₀) : mg_Mt D l 159 [.inr (.inl m₀), .inl r₀, .inl c₀] M (fun v₀ N => v₀ = some (.inl 0) ∧ N = si M m₀ 0 1) mg_no := by
  refine mg_of2 hl ok_X6_leftOf al_X6_leftOf rfl (fun K hK₀ => ?_)
  have k7₀ := st₀.1
  refine hK₀ _ _ _ _ _ ?_
  (repeat' (((conv => whnf); first | assumption | refine And.intro (by first | assumption | omega | (simp only [true_and]; first | done | assumption | omega)) ?_ | (refine And.intro (fun _ => ?_) (fun _ => ?_) <;> first | (exfalso; omega) | skip) | intro _ | fail)))
  all_goals (try ((conv => whnf); (refine Exists.intro _ (Exists.intro _ (And.intro (cX6_failsSquare1 hl st₀ rc h₀) (And.intro ?_ (fun _ _ h₀ => h₀.elim)))); rintro _ _ ⟨rfl, e₀⟩; have e2₀ := e₀.symm; clear e₀; subst e2₀); (repeat' (((conv => whnf); first | assumption | refine And.intro (by first | assumption | omega | (simp only [true_and]; first | done | assumption | omega)) ?_ | (refine And.intro (fun _ => ?_) (fun _ => ?_) <;> first | (exfalso; omega) | skip) | intro _ | fail)))))
  all_goals ((conv => whnf) <;> first | rfl | exact And.intro rfl rfl)
set_option maxRecDepth 100000 in
theorem cX6_rowsOf1 {D : mg_D} {l : Launch} (hl : l.stackTraces = false) {M : mg_M} {m₀ : Nat} {r₀ c₀ : Int} (st₀ : mm_st M m₀) (rc : mm_rc M m₀) (h₀ : ¬ mh_rg (gi M m₀ 1) (gi M m₀ 2) r₀ c₀) : mg_Mt D l 160 [.inr (.inl m₀), .inl r₀, .inl c₀] M (fun v₀ N => v₀ = some (.inl 0) ∧ N = si M m₀ 0 1) mg_no := by
  refine mg_of2 hl ok_X6_rowsOf al_X6_rowsOf rfl (fun K hK₀ => ?_)
  have k7₀ := st₀.1
  refine hK₀ _ _ _ _ _ ?_
  (repeat' (((conv => whnf); first | assumption | refine And.intro (by first | assumption | omega | (simp only [true_and]; first | done | assumption | omega)) ?_ | (refine And.intro (fun _ => ?_) (fun _ => ?_) <;> first | (exfalso; omega) | skip) | intro _ | fail)))
  all_goals (try ((conv => whnf); (refine Exists.intro _ (Exists.intro _ (And.intro (cX6_failsSquare1 hl st₀ rc h₀) (And.intro ?_ (fun _ _ h₀ => h₀.elim)))); rintro _ _ ⟨rfl, e₀⟩; have e2₀ := e₀.symm; clear e₀; subst e2₀); (repeat' (((conv => whnf); first | assumption | refine And.intro (by first | assumption | omega | (simp only [true_and]; first | done | assumption | omega)) ?_ | (refine And.intro (fun _ => ?_) (fun _ => ?_) <;> first | (exfalso; omega) | skip) | intro _ | fail)))))
  all_goals ((conv => whnf) <;> first | rfl | exact And.intro rfl rfl)
set_option maxRecDepth 100000 in
theorem cX6_columnsOf1 {D : mg_D} {l : Launch} (hl : l.stackTraces = false) {M : mg_M} {m₀ : Nat} {r₀ c₀ : Int} (st₀ : mm_st M m₀) (rc : mm_rc M m₀) (h₀ : ¬ mh_rg (gi M m₀ 1) (gi M m₀ 2) r₀ c₀) : mg_Mt D l 161 [.inr (.inl m₀), .inl r₀, .inl c₀] M (fun v₀ N => v₀ = some (.inl 0) ∧ N = si M m₀ 0 1) mg_no := by
  refine mg_of2 hl ok_X6_columnsOf al_X6_columnsOf rfl (fun K hK₀ => ?_)
  have k7₀ := st₀.1
  refine hK₀ _ _ _ _ _ ?_
  (repeat' (((conv => whnf); first | assumption | refine And.intro (by first | assumption | omega | (simp only [true_and]; first | done | assumption | omega)) ?_ | (refine And.intro (fun _ => ?_) (fun _ => ?_) <;> first | (exfalso; omega) | skip) | intro _ | fail)))
  all_goals (try ((conv => whnf); (refine Exists.intro _ (Exists.intro _ (And.intro (cX6_failsSquare1 hl st₀ rc h₀) (And.intro ?_ (fun _ _ h₀ => h₀.elim)))); rintro _ _ ⟨rfl, e₀⟩; have e2₀ := e₀.symm; clear e₀; subst e2₀); (repeat' (((conv => whnf); first | assumption | refine And.intro (by first | assumption | omega | (simp only [true_and]; first | done | assumption | omega)) ?_ | (refine And.intro (fun _ => ?_) (fun _ => ?_) <;> first | (exfalso; omega) | skip) | intro _ | fail)))))
  all_goals ((conv => whnf) <;> first | rfl | exact And.intro rfl rfl)
set_option maxRecDepth 100000 in
theorem cX6_contentAt1 {D : mg_D} {l : Launch} (hl : l.stackTraces = false) {M : mg_M} {m₀ : Nat} {r₀ c₀ : Int} (st₀ : mm_st M m₀) (rc : mm_rc M m₀) (h₀ : ¬ mh_rg (gi M m₀ 1) (gi M m₀ 2) r₀ c₀) : mg_Mt D l 162 [.inr (.inl m₀), .inl r₀, .inl c₀] M (fun v₀ N => v₀ = some (.inl 0) ∧ N = si M m₀ 0 1) mg_no := by
  refine mg_of2 hl ok_X6_contentAt al_X6_contentAt rfl (fun K hK₀ => ?_)
  have k7₀ := st₀.1
  refine hK₀ _ _ _ _ _ ?_
  (repeat' (((conv => whnf); first | assumption | refine And.intro (by first | assumption | omega | (simp only [true_and]; first | done | assumption | omega)) ?_ | (refine And.intro (fun _ => ?_) (fun _ => ?_) <;> first | (exfalso; omega) | skip) | intro _ | fail)))
  all_goals (try ((conv => whnf); (refine Exists.intro _ (Exists.intro _ (And.intro (cX6_failsSquare1 hl st₀ rc h₀) (And.intro ?_ (fun _ _ h₀ => h₀.elim)))); rintro _ _ ⟨rfl, e₀⟩; have e2₀ := e₀.symm; clear e₀; subst e2₀); (repeat' (((conv => whnf); first | assumption | refine And.intro (by first | assumption | omega | (simp only [true_and]; first | done | assumption | omega)) ?_ | (refine And.intro (fun _ => ?_) (fun _ => ?_) <;> first | (exfalso; omega) | skip) | intro _ | fail)))))
  all_goals ((conv => whnf) <;> first | rfl | exact And.intro rfl rfl)
set_option maxRecDepth 100000 in
theorem cX6_styleAt1 {D : mg_D} {l : Launch} (hl : l.stackTraces = false) {M : mg_M} {m₀ : Nat} {r₀ c₀ : Int} (st₀ : mm_st M m₀) (rc : mm_rc M m₀) (h₀ : ¬ mh_rg (gi M m₀ 1) (gi M m₀ 2) r₀ c₀) : mg_Mt D l 163 [.inr (.inl m₀), .inl r₀, .inl c₀] M (fun v₀ N => v₀ = some (.inl 0) ∧ N = si M m₀ 0 1) mg_no := by
  refine mg_of2 hl ok_X6_styleAt al_X6_styleAt rfl (fun K hK₀ => ?_)
  have k7₀ := st₀.1
  refine hK₀ _ _ _ _ _ ?_
  (repeat' (((conv => whnf); first | assumption | refine And.intro (by first | assumption | omega | (simp only [true_and]; first | done | assumption | omega)) ?_ | (refine And.intro (fun _ => ?_) (fun _ => ?_) <;> first | (exfalso; omega) | skip) | intro _ | fail)))
  all_goals (try ((conv => whnf); (refine Exists.intro _ (Exists.intro _ (And.intro (cX6_failsSquare1 hl st₀ rc h₀) (And.intro ?_ (fun _ _ h₀ => h₀.elim)))); rintro _ _ ⟨rfl, e₀⟩; have e2₀ := e₀.symm; clear e₀; subst e2₀); (repeat' (((conv => whnf); first | assumption | refine And.intro (by first | assumption | omega | (simp only [true_and]; first | done | assumption | omega)) ?_ | (refine And.intro (fun _ => ?_) (fun _ => ?_) <;> first | (exfalso; omega) | skip) | intro _ | fail)))))
  all_goals ((conv => whnf) <;> first | rfl | exact And.intro rfl rfl)
set_option maxRecDepth 100000 in
theorem cX6_sizeOf1 {D : mg_D} {l : Launch} (hl : l.stackTraces = false) {M : mg_M} {m₀ : Nat} {r₀ c₀ : Int} (st₀ : mm_st M m₀) (rc : mm_rc M m₀) (h₀ : ¬ mh_rg (gi M m₀ 1) (gi M m₀ 2) r₀ c₀) : mg_Mt D l 199 [.inr (.inl m₀), .inl r₀, .inl c₀] M (fun v₀ N => v₀ = some (.inl 0) ∧ N = si M m₀ 0 1) mg_no := by
  refine mg_of2 hl ok_X6_sizeOf al_X6_sizeOf rfl (fun K hK₀ => ?_)
  have k7₀ := st₀.1
  refine hK₀ _ _ _ _ _ ?_
  (repeat' (((conv => whnf); first | assumption | refine And.intro (by first | assumption | omega | (simp only [true_and]; first | done | assumption | omega)) ?_ | (refine And.intro (fun _ => ?_) (fun _ => ?_) <;> first | (exfalso; omega) | skip) | intro _ | fail)))
  all_goals (try ((conv => whnf); (refine Exists.intro _ (Exists.intro _ (And.intro (cX6_failsSquare1 hl st₀ rc h₀) (And.intro ?_ (fun _ _ h₀ => h₀.elim)))); rintro _ _ ⟨rfl, e₀⟩; have e2₀ := e₀.symm; clear e₀; subst e2₀); (repeat' (((conv => whnf); first | assumption | refine And.intro (by first | assumption | omega | (simp only [true_and]; first | done | assumption | omega)) ?_ | (refine And.intro (fun _ => ?_) (fun _ => ?_) <;> first | (exfalso; omega) | skip) | intro _ | fail)))))
  all_goals ((conv => whnf) <;> first | rfl | exact And.intro rfl rfl)
set_option maxRecDepth 100000 in
theorem cX6_contentAt0 {D : mg_D} {l : Launch} (hl : l.stackTraces = false) {M : mg_M} {m₀ : Nat} {r₀ c₀ : Int} (st₀ : mm_st M m₀) (rc : mm_rc M m₀) (h₀ : mh_rg (gi M m₀ 1) (gi M m₀ 2) r₀ c₀) (hr : 0 ≤ mi M (m₀ + 1) r₀ c₀ ∧ mi M (m₀ + 1) r₀ c₀ < 140) : mg_Mt D l 162 [.inr (.inl m₀), .inl r₀, .inl c₀] M (fun v₀ N => v₀ = some (.inl (gi M (m₀ + 2) (mi M (m₀ + 1) r₀ c₀).toNat)) ∧ N = si M m₀ 0 0) mg_no := by
  refine mg_of2 hl ok_X6_contentAt al_X6_contentAt rfl (fun K hK₀ => ?_)
  have k7₀ := st₀.1
  obtain ⟨a6, b6, c6₀⟩ := st₀.2.1.2.1
  have rc' := rc
  unfold mm_rc at rc'
  refine hK₀ _ _ _ _ _ ?_
  (repeat' (((conv => whnf); first | assumption | refine And.intro (by first | assumption | omega | (simp only [true_and, a6, b6, c6₀]; first | done | assumption | omega)) ?_ | (refine And.intro (fun _ => ?_) (fun _ => ?_) <;> first | (exfalso; omega) | skip) | intro _ | fail)))
  (conv => whnf)
  refine Exists.intro _ (Exists.intro _ (And.intro (cX6_failsSquare0 hl st₀ rc h₀) (And.intro ?_ (fun _ _ h₀ => h₀.elim))))
  rintro _ P ⟨rfl, e₀⟩
  have f₀ := mm_f0 e₀
  have stP := mm_f_st f₀ st₀
  have k7P := stP.1
  have eid : mi P (m₀ + 1) r₀ c₀ = mi M (m₀ + 1) r₀ c₀ := mm_f_gi f₀ (m₀ + 1) _ (by omega)
  have eco : gi P (m₀ + 2) (mi M (m₀ + 1) r₀ c₀).toNat = gi M (m₀ + 2) (mi M (m₀ + 1) r₀ c₀).toNat := mm_f_gi f₀ (m₀ + 2) _ (by omega)
  obtain ⟨a6, b6, c6₀⟩ := stP.2.1.2.1
  (repeat' (((conv => whnf); first | assumption | refine And.intro (by first | assumption | omega | (simp only [true_and, a6, b6, c6₀]; first | done | assumption | omega)) ?_ | (refine And.intro (fun _ => ?_) (fun _ => ?_) <;> first | (exfalso; omega) | skip) | intro _ | fail)))
  all_goals (try ((conv => whnf); (refine Exists.intro _ (Exists.intro _ (And.intro (cX6_id hl stP (by omega) (by omega)) (And.intro ?_ (fun _ _ h₀ => h₀.elim)))); rintro _ _ ⟨rfl, e₀⟩; have e2₀ := e₀.symm; clear e₀; subst e2₀); (repeat' (((conv => whnf); first | assumption | refine And.intro (by first | assumption | omega | (simp only [true_and, a6, b6, c6₀]; first | done | assumption | omega)) ?_ | (refine And.intro (fun _ => ?_) (fun _ => ?_) <;> first | (exfalso; omega) | skip) | intro _ | fail)))))
  all_goals ((conv => whnf); refine And.intro ?_ e₀; rw [a6, eid, eco])
set_option maxRecDepth 100000 in
theorem cX6_styleAt0 {D : mg_D} {l : Launch} (hl : l.stackTraces = false) {M : mg_M} {m₀ : Nat} {r₀ c₀ : Int} (st₀ : mm_st M m₀) (rc : mm_rc M m₀) (h₀ : mh_rg (gi M m₀ 1) (gi M m₀ 2) r₀ c₀) (hr : 0 ≤ mi M (m₀ + 1) r₀ c₀ ∧ mi M (m₀ + 1) r₀ c₀ < 140) : mg_Mt D l 163 [.inr (.inl m₀), .inl r₀, .inl c₀] M (fun v₀ N => v₀ = some (.inl (gi M (m₀ + 3) (mi M (m₀ + 1) r₀ c₀).toNat)) ∧ N = si M m₀ 0 0) mg_no := by
  refine mg_of2 hl ok_X6_styleAt al_X6_styleAt rfl (fun K hK₀ => ?_)
  have k7₀ := st₀.1
  obtain ⟨a6, b6, c6₀⟩ := st₀.2.1.2.2.1
  have rc' := rc
  unfold mm_rc at rc'
  refine hK₀ _ _ _ _ _ ?_
  (repeat' (((conv => whnf); first | assumption | refine And.intro (by first | assumption | omega | (simp only [true_and, a6, b6, c6₀]; first | done | assumption | omega)) ?_ | (refine And.intro (fun _ => ?_) (fun _ => ?_) <;> first | (exfalso; omega) | skip) | intro _ | fail)))
  (conv => whnf)
  refine Exists.intro _ (Exists.intro _ (And.intro (cX6_failsSquare0 hl st₀ rc h₀) (And.intro ?_ (fun _ _ h₀ => h₀.elim))))
  rintro _ P ⟨rfl, e₀⟩
  have f₀ := mm_f0 e₀
  have stP := mm_f_st f₀ st₀
  have k7P := stP.1
  have eid : mi P (m₀ + 1) r₀ c₀ = mi M (m₀ + 1) r₀ c₀ := mm_f_gi f₀ (m₀ + 1) _ (by omega)
  have eco : gi P (m₀ + 3) (mi M (m₀ + 1) r₀ c₀).toNat = gi M (m₀ + 3) (mi M (m₀ + 1) r₀ c₀).toNat := mm_f_gi f₀ (m₀ + 3) _ (by omega)
  obtain ⟨a6, b6, c6₀⟩ := stP.2.1.2.2.1
  (repeat' (((conv => whnf); first | assumption | refine And.intro (by first | assumption | omega | (simp only [true_and, a6, b6, c6₀]; first | done | assumption | omega)) ?_ | (refine And.intro (fun _ => ?_) (fun _ => ?_) <;> first | (exfalso; omega) | skip) | intro _ | fail)))
  all_goals (try ((conv => whnf); (refine Exists.intro _ (Exists.intro _ (And.intro (cX6_id hl stP (by omega) (by omega)) (And.intro ?_ (fun _ _ h₀ => h₀.elim)))); rintro _ _ ⟨rfl, e₀⟩; have e2₀ := e₀.symm; clear e₀; subst e2₀); (repeat' (((conv => whnf); first | assumption | refine And.intro (by first | assumption | omega | (simp only [true_and, a6, b6, c6₀]; first | done | assumption | omega)) ?_ | (refine And.intro (fun _ => ?_) (fun _ => ?_) <;> first | (exfalso; omega) | skip) | intro _ | fail)))))
  all_goals ((conv => whnf); refine And.intro ?_ e₀; rw [a6, eid, eco])
set_option maxRecDepth 100000 in
theorem cX6_select1 {D : mg_D} {l : Launch} (hl : l.stackTraces = false) {M : mg_M} {m₀ : Nat} {r₀ c₀ r' c' : Int} (st₀ : mm_st M m₀) (rc : mm_rc M m₀) (h₀ : ¬ (mh_rg (gi M m₀ 1) (gi M m₀ 2) r₀ c₀ ∧ mh_rg (gi M m₀ 1) (gi M m₀ 2) r' c')) : mg_Mt D l 167 [.inr (.inl m₀), .inl r₀, .inl c₀, .inl r', .inl c'] M (fun v₀ N => v₀ = some (.inl 0) ∧ N = si M m₀ 0 1) mg_no := by
  refine mg_of2 hl ok_X6_select al_X6_select rfl (fun K hK₀ => ?_)
  have k7₀ := st₀.1
  refine hK₀ _ _ _ _ _ ?_
  (repeat' (((conv => whnf); first | assumption | refine And.intro (by first | assumption | omega | (simp only [true_and]; first | done | assumption | omega)) ?_ | (refine And.intro (fun _ => ?_) (fun _ => ?_) <;> first | (exfalso; omega) | skip) | intro _ | fail)))
  all_goals (try ((conv => whnf); (refine Exists.intro _ (Exists.intro _ (And.intro (cX6_failsTwo1 hl st₀ rc h₀) (And.intro ?_ (fun _ _ h₀ => h₀.elim)))); rintro _ _ ⟨rfl, e₀⟩; have e2₀ := e₀.symm; clear e₀; subst e2₀); (repeat' (((conv => whnf); first | assumption | refine And.intro (by first | assumption | omega | (simp only [true_and]; first | done | assumption | omega)) ?_ | (refine And.intro (fun _ => ?_) (fun _ => ?_) <;> first | (exfalso; omega) | skip) | intro _ | fail)))))
  all_goals ((conv => whnf) <;> first | rfl | exact And.intro rfl rfl)
set_option maxRecDepth 100000 in
theorem cX6_squaresFor1 {D : mg_D} {l : Launch} (hl : l.stackTraces = false) {M : mg_M} {m₀ : Nat} {r₀ c₀ r' c' : Int} (st₀ : mm_st M m₀) (rc : mm_rc M m₀) (h₀ : ¬ (mh_rg (gi M m₀ 1) (gi M m₀ 2) r₀ c₀ ∧ mh_rg (gi M m₀ 1) (gi M m₀ 2) r' c')) : mg_Mt D l 171 [.inr (.inl m₀), .inl r₀, .inl c₀, .inl r', .inl c'] M (fun v₀ N => v₀ = some (.inl 0) ∧ N = si M m₀ 0 1) mg_no := by
  refine mg_of2 hl ok_X6_squaresFor al_X6_squaresFor rfl (fun K hK₀ => ?_)
  have k7₀ := st₀.1
  refine hK₀ _ _ _ _ _ ?_
  (repeat' (((conv => whnf); first | assumption | refine And.intro (by first | assumption | omega | (simp only [true_and]; first | done | assumption | omega)) ?_ | (refine And.intro (fun _ => ?_) (fun _ => ?_) <;> first | (exfalso; omega) | skip) | intro _ | fail)))
  all_goals (try ((conv => whnf); (refine Exists.intro _ (Exists.intro _ (And.intro (cX6_failsTwo1 hl st₀ rc h₀) (And.intro ?_ (fun _ _ h₀ => h₀.elim)))); rintro _ _ ⟨rfl, e₀⟩; have e2₀ := e₀.symm; clear e₀; subst e2₀); (repeat' (((conv => whnf); first | assumption | refine And.intro (by first | assumption | omega | (simp only [true_and]; first | done | assumption | omega)) ?_ | (refine And.intro (fun _ => ?_) (fun _ => ?_) <;> first | (exfalso; omega) | skip) | intro _ | fail)))))
  all_goals ((conv => whnf) <;> first | rfl | exact And.intro rfl rfl)
theorem mh_area {f₀ t₀ a₀ b₀ : Int} (h1 : 0 ≤ f₀ ∧ f₀ ≤ t₀ ∧ t₀ < 20) (h2 : 0 ≤ a₀ ∧ a₀ ≤ b₀ ∧ b₀ < 20) : 0 ≤ (t₀ - f₀ + 1) * (b₀ - a₀ + 1) ∧ (t₀ - f₀ + 1) * (b₀ - a₀ + 1) ≤ 400 := mh_mulb (by omega) (by omega)
set_option maxRecDepth 100000 in
theorem cX6_select0 {D : mg_D} {l : Launch} (hl : l.stackTraces = false) {M : mg_M} {m₀ : Nat} {tp lf₀ hg wd : Int → Int} {r₀ c₀ r' c' : Int} (st₀ : mm_st M m₀) (rc : mm_rc M m₀) (h4 : gi M m₀ 4 ≤ 140) (rt : mm_RT M m₀ tp lf₀ hg wd) (h₀ : mh_rg (gi M m₀ 1) (gi M m₀ 2) r₀ c₀) (h' : mh_rg (gi M m₀ 1) (gi M m₀ 2) r' c') : mg_Mt D l 167 [.inr (.inl m₀), .inl r₀, .inl c₀, .inl r', .inl c'] M (fun v₀ N => v₀ = some (.inl ((gi N m₀ 22 - gi N m₀ 21 + 1) * (gi N m₀ 24 - gi N m₀ 23 + 1))) ∧ mm_f (fun b₀ k₀ => b₀ = m₀ ∧ (k₀ = 0 ∨ (32 ≤ k₀ ∧ k₀ ≤ 35) ∨ (21 ≤ k₀ ∧ k₀ ≤ 24))) M N ∧ gi N m₀ 0 = 0 ∧ mm_si N m₀ ∧ mh_hull (mm_cl (gi M m₀ 4) tp lf₀ hg wd) (min r₀ r') (max r₀ r') (min c₀ c') (max c₀ c') (gi N m₀ 21) (gi N m₀ 22) (gi N m₀ 23) (gi N m₀ 24)) mg_no := by
  refine mg_of2 hl ok_X6_select al_X6_select rfl (fun K hK₀ => ?_)
  have k7₀ := st₀.1
  have rc' := rc
  unfold mm_rc at rc'
  refine hK₀ _ _ _ _ _ ?_
  (repeat' (((conv => whnf); first | assumption | refine And.intro (by first | assumption | omega | (simp only [true_and]; first | done | assumption | omega)) ?_ | (refine And.intro (fun _ => ?_) (fun _ => ?_) <;> first | (exfalso; omega) | skip) | intro _ | fail)))
  (conv => whnf)
  refine Exists.intro _ (Exists.intro _ (And.intro (cX6_failsTwo0 hl st₀ rc h₀ h') (And.intro ?_ (fun _ _ h₀ => h₀.elim))))
  rintro _ P ⟨rfl, e₀⟩
  have f₀ := mm_f0 e₀
  have stP := mm_f_st f₀ st₀
  have k7P := stP.1
  have rcP := mm_rc_f f₀ (by omega) (by omega) rc
  have t1₀ := mm_f_gi f₀ m₀ 1 (by omega)
  have t2₀ := mm_f_gi f₀ m₀ 2 (by omega)
  have t4₀ := mm_f_gi f₀ m₀ 4 (by omega)
  have rP := mm_RT_f f₀ (by omega) (by omega) (by omega) (fun j₀ => by omega) rt
  (repeat' (((conv => whnf); first | assumption | refine And.intro (by first | assumption | omega | (simp only [true_and]; first | done | assumption | omega)) ?_ | (refine And.intro (fun _ => ?_) (fun _ => ?_) <;> first | (exfalso; omega) | skip) | intro _ | fail)))
  (conv => whnf)
  refine Exists.intro _ (Exists.intro _ (And.intro (cX6_spans hl stP rcP (by omega) rP (by omega) (by omega) (by omega) (by omega)) (And.intro ?_ (fun _ _ h₀ => h₀.elim))))
  rintro _ P2₀ ⟨rfl, f2₀, ai, hu⟩
  have k7P2 := (mm_f_st f2₀ stP).1
  (repeat' (((conv => whnf); first | assumption | refine And.intro (by first | assumption | omega | (simp only [true_and]; first | done | assumption | omega)) ?_ | (refine And.intro (fun _ => ?_) (fun _ => ?_) <;> first | (exfalso; omega) | skip) | intro _ | fail)))
  (conv => whnf)
  refine Exists.intro _ (Exists.intro _ (And.intro (cX6_selects hl k7P2) (And.intro ?_ (fun _ _ h₀ => h₀.elim))))
  rintro _ P3 ⟨rfl, f3₀, e1₀, e2₀, e3₀, e4₀⟩
  have k7P3 := (mm_f_st f3₀ (mm_f_st f2₀ stP)).1
  have z1 := mm_f_gi f3₀ m₀ 1 (by omega)
  have z2 := mm_f_gi f3₀ m₀ 2 (by omega)
  have z0 := mm_f_gi f3₀ m₀ 0 (by omega)
  have y0 := mm_f_gi f2₀ m₀ 0 (by omega)
  have x0₀ : gi P m₀ 0 = 0 := by rw [e₀, gi_si, if_pos ⟨rfl, rfl⟩]
  have y1 := mm_f_gi f2₀ m₀ 1 (by omega)
  have y2 := mm_f_gi f2₀ m₀ 2 (by omega)
  have z32 := mm_f_gi f2₀ m₀ 0 (by omega)
  have ar := @mh_area (gi P2₀ m₀ 32) (gi P2₀ m₀ 33) (gi P2₀ m₀ 34) (gi P2₀ m₀ 35) (by omega) (by omega)
  have q1₀ := mm_f_gi f3₀ m₀ 32 (by omega)
  have q2₀ := mm_f_gi f3₀ m₀ 33 (by omega)
  have q3₀ := mm_f_gi f3₀ m₀ 34 (by omega)
  have q4₀ := mm_f_gi f3₀ m₀ 35 (by omega)
  have Q₀ : mm_f (fun b₀ k₀ => b₀ = m₀ ∧ (k₀ = 0 ∨ (32 ≤ k₀ ∧ k₀ ≤ 35) ∨ (21 ≤ k₀ ∧ k₀ ≤ 24))) M P3 ∧ gi P3 m₀ 0 = 0 ∧ mm_si P3 m₀ ∧ mh_hull (mm_cl (gi M m₀ 4) tp lf₀ hg wd) (min r₀ r') (max r₀ r') (min c₀ c') (max c₀ c') (gi P3 m₀ 21) (gi P3 m₀ 22) (gi P3 m₀ 23) (gi P3 m₀ 24) := by
    refine ⟨mm_f_tr (mm_f_tr (mm_f_mono f₀ (fun b₀ k₀ h₀ => by omega)) (mm_f_mono f2₀ (fun b₀ k₀ h₀ => by omega))) (mm_f_mono f3₀ (fun b₀ k₀ h₀ => by omega)), by omega, by omega, ?_⟩
    rw [e1₀, e2₀, e3₀, e4₀, ← t4₀]
    exact hu
  have ar2 : 0 ≤ (gi P3 m₀ 33 - gi P3 m₀ 32 + 1) * (gi P3 m₀ 35 - gi P3 m₀ 34 + 1) ∧ (gi P3 m₀ 33 - gi P3 m₀ 32 + 1) * (gi P3 m₀ 35 - gi P3 m₀ 34 + 1) ≤ 400 := by rw [q1₀, q2₀, q3₀, q4₀]; exact ar
  have ev₀ : some (Sum.inl ((gi P3 m₀ 33 - gi P3 m₀ 32 + 1) * (gi P3 m₀ 35 - gi P3 m₀ 34 + 1)) : mg_V) = some (.inl ((gi P3 m₀ 22 - gi P3 m₀ 21 + 1) * (gi P3 m₀ 24 - gi P3 m₀ 23 + 1))) := by rw [q1₀, q2₀, q3₀, q4₀, e1₀, e2₀, e3₀, e4₀]
  have Q2₀ := And.intro ev₀ Q₀
  (repeat' (((conv => whnf); first | assumption | refine And.intro (by first | assumption | omega | (simp only [true_and]; first | done | assumption | omega)) ?_ | (refine And.intro (fun _ => ?_) (fun _ => ?_) <;> first | (exfalso; omega) | skip) | intro _ | fail)))
set_option maxRecDepth 100000 in
theorem cX6_squaresFor0 {D : mg_D} {l : Launch} (hl : l.stackTraces = false) {M : mg_M} {m₀ : Nat} {tp lf₀ hg wd : Int → Int} {r₀ c₀ r' c' : Int} (st₀ : mm_st M m₀) (rc : mm_rc M m₀) (h4 : gi M m₀ 4 ≤ 140) (rt : mm_RT M m₀ tp lf₀ hg wd) (h₀ : mh_rg (gi M m₀ 1) (gi M m₀ 2) r₀ c₀) (h' : mh_rg (gi M m₀ 1) (gi M m₀ 2) r' c') : mg_Mt D l 171 [.inr (.inl m₀), .inl r₀, .inl c₀, .inl r', .inl c'] M (fun v₀ N => v₀ = some (.inl ((gi N m₀ 33 - gi N m₀ 32 + 1) * (gi N m₀ 35 - gi N m₀ 34 + 1))) ∧ mm_f (fun b₀ k₀ => b₀ = m₀ ∧ (k₀ = 0 ∨ (32 ≤ k₀ ∧ k₀ ≤ 35))) M N ∧ gi N m₀ 0 = 0 ∧ mm_ai N m₀ ∧ mh_hull (mm_cl (gi M m₀ 4) tp lf₀ hg wd) (min r₀ r') (max r₀ r') (min c₀ c') (max c₀ c') (gi N m₀ 32) (gi N m₀ 33) (gi N m₀ 34) (gi N m₀ 35)) mg_no := by
  refine mg_of2 hl ok_X6_squaresFor al_X6_squaresFor rfl (fun K hK₀ => ?_)
  have k7₀ := st₀.1
  have rc' := rc
  unfold mm_rc at rc'
  refine hK₀ _ _ _ _ _ ?_
  (repeat' (((conv => whnf); first | assumption | refine And.intro (by first | assumption | omega | (simp only [true_and]; first | done | assumption | omega)) ?_ | (refine And.intro (fun _ => ?_) (fun _ => ?_) <;> first | (exfalso; omega) | skip) | intro _ | fail)))
  (conv => whnf)
  refine Exists.intro _ (Exists.intro _ (And.intro (cX6_failsTwo0 hl st₀ rc h₀ h') (And.intro ?_ (fun _ _ h₀ => h₀.elim))))
  rintro _ P ⟨rfl, e₀⟩
  have f₀ := mm_f0 e₀
  have stP := mm_f_st f₀ st₀
  have k7P := stP.1
  have rcP := mm_rc_f f₀ (by omega) (by omega) rc
  have t1₀ := mm_f_gi f₀ m₀ 1 (by omega)
  have t2₀ := mm_f_gi f₀ m₀ 2 (by omega)
  have t4₀ := mm_f_gi f₀ m₀ 4 (by omega)
  have rP := mm_RT_f f₀ (by omega) (by omega) (by omega) (fun j₀ => by omega) rt
  (repeat' (((conv => whnf); first | assumption | refine And.intro (by first | assumption | omega | (simp only [true_and]; first | done | assumption | omega)) ?_ | (refine And.intro (fun _ => ?_) (fun _ => ?_) <;> first | (exfalso; omega) | skip) | intro _ | fail)))
  (conv => whnf)
  refine Exists.intro _ (Exists.intro _ (And.intro (cX6_spans hl stP rcP (by omega) rP (by omega) (by omega) (by omega) (by omega)) (And.intro ?_ (fun _ _ h₀ => h₀.elim))))
  rintro _ P2₀ ⟨rfl, f2₀, ai, hu⟩
  have k7P2 := (mm_f_st f2₀ stP).1
  have y0 := mm_f_gi f2₀ m₀ 0 (by omega)
  have x0₀ : gi P m₀ 0 = 0 := by rw [e₀, gi_si, if_pos ⟨rfl, rfl⟩]
  have y1 := mm_f_gi f2₀ m₀ 1 (by omega)
  have y2 := mm_f_gi f2₀ m₀ 2 (by omega)
  have ar := @mh_area (gi P2₀ m₀ 32) (gi P2₀ m₀ 33) (gi P2₀ m₀ 34) (gi P2₀ m₀ 35) (by omega) (by omega)
  have Q2₀ : some (Sum.inl ((gi P2₀ m₀ 33 - gi P2₀ m₀ 32 + 1) * (gi P2₀ m₀ 35 - gi P2₀ m₀ 34 + 1)) : mg_V) = some (.inl ((gi P2₀ m₀ 33 - gi P2₀ m₀ 32 + 1) * (gi P2₀ m₀ 35 - gi P2₀ m₀ 34 + 1))) ∧ mm_f (fun b₀ k₀ => b₀ = m₀ ∧ (k₀ = 0 ∨ (32 ≤ k₀ ∧ k₀ ≤ 35))) M P2₀ ∧ gi P2₀ m₀ 0 = 0 ∧ mm_ai P2₀ m₀ ∧ mh_hull (mm_cl (gi M m₀ 4) tp lf₀ hg wd) (min r₀ r') (max r₀ r') (min c₀ c') (max c₀ c') (gi P2₀ m₀ 32) (gi P2₀ m₀ 33) (gi P2₀ m₀ 34) (gi P2₀ m₀ 35) := by
    refine ⟨rfl, mm_f_tr (mm_f_mono f₀ (fun b₀ k₀ h₀ => by omega)) (mm_f_mono f2₀ (fun b₀ k₀ h₀ => by omega)), by omega, ai, ?_⟩
    rw [← t4₀]
    exact hu
  (repeat' (((conv => whnf); first | assumption | refine And.intro (by first | assumption | omega | (simp only [true_and]; first | done | assumption | omega)) ?_ | (refine And.intro (fun _ => ?_) (fun _ => ?_) <;> first | (exfalso; omega) | skip) | intro _ | fail)))
