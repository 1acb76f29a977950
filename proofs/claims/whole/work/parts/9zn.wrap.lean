/-! the law's wrappers₀ -/
set_option maxRecDepth 100000 in
theorem wr_insertRow0 {D : mg_D} {l : Launch} (hl : l.stackTraces = false) {M : mg_M} {g₀ : Nat} {o : Nat} {a1₀ : Int} {N : Int → mg_M → Prop} (c₀ : mg_Mt D l 76 [.inr (.inl g₀), .inl a1₀] M (fun v₀ P => ∃ z₀, v₀ = some (.inl z₀) ∧ N z₀ P) mg_no) (kg : kd M g₀ = 6) (ho : ∀ z₀ P, N z₀ P → kd P o = 10 ∧ ln P o = 1) : mg_Mt D l 207 [.inr (.inl g₀), .inl a1₀, .inr (.inl o)] M (fun v₀ Q₀ => v₀ = some (.inl 0) ∧ ∃ z₀ P, N z₀ P ∧ Q₀ = sl P o 0 z₀) mg_no := by
  refine mg_of2 hl ok_L_insertRow al_L_insertRow rfl (fun K hK₀ => ?_)
  refine hK₀ _ _ _ _ _ ?_
  (repeat' (((conv => whnf); first | (show (_ : Option mg_V) = _ ∧ _; assumption) | (show K _ _ _ _ _; assumption) | (show mm_th _ _ _ _; assumption) | refine And.intro (by first | assumption | omega | (simp only [true_and]; first | done | assumption | omega)) ?_ | (refine And.intro (fun _ => ?_) (fun _ => ?_) <;> first | (exfalso; omega) | skip) | intro _ | fail)))
  all_goals ((conv => whnf); skip)
  refine Exists.intro _ (Exists.intro _ (And.intro (c₀) (And.intro ?_ (fun _ _ h₀ => h₀.elim))))
  rintro _ P ⟨z₀, rfl, hz⟩
  have ko := (ho z₀ P hz).1
  have lo := (ho z₀ P hz).2
  (repeat' (((conv => whnf); first | (show (_ : Option mg_V) = _ ∧ _; assumption) | (show K _ _ _ _ _; assumption) | (show mm_th _ _ _ _; assumption) | refine And.intro (by first | assumption | omega | (simp only [true_and]; first | done | assumption | omega)) ?_ | (refine And.intro (fun _ => ?_) (fun _ => ?_) <;> first | (exfalso; omega) | skip) | intro _ | fail)))
  all_goals ((conv => whnf); first | exact ⟨rfl, z₀, P, hz, rfl⟩ | exact ⟨z₀, P, hz, rfl⟩ | rfl | omega)
set_option maxRecDepth 100000 in
theorem wr_insertRow1 {D : mg_D} {l : Launch} (hl : l.stackTraces = false) {M : mg_M} {g₀ : Nat} {o : Nat} {a1₀ : Int} {R : mg_M → Prop} (c₀ : mg_Mt D l 76 [.inr (.inl g₀), .inl a1₀] M mh_nN (fun k₀ P => k₀ = 1 ∧ R P)) (kg : kd M g₀ = 6) : mg_Mt D l 207 [.inr (.inl g₀), .inl a1₀, .inr (.inl o)] M (fun v₀ Q₀ => v₀ = some (.inl 1) ∧ R Q₀) mg_no := by
  refine mg_of2 hl ok_L_insertRow al_L_insertRow rfl (fun K hK₀ => ?_)
  refine hK₀ _ _ _ _ _ ?_
  (repeat' (((conv => whnf); first | (show (_ : Option mg_V) = _ ∧ _; assumption) | (show K _ _ _ _ _; assumption) | (show mm_th _ _ _ _; assumption) | refine And.intro (by first | assumption | omega | (simp only [true_and]; first | done | assumption | omega)) ?_ | (refine And.intro (fun _ => ?_) (fun _ => ?_) <;> first | (exfalso; omega) | skip) | intro _ | fail)))
  all_goals ((conv => whnf); skip)
  refine Exists.intro _ (Exists.intro _ (And.intro (c₀) (And.intro (fun _ _ h₀ => h₀.elim) ?_)))
  rintro _ P ⟨rfl, hP⟩
  (repeat' (((conv => whnf); first | (show (_ : Option mg_V) = _ ∧ _; assumption) | (show K _ _ _ _ _; assumption) | (show mm_th _ _ _ _; assumption) | refine And.intro (by first | assumption | omega | (simp only [true_and]; first | done | assumption | omega)) ?_ | (refine And.intro (fun _ => ?_) (fun _ => ?_) <;> first | (exfalso; omega) | skip) | intro _ | fail)))
  all_goals ((conv => whnf); first | exact ⟨rfl, hP⟩ | exact hP | rfl | omega)
set_option maxRecDepth 100000 in
theorem wr_insertRow2 {D : mg_D} {l : Launch} (hl : l.stackTraces = false) {M : mg_M} {g₀ : Nat} {o : Nat} {a1₀ : Int} {R : mg_M → Prop} (c₀ : mg_Mt D l 76 [.inr (.inl g₀), .inl a1₀] M mh_nN (fun k₀ P => k₀ = 2 ∧ R P)) (kg : kd M g₀ = 6) : mg_Mt D l 207 [.inr (.inl g₀), .inl a1₀, .inr (.inl o)] M (fun v₀ Q₀ => v₀ = some (.inl 2) ∧ R Q₀) mg_no := by
  refine mg_of2 hl ok_L_insertRow al_L_insertRow rfl (fun K hK₀ => ?_)
  refine hK₀ _ _ _ _ _ ?_
  (repeat' (((conv => whnf); first | (show (_ : Option mg_V) = _ ∧ _; assumption) | (show K _ _ _ _ _; assumption) | (show mm_th _ _ _ _; assumption) | refine And.intro (by first | assumption | omega | (simp only [true_and]; first | done | assumption | omega)) ?_ | (refine And.intro (fun _ => ?_) (fun _ => ?_) <;> first | (exfalso; omega) | skip) | intro _ | fail)))
  all_goals ((conv => whnf); skip)
  refine Exists.intro _ (Exists.intro _ (And.intro (c₀) (And.intro (fun _ _ h₀ => h₀.elim) ?_)))
  rintro _ P ⟨rfl, hP⟩
  (repeat' (((conv => whnf); first | (show (_ : Option mg_V) = _ ∧ _; assumption) | (show K _ _ _ _ _; assumption) | (show mm_th _ _ _ _; assumption) | refine And.intro (by first | assumption | omega | (simp only [true_and]; first | done | assumption | omega)) ?_ | (refine And.intro (fun _ => ?_) (fun _ => ?_) <;> first | (exfalso; omega) | skip) | intro _ | fail)))
  all_goals ((conv => whnf); first | exact ⟨rfl, hP⟩ | exact hP | rfl | omega)
set_option maxRecDepth 100000 in
theorem wr_insertColumn0 {D : mg_D} {l : Launch} (hl : l.stackTraces = false) {M : mg_M} {g₀ : Nat} {o : Nat} {a1₀ : Int} {N : Int → mg_M → Prop} (c₀ : mg_Mt D l 77 [.inr (.inl g₀), .inl a1₀] M (fun v₀ P => ∃ z₀, v₀ = some (.inl z₀) ∧ N z₀ P) mg_no) (kg : kd M g₀ = 6) (ho : ∀ z₀ P, N z₀ P → kd P o = 10 ∧ ln P o = 1) : mg_Mt D l 208 [.inr (.inl g₀), .inl a1₀, .inr (.inl o)] M (fun v₀ Q₀ => v₀ = some (.inl 0) ∧ ∃ z₀ P, N z₀ P ∧ Q₀ = sl P o 0 z₀) mg_no := by
  refine mg_of2 hl ok_L_insertColumn al_L_insertColumn rfl (fun K hK₀ => ?_)
  refine hK₀ _ _ _ _ _ ?_
  (repeat' (((conv => whnf); first | (show (_ : Option mg_V) = _ ∧ _; assumption) | (show K _ _ _ _ _; assumption) | (show mm_th _ _ _ _; assumption) | refine And.intro (by first | assumption | omega | (simp only [true_and]; first | done | assumption | omega)) ?_ | (refine And.intro (fun _ => ?_) (fun _ => ?_) <;> first | (exfalso; omega) | skip) | intro _ | fail)))
  all_goals ((conv => whnf); skip)
  refine Exists.intro _ (Exists.intro _ (And.intro (c₀) (And.intro ?_ (fun _ _ h₀ => h₀.elim))))
  rintro _ P ⟨z₀, rfl, hz⟩
  have ko := (ho z₀ P hz).1
  have lo := (ho z₀ P hz).2
  (repeat' (((conv => whnf); first | (show (_ : Option mg_V) = _ ∧ _; assumption) | (show K _ _ _ _ _; assumption) | (show mm_th _ _ _ _; assumption) | refine And.intro (by first | assumption | omega | (simp only [true_and]; first | done | assumption | omega)) ?_ | (refine And.intro (fun _ => ?_) (fun _ => ?_) <;> first | (exfalso; omega) | skip) | intro _ | fail)))
  all_goals ((conv => whnf); first | exact ⟨rfl, z₀, P, hz, rfl⟩ | exact ⟨z₀, P, hz, rfl⟩ | rfl | omega)
set_option maxRecDepth 100000 in
theorem wr_insertColumn1 {D : mg_D} {l : Launch} (hl : l.stackTraces = false) {M : mg_M} {g₀ : Nat} {o : Nat} {a1₀ : Int} {R : mg_M → Prop} (c₀ : mg_Mt D l 77 [.inr (.inl g₀), .inl a1₀] M mh_nN (fun k₀ P => k₀ = 1 ∧ R P)) (kg : kd M g₀ = 6) : mg_Mt D l 208 [.inr (.inl g₀), .inl a1₀, .inr (.inl o)] M (fun v₀ Q₀ => v₀ = some (.inl 1) ∧ R Q₀) mg_no := by
  refine mg_of2 hl ok_L_insertColumn al_L_insertColumn rfl (fun K hK₀ => ?_)
  refine hK₀ _ _ _ _ _ ?_
  (repeat' (((conv => whnf); first | (show (_ : Option mg_V) = _ ∧ _; assumption) | (show K _ _ _ _ _; assumption) | (show mm_th _ _ _ _; assumption) | refine And.intro (by first | assumption | omega | (simp only [true_and]; first | done | assumption | omega)) ?_ | (refine And.intro (fun _ => ?_) (fun _ => ?_) <;> first | (exfalso; omega) | skip) | intro _ | fail)))
  all_goals ((conv => whnf); skip)
  refine Exists.intro _ (Exists.intro _ (And.intro (c₀) (And.intro (fun _ _ h₀ => h₀.elim) ?_)))
  rintro _ P ⟨rfl, hP⟩
  (repeat' (((conv => whnf); first | (show (_ : Option mg_V) = _ ∧ _; assumption) | (show K _ _ _ _ _; assumption) | (show mm_th _ _ _ _; assumption) | refine And.intro (by first | assumption | omega | (simp only [true_and]; first | done | assumption | omega)) ?_ | (refine And.intro (fun _ => ?_) (fun _ => ?_) <;> first | (exfalso; omega) | skip) | intro _ | fail)))
  all_goals ((conv => whnf); first | exact ⟨rfl, hP⟩ | exact hP | rfl | omega)
set_option maxRecDepth 100000 in
theorem wr_insertColumn2 {D : mg_D} {l : Launch} (hl : l.stackTraces = false) {M : mg_M} {g₀ : Nat} {o : Nat} {a1₀ : Int} {R : mg_M → Prop} (c₀ : mg_Mt D l 77 [.inr (.inl g₀), .inl a1₀] M mh_nN (fun k₀ P => k₀ = 2 ∧ R P)) (kg : kd M g₀ = 6) : mg_Mt D l 208 [.inr (.inl g₀), .inl a1₀, .inr (.inl o)] M (fun v₀ Q₀ => v₀ = some (.inl 2) ∧ R Q₀) mg_no := by
  refine mg_of2 hl ok_L_insertColumn al_L_insertColumn rfl (fun K hK₀ => ?_)
  refine hK₀ _ _ _ _ _ ?_
  (repeat' (((conv => whnf); first | (show (_ : Option mg_V) = _ ∧ _; assumption) | (show K _ _ _ _ _; assumption) | (show mm_th _ _ _ _; assumption) | refine And.intro (by first | assumption | omega | (simp only [true_and]; first | done | assumption | omega)) ?_ | (refine And.intro (fun _ => ?_) (fun _ => ?_) <;> first | (exfalso; omega) | skip) | intro _ | fail)))
  all_goals ((conv => whnf); skip)
  refine Exists.intro _ (Exists.intro _ (And.intro (c₀) (And.intro (fun _ _ h₀ => h₀.elim) ?_)))
  rintro _ P ⟨rfl, hP⟩
  (repeat' (((conv => whnf); first | (show (_ : Option mg_V) = _ ∧ _; assumption) | (show K _ _ _ _ _; assumption) | (show mm_th _ _ _ _; assumption) | refine And.intro (by first | assumption | omega | (simp only [true_and]; first | done | assumption | omega)) ?_ | (refine And.intro (fun _ => ?_) (fun _ => ?_) <;> first | (exfalso; omega) | skip) | intro _ | fail)))
  all_goals ((conv => whnf); first | exact ⟨rfl, hP⟩ | exact hP | rfl | omega)
set_option maxRecDepth 100000 in
theorem wr_deleteRow0 {D : mg_D} {l : Launch} (hl : l.stackTraces = false) {M : mg_M} {g₀ : Nat} {o : Nat} {a1₀ : Int} {N : Int → mg_M → Prop} (c₀ : mg_Mt D l 78 [.inr (.inl g₀), .inl a1₀] M (fun v₀ P => ∃ z₀, v₀ = some (.inl z₀) ∧ N z₀ P) mg_no) (kg : kd M g₀ = 6) (ho : ∀ z₀ P, N z₀ P → kd P o = 10 ∧ ln P o = 1) : mg_Mt D l 209 [.inr (.inl g₀), .inl a1₀, .inr (.inl o)] M (fun v₀ Q₀ => v₀ = some (.inl 0) ∧ ∃ z₀ P, N z₀ P ∧ Q₀ = sl P o 0 z₀) mg_no := by
  refine mg_of2 hl ok_L_deleteRow al_L_deleteRow rfl (fun K hK₀ => ?_)
  refine hK₀ _ _ _ _ _ ?_
  (repeat' (((conv => whnf); first | (show (_ : Option mg_V) = _ ∧ _; assumption) | (show K _ _ _ _ _; assumption) | (show mm_th _ _ _ _; assumption) | refine And.intro (by first | assumption | omega | (simp only [true_and]; first | done | assumption | omega)) ?_ | (refine And.intro (fun _ => ?_) (fun _ => ?_) <;> first | (exfalso; omega) | skip) | intro _ | fail)))
  all_goals ((conv => whnf); skip)
  refine Exists.intro _ (Exists.intro _ (And.intro (c₀) (And.intro ?_ (fun _ _ h₀ => h₀.elim))))
  rintro _ P ⟨z₀, rfl, hz⟩
  have ko := (ho z₀ P hz).1
  have lo := (ho z₀ P hz).2
  (repeat' (((conv => whnf); first | (show (_ : Option mg_V) = _ ∧ _; assumption) | (show K _ _ _ _ _; assumption) | (show mm_th _ _ _ _; assumption) | refine And.intro (by first | assumption | omega | (simp only [true_and]; first | done | assumption | omega)) ?_ | (refine And.intro (fun _ => ?_) (fun _ => ?_) <;> first | (exfalso; omega) | skip) | intro _ | fail)))
  all_goals ((conv => whnf); first | exact ⟨rfl, z₀, P, hz, rfl⟩ | exact ⟨z₀, P, hz, rfl⟩ | rfl | omega)
set_option maxRecDepth 100000 in
theorem wr_deleteRow1 {D : mg_D} {l : Launch} (hl : l.stackTraces = false) {M : mg_M} {g₀ : Nat} {o : Nat} {a1₀ : Int} {R : mg_M → Prop} (c₀ : mg_Mt D l 78 [.inr (.inl g₀), .inl a1₀] M mh_nN (fun k₀ P => k₀ = 1 ∧ R P)) (kg : kd M g₀ = 6) : mg_Mt D l 209 [.inr (.inl g₀), .inl a1₀, .inr (.inl o)] M (fun v₀ Q₀ => v₀ = some (.inl 1) ∧ R Q₀) mg_no := by
  refine mg_of2 hl ok_L_deleteRow al_L_deleteRow rfl (fun K hK₀ => ?_)
  refine hK₀ _ _ _ _ _ ?_
  (repeat' (((conv => whnf); first | (show (_ : Option mg_V) = _ ∧ _; assumption) | (show K _ _ _ _ _; assumption) | (show mm_th _ _ _ _; assumption) | refine And.intro (by first | assumption | omega | (simp only [true_and]; first | done | assumption | omega)) ?_ | (refine And.intro (fun _ => ?_) (fun _ => ?_) <;> first | (exfalso; omega) | skip) | intro _ | fail)))
  all_goals ((conv => whnf); skip)
  refine Exists.intro _ (Exists.intro _ (And.intro (c₀) (And.intro (fun _ _ h₀ => h₀.elim) ?_)))
  rintro _ P ⟨rfl, hP⟩
  (repeat' (((conv => whnf); first | (show (_ : Option mg_V) = _ ∧ _; assumption) | (show K _ _ _ _ _; assumption) | (show mm_th _ _ _ _; assumption) | refine And.intro (by first | assumption | omega | (simp only [true_and]; first | done | assumption | omega)) ?_ | (refine And.intro (fun _ => ?_) (fun _ => ?_) <;> first | (exfalso; omega) | skip) | intro _ | fail)))
  all_goals ((conv => whnf); first | exact ⟨rfl, hP⟩ | exact hP | rfl | omega)
set_option maxRecDepth 100000 in
theorem wr_deleteRow2 {D : mg_D} {l : Launch} (hl : l.stackTraces = false) {M : mg_M} {g₀ : Nat} {o : Nat} {a1₀ : Int} {R : mg_M → Prop} (c₀ : mg_Mt D l 78 [.inr (.inl g₀), .inl a1₀] M mh_nN (fun k₀ P => k₀ = 2 ∧ R P)) (kg : kd M g₀ = 6) : mg_Mt D l 209 [.inr (.inl g₀), .inl a1₀, .inr (.inl o)] M (fun v₀ Q₀ => v₀ = some (.inl 2) ∧ R Q₀) mg_no := by
  refine mg_of2 hl ok_L_deleteRow al_L_deleteRow rfl (fun K hK₀ => ?_)
  refine hK₀ _ _ _ _ _ ?_
  (repeat' (((conv => whnf); first | (show (_ : Option mg_V) = _ ∧ _; assumption) | (show K _ _ _ _ _; assumption) | (show mm_th _ _ _ _; assumption) | refine And.intro (by first | assumption | omega | (simp only [true_and]; first | done | assumption | omega)) ?_ | (refine And.intro (fun _ => ?_) (fun _ => ?_) <;> first | (exfalso; omega) | skip) | intro _ | fail)))
  all_goals ((conv => whnf); skip)
  refine Exists.intro _ (Exists.intro _ (And.intro (c₀) (And.intro (fun _ _ h₀ => h₀.elim) ?_)))
  rintro _ P ⟨rfl, hP⟩
  (repeat' (((conv => whnf); first | (show (_ : Option mg_V) = _ ∧ _; assumption) | (show K _ _ _ _ _; assumption) | (show mm_th _ _ _ _; assumption) | refine And.intro (by first | assumption | omega | (simp only [true_and]; first | done | assumption | omega)) ?_ | (refine And.intro (fun _ => ?_) (fun _ => ?_) <;> first | (exfalso; omega) | skip) | intro _ | fail)))
  all_goals ((conv => whnf); first | exact ⟨rfl, hP⟩ | exact hP | rfl | omega)
set_option maxRecDepth 100000 in
theorem wr_deleteColumn0 {D : mg_D} {l : Launch} (hl : l.stackTraces = false) {M : mg_M} {g₀ : Nat} {o : Nat} {a1₀ : Int} {N : Int → mg_M → Prop} (c₀ : mg_Mt D l 79 [.inr (.inl g₀), .inl a1₀] M (fun v₀ P => ∃ z₀, v₀ = some (.inl z₀) ∧ N z₀ P) mg_no) (kg : kd M g₀ = 6) (ho : ∀ z₀ P, N z₀ P → kd P o = 10 ∧ ln P o = 1) : mg_Mt D l 210 [.inr (.inl g₀), .inl a1₀, .inr (.inl o)] M (fun v₀ Q₀ => v₀ = some (.inl 0) ∧ ∃ z₀ P, N z₀ P ∧ Q₀ = sl P o 0 z₀) mg_no := by
  refine mg_of2 hl ok_L_deleteColumn al_L_deleteColumn rfl (fun K hK₀ => ?_)
  refine hK₀ _ _ _ _ _ ?_
  (repeat' (((conv => whnf); first | (show (_ : Option mg_V) = _ ∧ _; assumption) | (show K _ _ _ _ _; assumption) | (show mm_th _ _ _ _; assumption) | refine And.intro (by first | assumption | omega | (simp only [true_and]; first | done | assumption | omega)) ?_ | (refine And.intro (fun _ => ?_) (fun _ => ?_) <;> first | (exfalso; omega) | skip) | intro _ | fail)))
  all_goals ((conv => whnf); skip)
  refine Exists.intro _ (Exists.intro _ (And.intro (c₀) (And.intro ?_ (fun _ _ h₀ => h₀.elim))))
  rintro _ P ⟨z₀, rfl, hz⟩
  have ko := (ho z₀ P hz).1
  have lo := (ho z₀ P hz).2
  (repeat' (((conv => whnf); first | (show (_ : Option mg_V) = _ ∧ _; assumption) | (show K _ _ _ _ _; assumption) | (show mm_th _ _ _ _; assumption) | refine And.intro (by first | assumption | omega | (simp only [true_and]; first | done | assumption | omega)) ?_ | (refine And.intro (fun _ => ?_) (fun _ => ?_) <;> first | (exfalso; omega) | skip) | intro _ | fail)))
  all_goals ((conv => whnf); first | exact ⟨rfl, z₀, P, hz, rfl⟩ | exact ⟨z₀, P, hz, rfl⟩ | rfl | omega)
set_option maxRecDepth 100000 in
theorem wr_deleteColumn1 {D : mg_D} {l : Launch} (hl : l.stackTraces = false) {M : mg_M} {g₀ : Nat} {o : Nat} {a1₀ : Int} {R : mg_M → Prop} (c₀ : mg_Mt D l 79 [.inr (.inl g₀), .inl a1₀] M mh_nN (fun k₀ P => k₀ = 1 ∧ R P)) (kg : kd M g₀ = 6) : mg_Mt D l 210 [.inr (.inl g₀), .inl a1₀, .inr (.inl o)] M (fun v₀ Q₀ => v₀ = some (.inl 1) ∧ R Q₀) mg_no := by
  refine mg_of2 hl ok_L_deleteColumn al_L_deleteColumn rfl (fun K hK₀ => ?_)
  refine hK₀ _ _ _ _ _ ?_
  (repeat' (((conv => whnf); first | (show (_ : Option mg_V) = _ ∧ _; assumption) | (show K _ _ _ _ _; assumption) | (show mm_th _ _ _ _; assumption) | refine And.intro (by first | assumption | omega | (simp only [true_and]; first | done | assumption | omega)) ?_ | (refine And.intro (fun _ => ?_) (fun _ => ?_) <;> first | (exfalso; omega) | skip) | intro _ | fail)))
  all_goals ((conv => whnf); skip)
  refine Exists.intro _ (Exists.intro _ (And.intro (c₀) (And.intro (fun _ _ h₀ => h₀.elim) ?_)))
  rintro _ P ⟨rfl, hP⟩
  (repeat' (((conv => whnf); first | (show (_ : Option mg_V) = _ ∧ _; assumption) | (show K _ _ _ _ _; assumption) | (show mm_th _ _ _ _; assumption) | refine And.intro (by first | assumption | omega | (simp only [true_and]; first | done | assumption | omega)) ?_ | (refine And.intro (fun _ => ?_) (fun _ => ?_) <;> first | (exfalso; omega) | skip) | intro _ | fail)))
  all_goals ((conv => whnf); first | exact ⟨rfl, hP⟩ | exact hP | rfl | omega)
set_option maxRecDepth 100000 in
theorem wr_deleteColumn2 {D : mg_D} {l : Launch} (hl : l.stackTraces = false) {M : mg_M} {g₀ : Nat} {o : Nat} {a1₀ : Int} {R : mg_M → Prop} (c₀ : mg_Mt D l 79 [.inr (.inl g₀), .inl a1₀] M mh_nN (fun k₀ P => k₀ = 2 ∧ R P)) (kg : kd M g₀ = 6) : mg_Mt D l 210 [.inr (.inl g₀), .inl a1₀, .inr (.inl o)] M (fun v₀ Q₀ => v₀ = some (.inl 2) ∧ R Q₀) mg_no := by
  refine mg_of2 hl ok_L_deleteColumn al_L_deleteColumn rfl (fun K hK₀ => ?_)
  refine hK₀ _ _ _ _ _ ?_
  (repeat' (((conv => whnf); first | (show (_ : Option mg_V) = _ ∧ _; assumption) | (show K _ _ _ _ _; assumption) | (show mm_th _ _ _ _; assumption) | refine And.intro (by first | assumption | omega | (simp only [true_and]; first | done | assumption | omega)) ?_ | (refine And.intro (fun _ => ?_) (fun _ => ?_) <;> first | (exfalso; omega) | skip) | intro _ | fail)))
  all_goals ((conv => whnf); skip)
  refine Exists.intro _ (Exists.intro _ (And.intro (c₀) (And.intro (fun _ _ h₀ => h₀.elim) ?_)))
  rintro _ P ⟨rfl, hP⟩
  (repeat' (((conv => whnf); first | (show (_ : Option mg_V) = _ ∧ _; assumption) | (show K _ _ _ _ _; assumption) | (show mm_th _ _ _ _; assumption) | refine And.intro (by first | assumption | omega | (simp only [true_and]; first | done | assumption | omega)) ?_ | (refine And.intro (fun _ => ?_) (fun _ => ?_) <;> first | (exfalso; omega) | skip) | intro _ | fail)))
  all_goals ((conv => whnf); first | exact ⟨rfl, hP⟩ | exact hP | rfl | omega)
set_option maxRecDepth 100000 in
theorem wr_moveRow0 {D : mg_D} {l : Launch} (hl : l.stackTraces = false) {M : mg_M} {g₀ : Nat} {o : Nat} {a1₀ a2 : Int} {N : Int → mg_M → Prop} (c₀ : mg_Mt D l 80 [.inr (.inl g₀), .inl a1₀, .inl a2] M (fun v₀ P => ∃ z₀, v₀ = some (.inl z₀) ∧ N z₀ P) mg_no) (kg : kd M g₀ = 6) (ho : ∀ z₀ P, N z₀ P → kd P o = 10 ∧ ln P o = 1) : mg_Mt D l 211 [.inr (.inl g₀), .inl a1₀, .inl a2, .inr (.inl o)] M (fun v₀ Q₀ => v₀ = some (.inl 0) ∧ ∃ z₀ P, N z₀ P ∧ Q₀ = sl P o 0 z₀) mg_no := by
  refine mg_of2 hl ok_L_moveRow al_L_moveRow rfl (fun K hK₀ => ?_)
  refine hK₀ _ _ _ _ _ ?_
  (repeat' (((conv => whnf); first | (show (_ : Option mg_V) = _ ∧ _; assumption) | (show K _ _ _ _ _; assumption) | (show mm_th _ _ _ _; assumption) | refine And.intro (by first | assumption | omega | (simp only [true_and]; first | done | assumption | omega)) ?_ | (refine And.intro (fun _ => ?_) (fun _ => ?_) <;> first | (exfalso; omega) | skip) | intro _ | fail)))
  all_goals ((conv => whnf); skip)
  refine Exists.intro _ (Exists.intro _ (And.intro (c₀) (And.intro ?_ (fun _ _ h₀ => h₀.elim))))
  rintro _ P ⟨z₀, rfl, hz⟩
  have ko := (ho z₀ P hz).1
  have lo := (ho z₀ P hz).2
  (repeat' (((conv => whnf); first | (show (_ : Option mg_V) = _ ∧ _; assumption) | (show K _ _ _ _ _; assumption) | (show mm_th _ _ _ _; assumption) | refine And.intro (by first | assumption | omega | (simp only [true_and]; first | done | assumption | omega)) ?_ | (refine And.intro (fun _ => ?_) (fun _ => ?_) <;> first | (exfalso; omega) | skip) | intro _ | fail)))
  all_goals ((conv => whnf); first | exact ⟨rfl, z₀, P, hz, rfl⟩ | exact ⟨z₀, P, hz, rfl⟩ | rfl | omega)
set_option maxRecDepth 100000 in
theorem wr_moveRow1 {D : mg_D} {l : Launch} (hl : l.stackTraces = false) {M : mg_M} {g₀ : Nat} {o : Nat} {a1₀ a2 : Int} {R : mg_M → Prop} (c₀ : mg_Mt D l 80 [.inr (.inl g₀), .inl a1₀, .inl a2] M mh_nN (fun k₀ P => k₀ = 1 ∧ R P)) (kg : kd M g₀ = 6) : mg_Mt D l 211 [.inr (.inl g₀), .inl a1₀, .inl a2, .inr (.inl o)] M (fun v₀ Q₀ => v₀ = some (.inl 1) ∧ R Q₀) mg_no := by
  refine mg_of2 hl ok_L_moveRow al_L_moveRow rfl (fun K hK₀ => ?_)
  refine hK₀ _ _ _ _ _ ?_
  (repeat' (((conv => whnf); first | (show (_ : Option mg_V) = _ ∧ _; assumption) | (show K _ _ _ _ _; assumption) | (show mm_th _ _ _ _; assumption) | refine And.intro (by first | assumption | omega | (simp only [true_and]; first | done | assumption | omega)) ?_ | (refine And.intro (fun _ => ?_) (fun _ => ?_) <;> first | (exfalso; omega) | skip) | intro _ | fail)))
  all_goals ((conv => whnf); skip)
  refine Exists.intro _ (Exists.intro _ (And.intro (c₀) (And.intro (fun _ _ h₀ => h₀.elim) ?_)))
  rintro _ P ⟨rfl, hP⟩
  (repeat' (((conv => whnf); first | (show (_ : Option mg_V) = _ ∧ _; assumption) | (show K _ _ _ _ _; assumption) | (show mm_th _ _ _ _; assumption) | refine And.intro (by first | assumption | omega | (simp only [true_and]; first | done | assumption | omega)) ?_ | (refine And.intro (fun _ => ?_) (fun _ => ?_) <;> first | (exfalso; omega) | skip) | intro _ | fail)))
  all_goals ((conv => whnf); first | exact ⟨rfl, hP⟩ | exact hP | rfl | omega)
set_option maxRecDepth 100000 in
theorem wr_moveRow2 {D : mg_D} {l : Launch} (hl : l.stackTraces = false) {M : mg_M} {g₀ : Nat} {o : Nat} {a1₀ a2 : Int} {R : mg_M → Prop} (c₀ : mg_Mt D l 80 [.inr (.inl g₀), .inl a1₀, .inl a2] M mh_nN (fun k₀ P => k₀ = 3 ∧ R P)) (kg : kd M g₀ = 6) : mg_Mt D l 211 [.inr (.inl g₀), .inl a1₀, .inl a2, .inr (.inl o)] M (fun v₀ Q₀ => v₀ = some (.inl 2) ∧ R Q₀) mg_no := by
  refine mg_of2 hl ok_L_moveRow al_L_moveRow rfl (fun K hK₀ => ?_)
  refine hK₀ _ _ _ _ _ ?_
  (repeat' (((conv => whnf); first | (show (_ : Option mg_V) = _ ∧ _; assumption) | (show K _ _ _ _ _; assumption) | (show mm_th _ _ _ _; assumption) | refine And.intro (by first | assumption | omega | (simp only [true_and]; first | done | assumption | omega)) ?_ | (refine And.intro (fun _ => ?_) (fun _ => ?_) <;> first | (exfalso; omega) | skip) | intro _ | fail)))
  all_goals ((conv => whnf); skip)
  refine Exists.intro _ (Exists.intro _ (And.intro (c₀) (And.intro (fun _ _ h₀ => h₀.elim) ?_)))
  rintro _ P ⟨rfl, hP⟩
  (repeat' (((conv => whnf); first | (show (_ : Option mg_V) = _ ∧ _; assumption) | (show K _ _ _ _ _; assumption) | (show mm_th _ _ _ _; assumption) | refine And.intro (by first | assumption | omega | (simp only [true_and]; first | done | assumption | omega)) ?_ | (refine And.intro (fun _ => ?_) (fun _ => ?_) <;> first | (exfalso; omega) | skip) | intro _ | fail)))
  all_goals ((conv => whnf); first | exact ⟨rfl, hP⟩ | exact hP | rfl | omega)
set_option maxRecDepth 100000 in
theorem wr_moveRow3 {D : mg_D} {l : Launch} (hl : l.stackTraces = false) {M : mg_M} {g₀ : Nat} {o : Nat} {a1₀ a2 : Int} {R : mg_M → Prop} (c₀ : mg_Mt D l 80 [.inr (.inl g₀), .inl a1₀, .inl a2] M mh_nN (fun k₀ P => k₀ = 4 ∧ R P)) (kg : kd M g₀ = 6) : mg_Mt D l 211 [.inr (.inl g₀), .inl a1₀, .inl a2, .inr (.inl o)] M (fun v₀ Q₀ => v₀ = some (.inl 3) ∧ R Q₀) mg_no := by
  refine mg_of2 hl ok_L_moveRow al_L_moveRow rfl (fun K hK₀ => ?_)
  refine hK₀ _ _ _ _ _ ?_
  (repeat' (((conv => whnf); first | (show (_ : Option mg_V) = _ ∧ _; assumption) | (show K _ _ _ _ _; assumption) | (show mm_th _ _ _ _; assumption) | refine And.intro (by first | assumption | omega | (simp only [true_and]; first | done | assumption | omega)) ?_ | (refine And.intro (fun _ => ?_) (fun _ => ?_) <;> first | (exfalso; omega) | skip) | intro _ | fail)))
  all_goals ((conv => whnf); skip)
  refine Exists.intro _ (Exists.intro _ (And.intro (c₀) (And.intro (fun _ _ h₀ => h₀.elim) ?_)))
  rintro _ P ⟨rfl, hP⟩
  (repeat' (((conv => whnf); first | (show (_ : Option mg_V) = _ ∧ _; assumption) | (show K _ _ _ _ _; assumption) | (show mm_th _ _ _ _; assumption) | refine And.intro (by first | assumption | omega | (simp only [true_and]; first | done | assumption | omega)) ?_ | (refine And.intro (fun _ => ?_) (fun _ => ?_) <;> first | (exfalso; omega) | skip) | intro _ | fail)))
  all_goals ((conv => whnf); first | exact ⟨rfl, hP⟩ | exact hP | rfl | omega)
set_option maxRecDepth 100000 in
theorem wr_topOf0 {D : mg_D} {l : Launch} (hl : l.stackTraces = false) {M : mg_M} {g₀ : Nat} {o : Nat} {a1₀ a2 : Int} {N : Int → mg_M → Prop} (c₀ : mg_Mt D l 81 [.inr (.inl g₀), .inl a1₀, .inl a2] M (fun v₀ P => ∃ z₀, v₀ = some (.inl z₀) ∧ N z₀ P) mg_no) (kg : kd M g₀ = 6) (ho : ∀ z₀ P, N z₀ P → kd P o = 10 ∧ ln P o = 1) : mg_Mt D l 212 [.inr (.inl g₀), .inl a1₀, .inl a2, .inr (.inl o)] M (fun v₀ Q₀ => v₀ = some (.inl 0) ∧ ∃ z₀ P, N z₀ P ∧ Q₀ = sl P o 0 z₀) mg_no := by
  refine mg_of2 hl ok_L_topOf al_L_topOf rfl (fun K hK₀ => ?_)
  refine hK₀ _ _ _ _ _ ?_
  (repeat' (((conv => whnf); first | (show (_ : Option mg_V) = _ ∧ _; assumption) | (show K _ _ _ _ _; assumption) | (show mm_th _ _ _ _; assumption) | refine And.intro (by first | assumption | omega | (simp only [true_and]; first | done | assumption | omega)) ?_ | (refine And.intro (fun _ => ?_) (fun _ => ?_) <;> first | (exfalso; omega) | skip) | intro _ | fail)))
  all_goals ((conv => whnf); skip)
  refine Exists.intro _ (Exists.intro _ (And.intro (c₀) (And.intro ?_ (fun _ _ h₀ => h₀.elim))))
  rintro _ P ⟨z₀, rfl, hz⟩
  have ko := (ho z₀ P hz).1
  have lo := (ho z₀ P hz).2
  (repeat' (((conv => whnf); first | (show (_ : Option mg_V) = _ ∧ _; assumption) | (show K _ _ _ _ _; assumption) | (show mm_th _ _ _ _; assumption) | refine And.intro (by first | assumption | omega | (simp only [true_and]; first | done | assumption | omega)) ?_ | (refine And.intro (fun _ => ?_) (fun _ => ?_) <;> first | (exfalso; omega) | skip) | intro _ | fail)))
  all_goals ((conv => whnf); first | exact ⟨rfl, z₀, P, hz, rfl⟩ | exact ⟨z₀, P, hz, rfl⟩ | rfl | omega)
set_option maxRecDepth 100000 in
theorem wr_topOf1 {D : mg_D} {l : Launch} (hl : l.stackTraces = false) {M : mg_M} {g₀ : Nat} {o : Nat} {a1₀ a2 : Int} {R : mg_M → Prop} (c₀ : mg_Mt D l 81 [.inr (.inl g₀), .inl a1₀, .inl a2] M mh_nN (fun k₀ P => k₀ = 1 ∧ R P)) (kg : kd M g₀ = 6) : mg_Mt D l 212 [.inr (.inl g₀), .inl a1₀, .inl a2, .inr (.inl o)] M (fun v₀ Q₀ => v₀ = some (.inl 1) ∧ R Q₀) mg_no := by
  refine mg_of2 hl ok_L_topOf al_L_topOf rfl (fun K hK₀ => ?_)
  refine hK₀ _ _ _ _ _ ?_
  (repeat' (((conv => whnf); first | (show (_ : Option mg_V) = _ ∧ _; assumption) | (show K _ _ _ _ _; assumption) | (show mm_th _ _ _ _; assumption) | refine And.intro (by first | assumption | omega | (simp only [true_and]; first | done | assumption | omega)) ?_ | (refine And.intro (fun _ => ?_) (fun _ => ?_) <;> first | (exfalso; omega) | skip) | intro _ | fail)))
  all_goals ((conv => whnf); skip)
  refine Exists.intro _ (Exists.intro _ (And.intro (c₀) (And.intro (fun _ _ h₀ => h₀.elim) ?_)))
  rintro _ P ⟨rfl, hP⟩
  (repeat' (((conv => whnf); first | (show (_ : Option mg_V) = _ ∧ _; assumption) | (show K _ _ _ _ _; assumption) | (show mm_th _ _ _ _; assumption) | refine And.intro (by first | assumption | omega | (simp only [true_and]; first | done | assumption | omega)) ?_ | (refine And.intro (fun _ => ?_) (fun _ => ?_) <;> first | (exfalso; omega) | skip) | intro _ | fail)))
  all_goals ((conv => whnf); first | exact ⟨rfl, hP⟩ | exact hP | rfl | omega)
set_option maxRecDepth 100000 in
theorem wr_leftOf0 {D : mg_D} {l : Launch} (hl : l.stackTraces = false) {M : mg_M} {g₀ : Nat} {o : Nat} {a1₀ a2 : Int} {N : Int → mg_M → Prop} (c₀ : mg_Mt D l 82 [.inr (.inl g₀), .inl a1₀, .inl a2] M (fun v₀ P => ∃ z₀, v₀ = some (.inl z₀) ∧ N z₀ P) mg_no) (kg : kd M g₀ = 6) (ho : ∀ z₀ P, N z₀ P → kd P o = 10 ∧ ln P o = 1) : mg_Mt D l 213 [.inr (.inl g₀), .inl a1₀, .inl a2, .inr (.inl o)] M (fun v₀ Q₀ => v₀ = some (.inl 0) ∧ ∃ z₀ P, N z₀ P ∧ Q₀ = sl P o 0 z₀) mg_no := by
  refine mg_of2 hl ok_L_leftOf al_L_leftOf rfl (fun K hK₀ => ?_)
  refine hK₀ _ _ _ _ _ ?_
  (repeat' (((conv => whnf); first | (show (_ : Option mg_V) = _ ∧ _; assumption) | (show K _ _ _ _ _; assumption) | (show mm_th _ _ _ _; assumption) | refine And.intro (by first | assumption | omega | (simp only [true_and]; first | done | assumption | omega)) ?_ | (refine And.intro (fun _ => ?_) (fun _ => ?_) <;> first | (exfalso; omega) | skip) | intro _ | fail)))
  all_goals ((conv => whnf); skip)
  refine Exists.intro _ (Exists.intro _ (And.intro (c₀) (And.intro ?_ (fun _ _ h₀ => h₀.elim))))
  rintro _ P ⟨z₀, rfl, hz⟩
  have ko := (ho z₀ P hz).1
  have lo := (ho z₀ P hz).2
  (repeat' (((conv => whnf); first | (show (_ : Option mg_V) = _ ∧ _; assumption) | (show K _ _ _ _ _; assumption) | (show mm_th _ _ _ _; assumption) | refine And.intro (by first | assumption | omega | (simp only [true_and]; first | done | assumption | omega)) ?_ | (refine And.intro (fun _ => ?_) (fun _ => ?_) <;> first | (exfalso; omega) | skip) | intro _ | fail)))
  all_goals ((conv => whnf); first | exact ⟨rfl, z₀, P, hz, rfl⟩ | exact ⟨z₀, P, hz, rfl⟩ | rfl | omega)
set_option maxRecDepth 100000 in
theorem wr_leftOf1 {D : mg_D} {l : Launch} (hl : l.stackTraces = false) {M : mg_M} {g₀ : Nat} {o : Nat} {a1₀ a2 : Int} {R : mg_M → Prop} (c₀ : mg_Mt D l 82 [.inr (.inl g₀), .inl a1₀, .inl a2] M mh_nN (fun k₀ P => k₀ = 1 ∧ R P)) (kg : kd M g₀ = 6) : mg_Mt D l 213 [.inr (.inl g₀), .inl a1₀, .inl a2, .inr (.inl o)] M (fun v₀ Q₀ => v₀ = some (.inl 1) ∧ R Q₀) mg_no := by
  refine mg_of2 hl ok_L_leftOf al_L_leftOf rfl (fun K hK₀ => ?_)
  refine hK₀ _ _ _ _ _ ?_
  (repeat' (((conv => whnf); first | (show (_ : Option mg_V) = _ ∧ _; assumption) | (show K _ _ _ _ _; assumption) | (show mm_th _ _ _ _; assumption) | refine And.intro (by first | assumption | omega | (simp only [true_and]; first | done | assumption | omega)) ?_ | (refine And.intro (fun _ => ?_) (fun _ => ?_) <;> first | (exfalso; omega) | skip) | intro _ | fail)))
  all_goals ((conv => whnf); skip)
  refine Exists.intro _ (Exists.intro _ (And.intro (c₀) (And.intro (fun _ _ h₀ => h₀.elim) ?_)))
  rintro _ P ⟨rfl, hP⟩
  (repeat' (((conv => whnf); first | (show (_ : Option mg_V) = _ ∧ _; assumption) | (show K _ _ _ _ _; assumption) | (show mm_th _ _ _ _; assumption) | refine And.intro (by first | assumption | omega | (simp only [true_and]; first | done | assumption | omega)) ?_ | (refine And.intro (fun _ => ?_) (fun _ => ?_) <;> first | (exfalso; omega) | skip) | intro _ | fail)))
  all_goals ((conv => whnf); first | exact ⟨rfl, hP⟩ | exact hP | rfl | omega)
set_option maxRecDepth 100000 in
theorem wr_rowsOf0 {D : mg_D} {l : Launch} (hl : l.stackTraces = false) {M : mg_M} {g₀ : Nat} {o : Nat} {a1₀ a2 : Int} {N : Int → mg_M → Prop} (c₀ : mg_Mt D l 83 [.inr (.inl g₀), .inl a1₀, .inl a2] M (fun v₀ P => ∃ z₀, v₀ = some (.inl z₀) ∧ N z₀ P) mg_no) (kg : kd M g₀ = 6) (ho : ∀ z₀ P, N z₀ P → kd P o = 10 ∧ ln P o = 1) : mg_Mt D l 214 [.inr (.inl g₀), .inl a1₀, .inl a2, .inr (.inl o)] M (fun v₀ Q₀ => v₀ = some (.inl 0) ∧ ∃ z₀ P, N z₀ P ∧ Q₀ = sl P o 0 z₀) mg_no := by
  refine mg_of2 hl ok_L_rowsOf al_L_rowsOf rfl (fun K hK₀ => ?_)
  refine hK₀ _ _ _ _ _ ?_
  (repeat' (((conv => whnf); first | (show (_ : Option mg_V) = _ ∧ _; assumption) | (show K _ _ _ _ _; assumption) | (show mm_th _ _ _ _; assumption) | refine And.intro (by first | assumption | omega | (simp only [true_and]; first | done | assumption | omega)) ?_ | (refine And.intro (fun _ => ?_) (fun _ => ?_) <;> first | (exfalso; omega) | skip) | intro _ | fail)))
  all_goals ((conv => whnf); skip)
  refine Exists.intro _ (Exists.intro _ (And.intro (c₀) (And.intro ?_ (fun _ _ h₀ => h₀.elim))))
  rintro _ P ⟨z₀, rfl, hz⟩
  have ko := (ho z₀ P hz).1
  have lo := (ho z₀ P hz).2
  (repeat' (((conv => whnf); first | (show (_ : Option mg_V) = _ ∧ _; assumption) | (show K _ _ _ _ _; assumption) | (show mm_th _ _ _ _; assumption) | refine And.intro (by first | assumption | omega | (simp only [true_and]; first | done | assumption | omega)) ?_ | (refine And.intro (fun _ => ?_) (fun _ => ?_) <;> first | (exfalso; omega) | skip) | intro _ | fail)))
  all_goals ((conv => whnf); first | exact ⟨rfl, z₀, P, hz, rfl⟩ | exact ⟨z₀, P, hz, rfl⟩ | rfl | omega)
set_option maxRecDepth 100000 in
theorem wr_rowsOf1 {D : mg_D} {l : Launch} (hl : l.stackTraces = false) {M : mg_M} {g₀ : Nat} {o : Nat} {a1₀ a2 : Int} {R : mg_M → Prop} (c₀ : mg_Mt D l 83 [.inr (.inl g₀), .inl a1₀, .inl a2] M mh_nN (fun k₀ P => k₀ = 1 ∧ R P)) (kg : kd M g₀ = 6) : mg_Mt D l 214 [.inr (.inl g₀), .inl a1₀, .inl a2, .inr (.inl o)] M (fun v₀ Q₀ => v₀ = some (.inl 1) ∧ R Q₀) mg_no := by
  refine mg_of2 hl ok_L_rowsOf al_L_rowsOf rfl (fun K hK₀ => ?_)
  refine hK₀ _ _ _ _ _ ?_
  (repeat' (((conv => whnf); first | (show (_ : Option mg_V) = _ ∧ _; assumption) | (show K _ _ _ _ _; assumption) | (show mm_th _ _ _ _; assumption) | refine And.intro (by first | assumption | omega | (simp only [true_and]; first | done | assumption | omega)) ?_ | (refine And.intro (fun _ => ?_) (fun _ => ?_) <;> first | (exfalso; omega) | skip) | intro _ | fail)))
  all_goals ((conv => whnf); skip)
  refine Exists.intro _ (Exists.intro _ (And.intro (c₀) (And.intro (fun _ _ h₀ => h₀.elim) ?_)))
  rintro _ P ⟨rfl, hP⟩
  (repeat' (((conv => whnf); first | (show (_ : Option mg_V) = _ ∧ _; assumption) | (show K _ _ _ _ _; assumption) | (show mm_th _ _ _ _; assumption) | refine And.intro (by first | assumption | omega | (simp only [true_and]; first | done | assumption | omega)) ?_ | (refine And.intro (fun _ => ?_) (fun _ => ?_) <;> first | (exfalso; omega) | skip) | intro _ | fail)))
  all_goals ((conv => whnf); first | exact ⟨rfl, hP⟩ | exact hP | rfl | omega)
set_option maxRecDepth 100000 in
theorem wr_columnsOf0 {D : mg_D} {l : Launch} (hl : l.stackTraces = false) {M : mg_M} {g₀ : Nat} {o : Nat} {a1₀ a2 : Int} {N : Int → mg_M → Prop} (c₀ : mg_Mt D l 84 [.inr (.inl g₀), .inl a1₀, .inl a2] M (fun v₀ P => ∃ z₀, v₀ = some (.inl z₀) ∧ N z₀ P) mg_no) (kg : kd M g₀ = 6) (ho : ∀ z₀ P, N z₀ P → kd P o = 10 ∧ ln P o = 1) : mg_Mt D l 215 [.inr (.inl g₀), .inl a1₀, .inl a2, .inr (.inl o)] M (fun v₀ Q₀ => v₀ = some (.inl 0) ∧ ∃ z₀ P, N z₀ P ∧ Q₀ = sl P o 0 z₀) mg_no := by
  refine mg_of2 hl ok_L_columnsOf al_L_columnsOf rfl (fun K hK₀ => ?_)
  refine hK₀ _ _ _ _ _ ?_
  (repeat' (((conv => whnf); first | (show (_ : Option mg_V) = _ ∧ _; assumption) | (show K _ _ _ _ _; assumption) | (show mm_th _ _ _ _; assumption) | refine And.intro (by first | assumption | omega | (simp only [true_and]; first | done | assumption | omega)) ?_ | (refine And.intro (fun _ => ?_) (fun _ => ?_) <;> first | (exfalso; omega) | skip) | intro _ | fail)))
  all_goals ((conv => whnf); skip)
  refine Exists.intro _ (Exists.intro _ (And.intro (c₀) (And.intro ?_ (fun _ _ h₀ => h₀.elim))))
  rintro _ P ⟨z₀, rfl, hz⟩
  have ko := (ho z₀ P hz).1
  have lo := (ho z₀ P hz).2
  (repeat' (((conv => whnf); first | (show (_ : Option mg_V) = _ ∧ _; assumption) | (show K _ _ _ _ _; assumption) | (show mm_th _ _ _ _; assumption) | refine And.intro (by first | assumption | omega | (simp only [true_and]; first | done | assumption | omega)) ?_ | (refine And.intro (fun _ => ?_) (fun _ => ?_) <;> first | (exfalso; omega) | skip) | intro _ | fail)))
  all_goals ((conv => whnf); first | exact ⟨rfl, z₀, P, hz, rfl⟩ | exact ⟨z₀, P, hz, rfl⟩ | rfl | omega)
set_option maxRecDepth 100000 in
theorem wr_columnsOf1 {D : mg_D} {l : Launch} (hl : l.stackTraces = false) {M : mg_M} {g₀ : Nat} {o : Nat} {a1₀ a2 : Int} {R : mg_M → Prop} (c₀ : mg_Mt D l 84 [.inr (.inl g₀), .inl a1₀, .inl a2] M mh_nN (fun k₀ P => k₀ = 1 ∧ R P)) (kg : kd M g₀ = 6) : mg_Mt D l 215 [.inr (.inl g₀), .inl a1₀, .inl a2, .inr (.inl o)] M (fun v₀ Q₀ => v₀ = some (.inl 1) ∧ R Q₀) mg_no := by
  refine mg_of2 hl ok_L_columnsOf al_L_columnsOf rfl (fun K hK₀ => ?_)
  refine hK₀ _ _ _ _ _ ?_
  (repeat' (((conv => whnf); first | (show (_ : Option mg_V) = _ ∧ _; assumption) | (show K _ _ _ _ _; assumption) | (show mm_th _ _ _ _; assumption) | refine And.intro (by first | assumption | omega | (simp only [true_and]; first | done | assumption | omega)) ?_ | (refine And.intro (fun _ => ?_) (fun _ => ?_) <;> first | (exfalso; omega) | skip) | intro _ | fail)))
  all_goals ((conv => whnf); skip)
  refine Exists.intro _ (Exists.intro _ (And.intro (c₀) (And.intro (fun _ _ h₀ => h₀.elim) ?_)))
  rintro _ P ⟨rfl, hP⟩
  (repeat' (((conv => whnf); first | (show (_ : Option mg_V) = _ ∧ _; assumption) | (show K _ _ _ _ _; assumption) | (show mm_th _ _ _ _; assumption) | refine And.intro (by first | assumption | omega | (simp only [true_and]; first | done | assumption | omega)) ?_ | (refine And.intro (fun _ => ?_) (fun _ => ?_) <;> first | (exfalso; omega) | skip) | intro _ | fail)))
  all_goals ((conv => whnf); first | exact ⟨rfl, hP⟩ | exact hP | rfl | omega)
set_option maxRecDepth 100000 in
theorem wr_contentAt0 {D : mg_D} {l : Launch} (hl : l.stackTraces = false) {M : mg_M} {g₀ : Nat} {o : Nat} {a1₀ a2 : Int} {N : Int → mg_M → Prop} (c₀ : mg_Mt D l 85 [.inr (.inl g₀), .inl a1₀, .inl a2] M (fun v₀ P => ∃ z₀, v₀ = some (.inl z₀) ∧ N z₀ P) mg_no) (kg : kd M g₀ = 6) (ho : ∀ z₀ P, N z₀ P → kd P o = 10 ∧ ln P o = 1) : mg_Mt D l 216 [.inr (.inl g₀), .inl a1₀, .inl a2, .inr (.inl o)] M (fun v₀ Q₀ => v₀ = some (.inl 0) ∧ ∃ z₀ P, N z₀ P ∧ Q₀ = sl P o 0 z₀) mg_no := by
  refine mg_of2 hl ok_L_contentAt al_L_contentAt rfl (fun K hK₀ => ?_)
  refine hK₀ _ _ _ _ _ ?_
  (repeat' (((conv => whnf); first | (show (_ : Option mg_V) = _ ∧ _; assumption) | (show K _ _ _ _ _; assumption) | (show mm_th _ _ _ _; assumption) | refine And.intro (by first | assumption | omega | (simp only [true_and]; first | done | assumption | omega)) ?_ | (refine And.intro (fun _ => ?_) (fun _ => ?_) <;> first | (exfalso; omega) | skip) | intro _ | fail)))
  all_goals ((conv => whnf); skip)
  refine Exists.intro _ (Exists.intro _ (And.intro (c₀) (And.intro ?_ (fun _ _ h₀ => h₀.elim))))
  rintro _ P ⟨z₀, rfl, hz⟩
  have ko := (ho z₀ P hz).1
  have lo := (ho z₀ P hz).2
  (repeat' (((conv => whnf); first | (show (_ : Option mg_V) = _ ∧ _; assumption) | (show K _ _ _ _ _; assumption) | (show mm_th _ _ _ _; assumption) | refine And.intro (by first | assumption | omega | (simp only [true_and]; first | done | assumption | omega)) ?_ | (refine And.intro (fun _ => ?_) (fun _ => ?_) <;> first | (exfalso; omega) | skip) | intro _ | fail)))
  all_goals ((conv => whnf); first | exact ⟨rfl, z₀, P, hz, rfl⟩ | exact ⟨z₀, P, hz, rfl⟩ | rfl | omega)
set_option maxRecDepth 100000 in
theorem wr_contentAt1 {D : mg_D} {l : Launch} (hl : l.stackTraces = false) {M : mg_M} {g₀ : Nat} {o : Nat} {a1₀ a2 : Int} {R : mg_M → Prop} (c₀ : mg_Mt D l 85 [.inr (.inl g₀), .inl a1₀, .inl a2] M mh_nN (fun k₀ P => k₀ = 1 ∧ R P)) (kg : kd M g₀ = 6) : mg_Mt D l 216 [.inr (.inl g₀), .inl a1₀, .inl a2, .inr (.inl o)] M (fun v₀ Q₀ => v₀ = some (.inl 1) ∧ R Q₀) mg_no := by
  refine mg_of2 hl ok_L_contentAt al_L_contentAt rfl (fun K hK₀ => ?_)
  refine hK₀ _ _ _ _ _ ?_
  (repeat' (((conv => whnf); first | (show (_ : Option mg_V) = _ ∧ _; assumption) | (show K _ _ _ _ _; assumption) | (show mm_th _ _ _ _; assumption) | refine And.intro (by first | assumption | omega | (simp only [true_and]; first | done | assumption | omega)) ?_ | (refine And.intro (fun _ => ?_) (fun _ => ?_) <;> first | (exfalso; omega) | skip) | intro _ | fail)))
  all_goals ((conv => whnf); skip)
  refine Exists.intro _ (Exists.intro _ (And.intro (c₀) (And.intro (fun _ _ h₀ => h₀.elim) ?_)))
  rintro _ P ⟨rfl, hP⟩
  (repeat' (((conv => whnf); first | (show (_ : Option mg_V) = _ ∧ _; assumption) | (show K _ _ _ _ _; assumption) | (show mm_th _ _ _ _; assumption) | refine And.intro (by first | assumption | omega | (simp only [true_and]; first | done | assumption | omega)) ?_ | (refine And.intro (fun _ => ?_) (fun _ => ?_) <;> first | (exfalso; omega) | skip) | intro _ | fail)))
  all_goals ((conv => whnf); first | exact ⟨rfl, hP⟩ | exact hP | rfl | omega)
set_option maxRecDepth 100000 in
theorem wr_styleAt0 {D : mg_D} {l : Launch} (hl : l.stackTraces = false) {M : mg_M} {g₀ : Nat} {o : Nat} {a1₀ a2 : Int} {N : Int → mg_M → Prop} (c₀ : mg_Mt D l 86 [.inr (.inl g₀), .inl a1₀, .inl a2] M (fun v₀ P => ∃ z₀, v₀ = some (.inl z₀) ∧ N z₀ P) mg_no) (kg : kd M g₀ = 6) (ho : ∀ z₀ P, N z₀ P → kd P o = 10 ∧ ln P o = 1) : mg_Mt D l 217 [.inr (.inl g₀), .inl a1₀, .inl a2, .inr (.inl o)] M (fun v₀ Q₀ => v₀ = some (.inl 0) ∧ ∃ z₀ P, N z₀ P ∧ Q₀ = sl P o 0 z₀) mg_no := by
  refine mg_of2 hl ok_L_styleAt al_L_styleAt rfl (fun K hK₀ => ?_)
  refine hK₀ _ _ _ _ _ ?_
  (repeat' (((conv => whnf); first | (show (_ : Option mg_V) = _ ∧ _; assumption) | (show K _ _ _ _ _; assumption) | (show mm_th _ _ _ _; assumption) | refine And.intro (by first | assumption | omega | (simp only [true_and]; first | done | assumption | omega)) ?_ | (refine And.intro (fun _ => ?_) (fun _ => ?_) <;> first | (exfalso; omega) | skip) | intro _ | fail)))
  all_goals ((conv => whnf); skip)
  refine Exists.intro _ (Exists.intro _ (And.intro (c₀) (And.intro ?_ (fun _ _ h₀ => h₀.elim))))
  rintro _ P ⟨z₀, rfl, hz⟩
  have ko := (ho z₀ P hz).1
  have lo := (ho z₀ P hz).2
  (repeat' (((conv => whnf); first | (show (_ : Option mg_V) = _ ∧ _; assumption) | (show K _ _ _ _ _; assumption) | (show mm_th _ _ _ _; assumption) | refine And.intro (by first | assumption | omega | (simp only [true_and]; first | done | assumption | omega)) ?_ | (refine And.intro (fun _ => ?_) (fun _ => ?_) <;> first | (exfalso; omega) | skip) | intro _ | fail)))
  all_goals ((conv => whnf); first | exact ⟨rfl, z₀, P, hz, rfl⟩ | exact ⟨z₀, P, hz, rfl⟩ | rfl | omega)
set_option maxRecDepth 100000 in
theorem wr_styleAt1 {D : mg_D} {l : Launch} (hl : l.stackTraces = false) {M : mg_M} {g₀ : Nat} {o : Nat} {a1₀ a2 : Int} {R : mg_M → Prop} (c₀ : mg_Mt D l 86 [.inr (.inl g₀), .inl a1₀, .inl a2] M mh_nN (fun k₀ P => k₀ = 1 ∧ R P)) (kg : kd M g₀ = 6) : mg_Mt D l 217 [.inr (.inl g₀), .inl a1₀, .inl a2, .inr (.inl o)] M (fun v₀ Q₀ => v₀ = some (.inl 1) ∧ R Q₀) mg_no := by
  refine mg_of2 hl ok_L_styleAt al_L_styleAt rfl (fun K hK₀ => ?_)
  refine hK₀ _ _ _ _ _ ?_
  (repeat' (((conv => whnf); first | (show (_ : Option mg_V) = _ ∧ _; assumption) | (show K _ _ _ _ _; assumption) | (show mm_th _ _ _ _; assumption) | refine And.intro (by first | assumption | omega | (simp only [true_and]; first | done | assumption | omega)) ?_ | (refine And.intro (fun _ => ?_) (fun _ => ?_) <;> first | (exfalso; omega) | skip) | intro _ | fail)))
  all_goals ((conv => whnf); skip)
  refine Exists.intro _ (Exists.intro _ (And.intro (c₀) (And.intro (fun _ _ h₀ => h₀.elim) ?_)))
  rintro _ P ⟨rfl, hP⟩
  (repeat' (((conv => whnf); first | (show (_ : Option mg_V) = _ ∧ _; assumption) | (show K _ _ _ _ _; assumption) | (show mm_th _ _ _ _; assumption) | refine And.intro (by first | assumption | omega | (simp only [true_and]; first | done | assumption | omega)) ?_ | (refine And.intro (fun _ => ?_) (fun _ => ?_) <;> first | (exfalso; omega) | skip) | intro _ | fail)))
  all_goals ((conv => whnf); first | exact ⟨rfl, hP⟩ | exact hP | rfl | omega)
set_option maxRecDepth 100000 in
theorem wr_setContent0 {D : mg_D} {l : Launch} (hl : l.stackTraces = false) {M : mg_M} {g₀ : Nat} {o : Nat} {a1₀ a2 a3 : Int} {N : Int → mg_M → Prop} (c₀ : mg_Mt D l 87 [.inr (.inl g₀), .inl a1₀, .inl a2, .inl a3] M (fun v₀ P => ∃ z₀, v₀ = some (.inl z₀) ∧ N z₀ P) mg_no) (kg : kd M g₀ = 6) (ho : ∀ z₀ P, N z₀ P → kd P o = 10 ∧ ln P o = 1) : mg_Mt D l 218 [.inr (.inl g₀), .inl a1₀, .inl a2, .inl a3, .inr (.inl o)] M (fun v₀ Q₀ => v₀ = some (.inl 0) ∧ ∃ z₀ P, N z₀ P ∧ Q₀ = sl P o 0 z₀) mg_no := by
  refine mg_of2 hl ok_L_setContent al_L_setContent rfl (fun K hK₀ => ?_)
  refine hK₀ _ _ _ _ _ ?_
  (repeat' (((conv => whnf); first | (show (_ : Option mg_V) = _ ∧ _; assumption) | (show K _ _ _ _ _; assumption) | (show mm_th _ _ _ _; assumption) | refine And.intro (by first | assumption | omega | (simp only [true_and]; first | done | assumption | omega)) ?_ | (refine And.intro (fun _ => ?_) (fun _ => ?_) <;> first | (exfalso; omega) | skip) | intro _ | fail)))
  all_goals ((conv => whnf); skip)
  refine Exists.intro _ (Exists.intro _ (And.intro (c₀) (And.intro ?_ (fun _ _ h₀ => h₀.elim))))
  rintro _ P ⟨z₀, rfl, hz⟩
  have ko := (ho z₀ P hz).1
  have lo := (ho z₀ P hz).2
  (repeat' (((conv => whnf); first | (show (_ : Option mg_V) = _ ∧ _; assumption) | (show K _ _ _ _ _; assumption) | (show mm_th _ _ _ _; assumption) | refine And.intro (by first | assumption | omega | (simp only [true_and]; first | done | assumption | omega)) ?_ | (refine And.intro (fun _ => ?_) (fun _ => ?_) <;> first | (exfalso; omega) | skip) | intro _ | fail)))
  all_goals ((conv => whnf); first | exact ⟨rfl, z₀, P, hz, rfl⟩ | exact ⟨z₀, P, hz, rfl⟩ | rfl | omega)
set_option maxRecDepth 100000 in
theorem wr_setContent1 {D : mg_D} {l : Launch} (hl : l.stackTraces = false) {M : mg_M} {g₀ : Nat} {o : Nat} {a1₀ a2 a3 : Int} {R : mg_M → Prop} (c₀ : mg_Mt D l 87 [.inr (.inl g₀), .inl a1₀, .inl a2, .inl a3] M mh_nN (fun k₀ P => k₀ = 1 ∧ R P)) (kg : kd M g₀ = 6) : mg_Mt D l 218 [.inr (.inl g₀), .inl a1₀, .inl a2, .inl a3, .inr (.inl o)] M (fun v₀ Q₀ => v₀ = some (.inl 1) ∧ R Q₀) mg_no := by
  refine mg_of2 hl ok_L_setContent al_L_setContent rfl (fun K hK₀ => ?_)
  refine hK₀ _ _ _ _ _ ?_
  (repeat' (((conv => whnf); first | (show (_ : Option mg_V) = _ ∧ _; assumption) | (show K _ _ _ _ _; assumption) | (show mm_th _ _ _ _; assumption) | refine And.intro (by first | assumption | omega | (simp only [true_and]; first | done | assumption | omega)) ?_ | (refine And.intro (fun _ => ?_) (fun _ => ?_) <;> first | (exfalso; omega) | skip) | intro _ | fail)))
  all_goals ((conv => whnf); skip)
  refine Exists.intro _ (Exists.intro _ (And.intro (c₀) (And.intro (fun _ _ h₀ => h₀.elim) ?_)))
  rintro _ P ⟨rfl, hP⟩
  (repeat' (((conv => whnf); first | (show (_ : Option mg_V) = _ ∧ _; assumption) | (show K _ _ _ _ _; assumption) | (show mm_th _ _ _ _; assumption) | refine And.intro (by first | assumption | omega | (simp only [true_and]; first | done | assumption | omega)) ?_ | (refine And.intro (fun _ => ?_) (fun _ => ?_) <;> first | (exfalso; omega) | skip) | intro _ | fail)))
  all_goals ((conv => whnf); first | exact ⟨rfl, hP⟩ | exact hP | rfl | omega)
set_option maxRecDepth 100000 in
theorem wr_setContent2 {D : mg_D} {l : Launch} (hl : l.stackTraces = false) {M : mg_M} {g₀ : Nat} {o : Nat} {a1₀ a2 a3 : Int} {R : mg_M → Prop} (c₀ : mg_Mt D l 87 [.inr (.inl g₀), .inl a1₀, .inl a2, .inl a3] M mh_nN (fun k₀ P => k₀ = 3 ∧ R P)) (kg : kd M g₀ = 6) : mg_Mt D l 218 [.inr (.inl g₀), .inl a1₀, .inl a2, .inl a3, .inr (.inl o)] M (fun v₀ Q₀ => v₀ = some (.inl 2) ∧ R Q₀) mg_no := by
  refine mg_of2 hl ok_L_setContent al_L_setContent rfl (fun K hK₀ => ?_)
  refine hK₀ _ _ _ _ _ ?_
  (repeat' (((conv => whnf); first | (show (_ : Option mg_V) = _ ∧ _; assumption) | (show K _ _ _ _ _; assumption) | (show mm_th _ _ _ _; assumption) | refine And.intro (by first | assumption | omega | (simp only [true_and]; first | done | assumption | omega)) ?_ | (refine And.intro (fun _ => ?_) (fun _ => ?_) <;> first | (exfalso; omega) | skip) | intro _ | fail)))
  all_goals ((conv => whnf); skip)
  refine Exists.intro _ (Exists.intro _ (And.intro (c₀) (And.intro (fun _ _ h₀ => h₀.elim) ?_)))
  rintro _ P ⟨rfl, hP⟩
  (repeat' (((conv => whnf); first | (show (_ : Option mg_V) = _ ∧ _; assumption) | (show K _ _ _ _ _; assumption) | (show mm_th _ _ _ _; assumption) | refine And.intro (by first | assumption | omega | (simp only [true_and]; first | done | assumption | omega)) ?_ | (refine And.intro (fun _ => ?_) (fun _ => ?_) <;> first | (exfalso; omega) | skip) | intro _ | fail)))
  all_goals ((conv => whnf); first | exact ⟨rfl, hP⟩ | exact hP | rfl | omega)
set_option maxRecDepth 100000 in
theorem wr_setStyle0 {D : mg_D} {l : Launch} (hl : l.stackTraces = false) {M : mg_M} {g₀ : Nat} {o : Nat} {a1₀ : Int} {N : Int → mg_M → Prop} (c₀ : mg_Mt D l 88 [.inr (.inl g₀), .inl a1₀] M (fun v₀ P => ∃ z₀, v₀ = some (.inl z₀) ∧ N z₀ P) mg_no) (kg : kd M g₀ = 6) (ho : ∀ z₀ P, N z₀ P → kd P o = 10 ∧ ln P o = 1) : mg_Mt D l 219 [.inr (.inl g₀), .inl a1₀, .inr (.inl o)] M (fun v₀ Q₀ => v₀ = some (.inl 0) ∧ ∃ z₀ P, N z₀ P ∧ Q₀ = sl P o 0 z₀) mg_no := by
  refine mg_of2 hl ok_L_setStyle al_L_setStyle rfl (fun K hK₀ => ?_)
  refine hK₀ _ _ _ _ _ ?_
  (repeat' (((conv => whnf); first | (show (_ : Option mg_V) = _ ∧ _; assumption) | (show K _ _ _ _ _; assumption) | (show mm_th _ _ _ _; assumption) | refine And.intro (by first | assumption | omega | (simp only [true_and]; first | done | assumption | omega)) ?_ | (refine And.intro (fun _ => ?_) (fun _ => ?_) <;> first | (exfalso; omega) | skip) | intro _ | fail)))
  all_goals ((conv => whnf); skip)
  refine Exists.intro _ (Exists.intro _ (And.intro (c₀) (And.intro ?_ (fun _ _ h₀ => h₀.elim))))
  rintro _ P ⟨z₀, rfl, hz⟩
  have ko := (ho z₀ P hz).1
  have lo := (ho z₀ P hz).2
  (repeat' (((conv => whnf); first | (show (_ : Option mg_V) = _ ∧ _; assumption) | (show K _ _ _ _ _; assumption) | (show mm_th _ _ _ _; assumption) | refine And.intro (by first | assumption | omega | (simp only [true_and]; first | done | assumption | omega)) ?_ | (refine And.intro (fun _ => ?_) (fun _ => ?_) <;> first | (exfalso; omega) | skip) | intro _ | fail)))
  all_goals ((conv => whnf); first | exact ⟨rfl, z₀, P, hz, rfl⟩ | exact ⟨z₀, P, hz, rfl⟩ | rfl | omega)
set_option maxRecDepth 100000 in
theorem wr_setStyle1 {D : mg_D} {l : Launch} (hl : l.stackTraces = false) {M : mg_M} {g₀ : Nat} {o : Nat} {a1₀ : Int} {R : mg_M → Prop} (c₀ : mg_Mt D l 88 [.inr (.inl g₀), .inl a1₀] M mh_nN (fun k₀ P => k₀ = 3 ∧ R P)) (kg : kd M g₀ = 6) : mg_Mt D l 219 [.inr (.inl g₀), .inl a1₀, .inr (.inl o)] M (fun v₀ Q₀ => v₀ = some (.inl 1) ∧ R Q₀) mg_no := by
  refine mg_of2 hl ok_L_setStyle al_L_setStyle rfl (fun K hK₀ => ?_)
  refine hK₀ _ _ _ _ _ ?_
  (repeat' (((conv => whnf); first | (show (_ : Option mg_V) = _ ∧ _; assumption) | (show K _ _ _ _ _; assumption) | (show mm_th _ _ _ _; assumption) | refine And.intro (by first | assumption | omega | (simp only [true_and]; first | done | assumption | omega)) ?_ | (refine And.intro (fun _ => ?_) (fun _ => ?_) <;> first | (exfalso; omega) | skip) | intro _ | fail)))
  all_goals ((conv => whnf); skip)
  refine Exists.intro _ (Exists.intro _ (And.intro (c₀) (And.intro (fun _ _ h₀ => h₀.elim) ?_)))
  rintro _ P ⟨rfl, hP⟩
  (repeat' (((conv => whnf); first | (show (_ : Option mg_V) = _ ∧ _; assumption) | (show K _ _ _ _ _; assumption) | (show mm_th _ _ _ _; assumption) | refine And.intro (by first | assumption | omega | (simp only [true_and]; first | done | assumption | omega)) ?_ | (refine And.intro (fun _ => ?_) (fun _ => ?_) <;> first | (exfalso; omega) | skip) | intro _ | fail)))
  all_goals ((conv => whnf); first | exact ⟨rfl, hP⟩ | exact hP | rfl | omega)
set_option maxRecDepth 100000 in
theorem wr_select0 {D : mg_D} {l : Launch} (hl : l.stackTraces = false) {M : mg_M} {g₀ : Nat} {o : Nat} {a1₀ a2 a3 a4 : Int} {N : Int → mg_M → Prop} (c₀ : mg_Mt D l 89 [.inr (.inl g₀), .inl a1₀, .inl a2, .inl a3, .inl a4] M (fun v₀ P => ∃ z₀, v₀ = some (.inl z₀) ∧ N z₀ P) mg_no) (kg : kd M g₀ = 6) (ho : ∀ z₀ P, N z₀ P → kd P o = 10 ∧ ln P o = 1) : mg_Mt D l 220 [.inr (.inl g₀), .inl a1₀, .inl a2, .inl a3, .inl a4, .inr (.inl o)] M (fun v₀ Q₀ => v₀ = some (.inl 0) ∧ ∃ z₀ P, N z₀ P ∧ Q₀ = sl P o 0 z₀) mg_no := by
  refine mg_of2 hl ok_L_select al_L_select rfl (fun K hK₀ => ?_)
  refine hK₀ _ _ _ _ _ ?_
  (repeat' (((conv => whnf); first | (show (_ : Option mg_V) = _ ∧ _; assumption) | (show K _ _ _ _ _; assumption) | (show mm_th _ _ _ _; assumption) | refine And.intro (by first | assumption | omega | (simp only [true_and]; first | done | assumption | omega)) ?_ | (refine And.intro (fun _ => ?_) (fun _ => ?_) <;> first | (exfalso; omega) | skip) | intro _ | fail)))
  all_goals ((conv => whnf); skip)
  refine Exists.intro _ (Exists.intro _ (And.intro (c₀) (And.intro ?_ (fun _ _ h₀ => h₀.elim))))
  rintro _ P ⟨z₀, rfl, hz⟩
  have ko := (ho z₀ P hz).1
  have lo := (ho z₀ P hz).2
  (repeat' (((conv => whnf); first | (show (_ : Option mg_V) = _ ∧ _; assumption) | (show K _ _ _ _ _; assumption) | (show mm_th _ _ _ _; assumption) | refine And.intro (by first | assumption | omega | (simp only [true_and]; first | done | assumption | omega)) ?_ | (refine And.intro (fun _ => ?_) (fun _ => ?_) <;> first | (exfalso; omega) | skip) | intro _ | fail)))
  all_goals ((conv => whnf); first | exact ⟨rfl, z₀, P, hz, rfl⟩ | exact ⟨z₀, P, hz, rfl⟩ | rfl | omega)
set_option maxRecDepth 100000 in
theorem wr_select1 {D : mg_D} {l : Launch} (hl : l.stackTraces = false) {M : mg_M} {g₀ : Nat} {o : Nat} {a1₀ a2 a3 a4 : Int} {R : mg_M → Prop} (c₀ : mg_Mt D l 89 [.inr (.inl g₀), .inl a1₀, .inl a2, .inl a3, .inl a4] M mh_nN (fun k₀ P => k₀ = 1 ∧ R P)) (kg : kd M g₀ = 6) : mg_Mt D l 220 [.inr (.inl g₀), .inl a1₀, .inl a2, .inl a3, .inl a4, .inr (.inl o)] M (fun v₀ Q₀ => v₀ = some (.inl 1) ∧ R Q₀) mg_no := by
  refine mg_of2 hl ok_L_select al_L_select rfl (fun K hK₀ => ?_)
  refine hK₀ _ _ _ _ _ ?_
  (repeat' (((conv => whnf); first | (show (_ : Option mg_V) = _ ∧ _; assumption) | (show K _ _ _ _ _; assumption) | (show mm_th _ _ _ _; assumption) | refine And.intro (by first | assumption | omega | (simp only [true_and]; first | done | assumption | omega)) ?_ | (refine And.intro (fun _ => ?_) (fun _ => ?_) <;> first | (exfalso; omega) | skip) | intro _ | fail)))
  all_goals ((conv => whnf); skip)
  refine Exists.intro _ (Exists.intro _ (And.intro (c₀) (And.intro (fun _ _ h₀ => h₀.elim) ?_)))
  rintro _ P ⟨rfl, hP⟩
  (repeat' (((conv => whnf); first | (show (_ : Option mg_V) = _ ∧ _; assumption) | (show K _ _ _ _ _; assumption) | (show mm_th _ _ _ _; assumption) | refine And.intro (by first | assumption | omega | (simp only [true_and]; first | done | assumption | omega)) ?_ | (refine And.intro (fun _ => ?_) (fun _ => ?_) <;> first | (exfalso; omega) | skip) | intro _ | fail)))
  all_goals ((conv => whnf); first | exact ⟨rfl, hP⟩ | exact hP | rfl | omega)
set_option maxRecDepth 100000 in
theorem wr_selected0 {D : mg_D} {l : Launch} (hl : l.stackTraces = false) {M : mg_M} {g₀ : Nat} {o : Nat} {a1₀ : Int} {N : Int → mg_M → Prop} (c₀ : mg_Mt D l 90 [.inr (.inl g₀), .inl a1₀] M (fun v₀ P => ∃ z₀, v₀ = some (.inl z₀) ∧ N z₀ P) mg_no) (kg : kd M g₀ = 6) (ho : ∀ z₀ P, N z₀ P → kd P o = 10 ∧ ln P o = 1) : mg_Mt D l 221 [.inr (.inl g₀), .inl a1₀, .inr (.inl o)] M (fun v₀ Q₀ => v₀ = some (.inl 0) ∧ ∃ z₀ P, N z₀ P ∧ Q₀ = sl P o 0 z₀) mg_no := by
  refine mg_of2 hl ok_L_selected al_L_selected rfl (fun K hK₀ => ?_)
  refine hK₀ _ _ _ _ _ ?_
  (repeat' (((conv => whnf); first | (show (_ : Option mg_V) = _ ∧ _; assumption) | (show K _ _ _ _ _; assumption) | (show mm_th _ _ _ _; assumption) | refine And.intro (by first | assumption | omega | (simp only [true_and]; first | done | assumption | omega)) ?_ | (refine And.intro (fun _ => ?_) (fun _ => ?_) <;> first | (exfalso; omega) | skip) | intro _ | fail)))
  all_goals ((conv => whnf); skip)
  refine Exists.intro _ (Exists.intro _ (And.intro (c₀) (And.intro ?_ (fun _ _ h₀ => h₀.elim))))
  rintro _ P ⟨z₀, rfl, hz⟩
  have ko := (ho z₀ P hz).1
  have lo := (ho z₀ P hz).2
  (repeat' (((conv => whnf); first | (show (_ : Option mg_V) = _ ∧ _; assumption) | (show K _ _ _ _ _; assumption) | (show mm_th _ _ _ _; assumption) | refine And.intro (by first | assumption | omega | (simp only [true_and]; first | done | assumption | omega)) ?_ | (refine And.intro (fun _ => ?_) (fun _ => ?_) <;> first | (exfalso; omega) | skip) | intro _ | fail)))
  all_goals ((conv => whnf); first | exact ⟨rfl, z₀, P, hz, rfl⟩ | exact ⟨z₀, P, hz, rfl⟩ | rfl | omega)
set_option maxRecDepth 100000 in
theorem wr_selected1 {D : mg_D} {l : Launch} (hl : l.stackTraces = false) {M : mg_M} {g₀ : Nat} {o : Nat} {a1₀ : Int} {R : mg_M → Prop} (c₀ : mg_Mt D l 90 [.inr (.inl g₀), .inl a1₀] M mh_nN (fun k₀ P => k₀ = 3 ∧ R P)) (kg : kd M g₀ = 6) : mg_Mt D l 221 [.inr (.inl g₀), .inl a1₀, .inr (.inl o)] M (fun v₀ Q₀ => v₀ = some (.inl 1) ∧ R Q₀) mg_no := by
  refine mg_of2 hl ok_L_selected al_L_selected rfl (fun K hK₀ => ?_)
  refine hK₀ _ _ _ _ _ ?_
  (repeat' (((conv => whnf); first | (show (_ : Option mg_V) = _ ∧ _; assumption) | (show K _ _ _ _ _; assumption) | (show mm_th _ _ _ _; assumption) | refine And.intro (by first | assumption | omega | (simp only [true_and]; first | done | assumption | omega)) ?_ | (refine And.intro (fun _ => ?_) (fun _ => ?_) <;> first | (exfalso; omega) | skip) | intro _ | fail)))
  all_goals ((conv => whnf); skip)
  refine Exists.intro _ (Exists.intro _ (And.intro (c₀) (And.intro (fun _ _ h₀ => h₀.elim) ?_)))
  rintro _ P ⟨rfl, hP⟩
  (repeat' (((conv => whnf); first | (show (_ : Option mg_V) = _ ∧ _; assumption) | (show K _ _ _ _ _; assumption) | (show mm_th _ _ _ _; assumption) | refine And.intro (by first | assumption | omega | (simp only [true_and]; first | done | assumption | omega)) ?_ | (refine And.intro (fun _ => ?_) (fun _ => ?_) <;> first | (exfalso; omega) | skip) | intro _ | fail)))
  all_goals ((conv => whnf); first | exact ⟨rfl, hP⟩ | exact hP | rfl | omega)
set_option maxRecDepth 100000 in
theorem wr_squaresFor0 {D : mg_D} {l : Launch} (hl : l.stackTraces = false) {M : mg_M} {g₀ : Nat} {o : Nat} {a1₀ a2 a3 a4 : Int} {N : Int → mg_M → Prop} (c₀ : mg_Mt D l 92 [.inr (.inl g₀), .inl a1₀, .inl a2, .inl a3, .inl a4] M (fun v₀ P => ∃ z₀, v₀ = some (.inl z₀) ∧ N z₀ P) mg_no) (kg : kd M g₀ = 6) (ho : ∀ z₀ P, N z₀ P → kd P o = 10 ∧ ln P o = 1) : mg_Mt D l 222 [.inr (.inl g₀), .inl a1₀, .inl a2, .inl a3, .inl a4, .inr (.inl o)] M (fun v₀ Q₀ => v₀ = some (.inl 0) ∧ ∃ z₀ P, N z₀ P ∧ Q₀ = sl P o 0 z₀) mg_no := by
  refine mg_of2 hl ok_L_squaresFor al_L_squaresFor rfl (fun K hK₀ => ?_)
  refine hK₀ _ _ _ _ _ ?_
  (repeat' (((conv => whnf); first | (show (_ : Option mg_V) = _ ∧ _; assumption) | (show K _ _ _ _ _; assumption) | (show mm_th _ _ _ _; assumption) | refine And.intro (by first | assumption | omega | (simp only [true_and]; first | done | assumption | omega)) ?_ | (refine And.intro (fun _ => ?_) (fun _ => ?_) <;> first | (exfalso; omega) | skip) | intro _ | fail)))
  all_goals ((conv => whnf); skip)
  refine Exists.intro _ (Exists.intro _ (And.intro (c₀) (And.intro ?_ (fun _ _ h₀ => h₀.elim))))
  rintro _ P ⟨z₀, rfl, hz⟩
  have ko := (ho z₀ P hz).1
  have lo := (ho z₀ P hz).2
  (repeat' (((conv => whnf); first | (show (_ : Option mg_V) = _ ∧ _; assumption) | (show K _ _ _ _ _; assumption) | (show mm_th _ _ _ _; assumption) | refine And.intro (by first | assumption | omega | (simp only [true_and]; first | done | assumption | omega)) ?_ | (refine And.intro (fun _ => ?_) (fun _ => ?_) <;> first | (exfalso; omega) | skip) | intro _ | fail)))
  all_goals ((conv => whnf); first | exact ⟨rfl, z₀, P, hz, rfl⟩ | exact ⟨z₀, P, hz, rfl⟩ | rfl | omega)
set_option maxRecDepth 100000 in
theorem wr_squaresFor1 {D : mg_D} {l : Launch} (hl : l.stackTraces = false) {M : mg_M} {g₀ : Nat} {o : Nat} {a1₀ a2 a3 a4 : Int} {R : mg_M → Prop} (c₀ : mg_Mt D l 92 [.inr (.inl g₀), .inl a1₀, .inl a2, .inl a3, .inl a4] M mh_nN (fun k₀ P => k₀ = 1 ∧ R P)) (kg : kd M g₀ = 6) : mg_Mt D l 222 [.inr (.inl g₀), .inl a1₀, .inl a2, .inl a3, .inl a4, .inr (.inl o)] M (fun v₀ Q₀ => v₀ = some (.inl 1) ∧ R Q₀) mg_no := by
  refine mg_of2 hl ok_L_squaresFor al_L_squaresFor rfl (fun K hK₀ => ?_)
  refine hK₀ _ _ _ _ _ ?_
  (repeat' (((conv => whnf); first | (show (_ : Option mg_V) = _ ∧ _; assumption) | (show K _ _ _ _ _; assumption) | (show mm_th _ _ _ _; assumption) | refine And.intro (by first | assumption | omega | (simp only [true_and]; first | done | assumption | omega)) ?_ | (refine And.intro (fun _ => ?_) (fun _ => ?_) <;> first | (exfalso; omega) | skip) | intro _ | fail)))
  all_goals ((conv => whnf); skip)
  refine Exists.intro _ (Exists.intro _ (And.intro (c₀) (And.intro (fun _ _ h₀ => h₀.elim) ?_)))
  rintro _ P ⟨rfl, hP⟩
  (repeat' (((conv => whnf); first | (show (_ : Option mg_V) = _ ∧ _; assumption) | (show K _ _ _ _ _; assumption) | (show mm_th _ _ _ _; assumption) | refine And.intro (by first | assumption | omega | (simp only [true_and]; first | done | assumption | omega)) ?_ | (refine And.intro (fun _ => ?_) (fun _ => ?_) <;> first | (exfalso; omega) | skip) | intro _ | fail)))
  all_goals ((conv => whnf); first | exact ⟨rfl, hP⟩ | exact hP | rfl | omega)
set_option maxRecDepth 100000 in
theorem wr_merge0 {D : mg_D} {l : Launch} (hl : l.stackTraces = false) {M : mg_M} {g₀ : Nat} {o : Nat} {N : Int → mg_M → Prop} (c₀ : mg_Mt D l 93 [.inr (.inl g₀)] M (fun v₀ P => ∃ z₀, v₀ = some (.inl z₀) ∧ N z₀ P) mg_no) (kg : kd M g₀ = 6) (ho : ∀ z₀ P, N z₀ P → kd P o = 10 ∧ ln P o = 1) : mg_Mt D l 223 [.inr (.inl g₀), .inr (.inl o)] M (fun v₀ Q₀ => v₀ = some (.inl 0) ∧ ∃ z₀ P, N z₀ P ∧ Q₀ = sl P o 0 z₀) mg_no := by
  refine mg_of2 hl ok_L_merge al_L_merge rfl (fun K hK₀ => ?_)
  refine hK₀ _ _ _ _ _ ?_
  (repeat' (((conv => whnf); first | (show (_ : Option mg_V) = _ ∧ _; assumption) | (show K _ _ _ _ _; assumption) | (show mm_th _ _ _ _; assumption) | refine And.intro (by first | assumption | omega | (simp only [true_and]; first | done | assumption | omega)) ?_ | (refine And.intro (fun _ => ?_) (fun _ => ?_) <;> first | (exfalso; omega) | skip) | intro _ | fail)))
  all_goals ((conv => whnf); skip)
  refine Exists.intro _ (Exists.intro _ (And.intro (c₀) (And.intro ?_ (fun _ _ h₀ => h₀.elim))))
  rintro _ P ⟨z₀, rfl, hz⟩
  have ko := (ho z₀ P hz).1
  have lo := (ho z₀ P hz).2
  (repeat' (((conv => whnf); first | (show (_ : Option mg_V) = _ ∧ _; assumption) | (show K _ _ _ _ _; assumption) | (show mm_th _ _ _ _; assumption) | refine And.intro (by first | assumption | omega | (simp only [true_and]; first | done | assumption | omega)) ?_ | (refine And.intro (fun _ => ?_) (fun _ => ?_) <;> first | (exfalso; omega) | skip) | intro _ | fail)))
  all_goals ((conv => whnf); first | exact ⟨rfl, z₀, P, hz, rfl⟩ | exact ⟨z₀, P, hz, rfl⟩ | rfl | omega)
set_option maxRecDepth 100000 in
theorem wr_merge1 {D : mg_D} {l : Launch} (hl : l.stackTraces = false) {M : mg_M} {g₀ : Nat} {o : Nat} {R : mg_M → Prop} (c₀ : mg_Mt D l 93 [.inr (.inl g₀)] M mh_nN (fun k₀ P => k₀ = 2 ∧ R P)) (kg : kd M g₀ = 6) : mg_Mt D l 223 [.inr (.inl g₀), .inr (.inl o)] M (fun v₀ Q₀ => v₀ = some (.inl 1) ∧ R Q₀) mg_no := by
  refine mg_of2 hl ok_L_merge al_L_merge rfl (fun K hK₀ => ?_)
  refine hK₀ _ _ _ _ _ ?_
  (repeat' (((conv => whnf); first | (show (_ : Option mg_V) = _ ∧ _; assumption) | (show K _ _ _ _ _; assumption) | (show mm_th _ _ _ _; assumption) | refine And.intro (by first | assumption | omega | (simp only [true_and]; first | done | assumption | omega)) ?_ | (refine And.intro (fun _ => ?_) (fun _ => ?_) <;> first | (exfalso; omega) | skip) | intro _ | fail)))
  all_goals ((conv => whnf); skip)
  refine Exists.intro _ (Exists.intro _ (And.intro (c₀) (And.intro (fun _ _ h₀ => h₀.elim) ?_)))
  rintro _ P ⟨rfl, hP⟩
  (repeat' (((conv => whnf); first | (show (_ : Option mg_V) = _ ∧ _; assumption) | (show K _ _ _ _ _; assumption) | (show mm_th _ _ _ _; assumption) | refine And.intro (by first | assumption | omega | (simp only [true_and]; first | done | assumption | omega)) ?_ | (refine And.intro (fun _ => ?_) (fun _ => ?_) <;> first | (exfalso; omega) | skip) | intro _ | fail)))
  all_goals ((conv => whnf); first | exact ⟨rfl, hP⟩ | exact hP | rfl | omega)
set_option maxRecDepth 100000 in
theorem wr_merge2 {D : mg_D} {l : Launch} (hl : l.stackTraces = false) {M : mg_M} {g₀ : Nat} {o : Nat} {R : mg_M → Prop} (c₀ : mg_Mt D l 93 [.inr (.inl g₀)] M mh_nN (fun k₀ P => k₀ = 4 ∧ R P)) (kg : kd M g₀ = 6) : mg_Mt D l 223 [.inr (.inl g₀), .inr (.inl o)] M (fun v₀ Q₀ => v₀ = some (.inl 2) ∧ R Q₀) mg_no := by
  refine mg_of2 hl ok_L_merge al_L_merge rfl (fun K hK₀ => ?_)
  refine hK₀ _ _ _ _ _ ?_
  (repeat' (((conv => whnf); first | (show (_ : Option mg_V) = _ ∧ _; assumption) | (show K _ _ _ _ _; assumption) | (show mm_th _ _ _ _; assumption) | refine And.intro (by first | assumption | omega | (simp only [true_and]; first | done | assumption | omega)) ?_ | (refine And.intro (fun _ => ?_) (fun _ => ?_) <;> first | (exfalso; omega) | skip) | intro _ | fail)))
  all_goals ((conv => whnf); skip)
  refine Exists.intro _ (Exists.intro _ (And.intro (c₀) (And.intro (fun _ _ h₀ => h₀.elim) ?_)))
  rintro _ P ⟨rfl, hP⟩
  (repeat' (((conv => whnf); first | (show (_ : Option mg_V) = _ ∧ _; assumption) | (show K _ _ _ _ _; assumption) | (show mm_th _ _ _ _; assumption) | refine And.intro (by first | assumption | omega | (simp only [true_and]; first | done | assumption | omega)) ?_ | (refine And.intro (fun _ => ?_) (fun _ => ?_) <;> first | (exfalso; omega) | skip) | intro _ | fail)))
  all_goals ((conv => whnf); first | exact ⟨rfl, hP⟩ | exact hP | rfl | omega)
set_option maxRecDepth 100000 in
theorem wr_split0 {D : mg_D} {l : Launch} (hl : l.stackTraces = false) {M : mg_M} {g₀ : Nat} {o : Nat} {a1₀ a2 a3 : Int} {N : Int → mg_M → Prop} (c₀ : mg_Mt D l 94 [.inr (.inl g₀), .inl a1₀, .inl a2, .inl a3] M (fun v₀ P => ∃ z₀, v₀ = some (.inl z₀) ∧ N z₀ P) mg_no) (kg : kd M g₀ = 6) (ho : ∀ z₀ P, N z₀ P → kd P o = 10 ∧ ln P o = 1) : mg_Mt D l 224 [.inr (.inl g₀), .inl a1₀, .inl a2, .inl a3, .inr (.inl o)] M (fun v₀ Q₀ => v₀ = some (.inl 0) ∧ ∃ z₀ P, N z₀ P ∧ Q₀ = sl P o 0 z₀) mg_no := by
  refine mg_of2 hl ok_L_split al_L_split rfl (fun K hK₀ => ?_)
  refine hK₀ _ _ _ _ _ ?_
  (repeat' (((conv => whnf); first | (show (_ : Option mg_V) = _ ∧ _; assumption) | (show K _ _ _ _ _; assumption) | (show mm_th _ _ _ _; assumption) | refine And.intro (by first | assumption | omega | (simp only [true_and]; first | done | assumption | omega)) ?_ | (refine And.intro (fun _ => ?_) (fun _ => ?_) <;> first | (exfalso; omega) | skip) | intro _ | fail)))
  all_goals ((conv => whnf); skip)
  refine Exists.intro _ (Exists.intro _ (And.intro (c₀) (And.intro ?_ (fun _ _ h₀ => h₀.elim))))
  rintro _ P ⟨z₀, rfl, hz⟩
  have ko := (ho z₀ P hz).1
  have lo := (ho z₀ P hz).2
  (repeat' (((conv => whnf); first | (show (_ : Option mg_V) = _ ∧ _; assumption) | (show K _ _ _ _ _; assumption) | (show mm_th _ _ _ _; assumption) | refine And.intro (by first | assumption | omega | (simp only [true_and]; first | done | assumption | omega)) ?_ | (refine And.intro (fun _ => ?_) (fun _ => ?_) <;> first | (exfalso; omega) | skip) | intro _ | fail)))
  all_goals ((conv => whnf); first | exact ⟨rfl, z₀, P, hz, rfl⟩ | exact ⟨z₀, P, hz, rfl⟩ | rfl | omega)
set_option maxRecDepth 100000 in
theorem wr_split1 {D : mg_D} {l : Launch} (hl : l.stackTraces = false) {M : mg_M} {g₀ : Nat} {o : Nat} {a1₀ a2 a3 : Int} {R : mg_M → Prop} (c₀ : mg_Mt D l 94 [.inr (.inl g₀), .inl a1₀, .inl a2, .inl a3] M mh_nN (fun k₀ P => k₀ = 1 ∧ R P)) (kg : kd M g₀ = 6) : mg_Mt D l 224 [.inr (.inl g₀), .inl a1₀, .inl a2, .inl a3, .inr (.inl o)] M (fun v₀ Q₀ => v₀ = some (.inl 1) ∧ R Q₀) mg_no := by
  refine mg_of2 hl ok_L_split al_L_split rfl (fun K hK₀ => ?_)
  refine hK₀ _ _ _ _ _ ?_
  (repeat' (((conv => whnf); first | (show (_ : Option mg_V) = _ ∧ _; assumption) | (show K _ _ _ _ _; assumption) | (show mm_th _ _ _ _; assumption) | refine And.intro (by first | assumption | omega | (simp only [true_and]; first | done | assumption | omega)) ?_ | (refine And.intro (fun _ => ?_) (fun _ => ?_) <;> first | (exfalso; omega) | skip) | intro _ | fail)))
  all_goals ((conv => whnf); skip)
  refine Exists.intro _ (Exists.intro _ (And.intro (c₀) (And.intro (fun _ _ h₀ => h₀.elim) ?_)))
  rintro _ P ⟨rfl, hP⟩
  (repeat' (((conv => whnf); first | (show (_ : Option mg_V) = _ ∧ _; assumption) | (show K _ _ _ _ _; assumption) | (show mm_th _ _ _ _; assumption) | refine And.intro (by first | assumption | omega | (simp only [true_and]; first | done | assumption | omega)) ?_ | (refine And.intro (fun _ => ?_) (fun _ => ?_) <;> first | (exfalso; omega) | skip) | intro _ | fail)))
  all_goals ((conv => whnf); first | exact ⟨rfl, hP⟩ | exact hP | rfl | omega)
set_option maxRecDepth 100000 in
theorem wr_split2 {D : mg_D} {l : Launch} (hl : l.stackTraces = false) {M : mg_M} {g₀ : Nat} {o : Nat} {a1₀ a2 a3 : Int} {R : mg_M → Prop} (c₀ : mg_Mt D l 94 [.inr (.inl g₀), .inl a1₀, .inl a2, .inl a3] M mh_nN (fun k₀ P => k₀ = 3 ∧ R P)) (kg : kd M g₀ = 6) : mg_Mt D l 224 [.inr (.inl g₀), .inl a1₀, .inl a2, .inl a3, .inr (.inl o)] M (fun v₀ Q₀ => v₀ = some (.inl 2) ∧ R Q₀) mg_no := by
  refine mg_of2 hl ok_L_split al_L_split rfl (fun K hK₀ => ?_)
  refine hK₀ _ _ _ _ _ ?_
  (repeat' (((conv => whnf); first | (show (_ : Option mg_V) = _ ∧ _; assumption) | (show K _ _ _ _ _; assumption) | (show mm_th _ _ _ _; assumption) | refine And.intro (by first | assumption | omega | (simp only [true_and]; first | done | assumption | omega)) ?_ | (refine And.intro (fun _ => ?_) (fun _ => ?_) <;> first | (exfalso; omega) | skip) | intro _ | fail)))
  all_goals ((conv => whnf); skip)
  refine Exists.intro _ (Exists.intro _ (And.intro (c₀) (And.intro (fun _ _ h₀ => h₀.elim) ?_)))
  rintro _ P ⟨rfl, hP⟩
  (repeat' (((conv => whnf); first | (show (_ : Option mg_V) = _ ∧ _; assumption) | (show K _ _ _ _ _; assumption) | (show mm_th _ _ _ _; assumption) | refine And.intro (by first | assumption | omega | (simp only [true_and]; first | done | assumption | omega)) ?_ | (refine And.intro (fun _ => ?_) (fun _ => ?_) <;> first | (exfalso; omega) | skip) | intro _ | fail)))
  all_goals ((conv => whnf); first | exact ⟨rfl, hP⟩ | exact hP | rfl | omega)
set_option maxRecDepth 100000 in
theorem wr_split3 {D : mg_D} {l : Launch} (hl : l.stackTraces = false) {M : mg_M} {g₀ : Nat} {o : Nat} {a1₀ a2 a3 : Int} {R : mg_M → Prop} (c₀ : mg_Mt D l 94 [.inr (.inl g₀), .inl a1₀, .inl a2, .inl a3] M mh_nN (fun k₀ P => k₀ = 2 ∧ R P)) (kg : kd M g₀ = 6) : mg_Mt D l 224 [.inr (.inl g₀), .inl a1₀, .inl a2, .inl a3, .inr (.inl o)] M (fun v₀ Q₀ => v₀ = some (.inl 3) ∧ R Q₀) mg_no := by
  refine mg_of2 hl ok_L_split al_L_split rfl (fun K hK₀ => ?_)
  refine hK₀ _ _ _ _ _ ?_
  (repeat' (((conv => whnf); first | (show (_ : Option mg_V) = _ ∧ _; assumption) | (show K _ _ _ _ _; assumption) | (show mm_th _ _ _ _; assumption) | refine And.intro (by first | assumption | omega | (simp only [true_and]; first | done | assumption | omega)) ?_ | (refine And.intro (fun _ => ?_) (fun _ => ?_) <;> first | (exfalso; omega) | skip) | intro _ | fail)))
  all_goals ((conv => whnf); skip)
  refine Exists.intro _ (Exists.intro _ (And.intro (c₀) (And.intro (fun _ _ h₀ => h₀.elim) ?_)))
  rintro _ P ⟨rfl, hP⟩
  (repeat' (((conv => whnf); first | (show (_ : Option mg_V) = _ ∧ _; assumption) | (show K _ _ _ _ _; assumption) | (show mm_th _ _ _ _; assumption) | refine And.intro (by first | assumption | omega | (simp only [true_and]; first | done | assumption | omega)) ?_ | (refine And.intro (fun _ => ?_) (fun _ => ?_) <;> first | (exfalso; omega) | skip) | intro _ | fail)))
  all_goals ((conv => whnf); first | exact ⟨rfl, hP⟩ | exact hP | rfl | omega)
set_option maxRecDepth 100000 in
theorem wr_clear0 {D : mg_D} {l : Launch} (hl : l.stackTraces = false) {M : mg_M} {g₀ : Nat} {o : Nat} {N : Int → mg_M → Prop} (c₀ : mg_Mt D l 95 [.inr (.inl g₀)] M (fun v₀ P => ∃ z₀, v₀ = some (.inl z₀) ∧ N z₀ P) mg_no) (kg : kd M g₀ = 6) (ho : ∀ z₀ P, N z₀ P → kd P o = 10 ∧ ln P o = 1) : mg_Mt D l 225 [.inr (.inl g₀), .inr (.inl o)] M (fun v₀ Q₀ => v₀ = some (.inl 0) ∧ ∃ z₀ P, N z₀ P ∧ Q₀ = sl P o 0 z₀) mg_no := by
  refine mg_of2 hl ok_L_clear al_L_clear rfl (fun K hK₀ => ?_)
  refine hK₀ _ _ _ _ _ ?_
  (repeat' (((conv => whnf); first | (show (_ : Option mg_V) = _ ∧ _; assumption) | (show K _ _ _ _ _; assumption) | (show mm_th _ _ _ _; assumption) | refine And.intro (by first | assumption | omega | (simp only [true_and]; first | done | assumption | omega)) ?_ | (refine And.intro (fun _ => ?_) (fun _ => ?_) <;> first | (exfalso; omega) | skip) | intro _ | fail)))
  all_goals ((conv => whnf); skip)
  refine Exists.intro _ (Exists.intro _ (And.intro (c₀) (And.intro ?_ (fun _ _ h₀ => h₀.elim))))
  rintro _ P ⟨z₀, rfl, hz⟩
  have ko := (ho z₀ P hz).1
  have lo := (ho z₀ P hz).2
  (repeat' (((conv => whnf); first | (show (_ : Option mg_V) = _ ∧ _; assumption) | (show K _ _ _ _ _; assumption) | (show mm_th _ _ _ _; assumption) | refine And.intro (by first | assumption | omega | (simp only [true_and]; first | done | assumption | omega)) ?_ | (refine And.intro (fun _ => ?_) (fun _ => ?_) <;> first | (exfalso; omega) | skip) | intro _ | fail)))
  all_goals ((conv => whnf); first | exact ⟨rfl, z₀, P, hz, rfl⟩ | exact ⟨z₀, P, hz, rfl⟩ | rfl | omega)
set_option maxRecDepth 100000 in
theorem wr_clear1 {D : mg_D} {l : Launch} (hl : l.stackTraces = false) {M : mg_M} {g₀ : Nat} {o : Nat} {R : mg_M → Prop} (c₀ : mg_Mt D l 95 [.inr (.inl g₀)] M mh_nN (fun k₀ P => k₀ = 2 ∧ R P)) (kg : kd M g₀ = 6) : mg_Mt D l 225 [.inr (.inl g₀), .inr (.inl o)] M (fun v₀ Q₀ => v₀ = some (.inl 1) ∧ R Q₀) mg_no := by
  refine mg_of2 hl ok_L_clear al_L_clear rfl (fun K hK₀ => ?_)
  refine hK₀ _ _ _ _ _ ?_
  (repeat' (((conv => whnf); first | (show (_ : Option mg_V) = _ ∧ _; assumption) | (show K _ _ _ _ _; assumption) | (show mm_th _ _ _ _; assumption) | refine And.intro (by first | assumption | omega | (simp only [true_and]; first | done | assumption | omega)) ?_ | (refine And.intro (fun _ => ?_) (fun _ => ?_) <;> first | (exfalso; omega) | skip) | intro _ | fail)))
  all_goals ((conv => whnf); skip)
  refine Exists.intro _ (Exists.intro _ (And.intro (c₀) (And.intro (fun _ _ h₀ => h₀.elim) ?_)))
  rintro _ P ⟨rfl, hP⟩
  (repeat' (((conv => whnf); first | (show (_ : Option mg_V) = _ ∧ _; assumption) | (show K _ _ _ _ _; assumption) | (show mm_th _ _ _ _; assumption) | refine And.intro (by first | assumption | omega | (simp only [true_and]; first | done | assumption | omega)) ?_ | (refine And.intro (fun _ => ?_) (fun _ => ?_) <;> first | (exfalso; omega) | skip) | intro _ | fail)))
  all_goals ((conv => whnf); first | exact ⟨rfl, hP⟩ | exact hP | rfl | omega)
set_option maxRecDepth 100000 in
theorem wr_paste0 {D : mg_D} {l : Launch} (hl : l.stackTraces = false) {M : mg_M} {g₀ : Nat} {o : Nat} {a1₀ a2 a3 a4 : Int} {N : Int → mg_M → Prop} (c₀ : mg_Mt D l 97 [.inr (.inl g₀), .inl a1₀, .inl a2, .inl a3, .inl a4] M (fun v₀ P => ∃ z₀, v₀ = some (.inl z₀) ∧ N z₀ P) mg_no) (kg : kd M g₀ = 6) (ho : ∀ z₀ P, N z₀ P → kd P o = 10 ∧ ln P o = 1) : mg_Mt D l 226 [.inr (.inl g₀), .inl a1₀, .inl a2, .inl a3, .inl a4, .inr (.inl o)] M (fun v₀ Q₀ => v₀ = some (.inl 0) ∧ ∃ z₀ P, N z₀ P ∧ Q₀ = sl P o 0 z₀) mg_no := by
  refine mg_of2 hl ok_L_paste al_L_paste rfl (fun K hK₀ => ?_)
  refine hK₀ _ _ _ _ _ ?_
  (repeat' (((conv => whnf); first | (show (_ : Option mg_V) = _ ∧ _; assumption) | (show K _ _ _ _ _; assumption) | (show mm_th _ _ _ _; assumption) | refine And.intro (by first | assumption | omega | (simp only [true_and]; first | done | assumption | omega)) ?_ | (refine And.intro (fun _ => ?_) (fun _ => ?_) <;> first | (exfalso; omega) | skip) | intro _ | fail)))
  all_goals ((conv => whnf); skip)
  refine Exists.intro _ (Exists.intro _ (And.intro (c₀) (And.intro ?_ (fun _ _ h₀ => h₀.elim))))
  rintro _ P ⟨z₀, rfl, hz⟩
  have ko := (ho z₀ P hz).1
  have lo := (ho z₀ P hz).2
  (repeat' (((conv => whnf); first | (show (_ : Option mg_V) = _ ∧ _; assumption) | (show K _ _ _ _ _; assumption) | (show mm_th _ _ _ _; assumption) | refine And.intro (by first | assumption | omega | (simp only [true_and]; first | done | assumption | omega)) ?_ | (refine And.intro (fun _ => ?_) (fun _ => ?_) <;> first | (exfalso; omega) | skip) | intro _ | fail)))
  all_goals ((conv => whnf); first | exact ⟨rfl, z₀, P, hz, rfl⟩ | exact ⟨z₀, P, hz, rfl⟩ | rfl | omega)
set_option maxRecDepth 100000 in
theorem wr_paste1 {D : mg_D} {l : Launch} (hl : l.stackTraces = false) {M : mg_M} {g₀ : Nat} {o : Nat} {a1₀ a2 a3 a4 : Int} {R : mg_M → Prop} (c₀ : mg_Mt D l 97 [.inr (.inl g₀), .inl a1₀, .inl a2, .inl a3, .inl a4] M mh_nN (fun k₀ P => k₀ = 1 ∧ R P)) (kg : kd M g₀ = 6) : mg_Mt D l 226 [.inr (.inl g₀), .inl a1₀, .inl a2, .inl a3, .inl a4, .inr (.inl o)] M (fun v₀ Q₀ => v₀ = some (.inl 1) ∧ R Q₀) mg_no := by
  refine mg_of2 hl ok_L_paste al_L_paste rfl (fun K hK₀ => ?_)
  refine hK₀ _ _ _ _ _ ?_
  (repeat' (((conv => whnf); first | (show (_ : Option mg_V) = _ ∧ _; assumption) | (show K _ _ _ _ _; assumption) | (show mm_th _ _ _ _; assumption) | refine And.intro (by first | assumption | omega | (simp only [true_and]; first | done | assumption | omega)) ?_ | (refine And.intro (fun _ => ?_) (fun _ => ?_) <;> first | (exfalso; omega) | skip) | intro _ | fail)))
  all_goals ((conv => whnf); skip)
  refine Exists.intro _ (Exists.intro _ (And.intro (c₀) (And.intro (fun _ _ h₀ => h₀.elim) ?_)))
  rintro _ P ⟨rfl, hP⟩
  (repeat' (((conv => whnf); first | (show (_ : Option mg_V) = _ ∧ _; assumption) | (show K _ _ _ _ _; assumption) | (show mm_th _ _ _ _; assumption) | refine And.intro (by first | assumption | omega | (simp only [true_and]; first | done | assumption | omega)) ?_ | (refine And.intro (fun _ => ?_) (fun _ => ?_) <;> first | (exfalso; omega) | skip) | intro _ | fail)))
  all_goals ((conv => whnf); first | exact ⟨rfl, hP⟩ | exact hP | rfl | omega)
set_option maxRecDepth 100000 in
theorem wr_paste2 {D : mg_D} {l : Launch} (hl : l.stackTraces = false) {M : mg_M} {g₀ : Nat} {o : Nat} {a1₀ a2 a3 a4 : Int} {R : mg_M → Prop} (c₀ : mg_Mt D l 97 [.inr (.inl g₀), .inl a1₀, .inl a2, .inl a3, .inl a4] M mh_nN (fun k₀ P => k₀ = 3 ∧ R P)) (kg : kd M g₀ = 6) : mg_Mt D l 226 [.inr (.inl g₀), .inl a1₀, .inl a2, .inl a3, .inl a4, .inr (.inl o)] M (fun v₀ Q₀ => v₀ = some (.inl 2) ∧ R Q₀) mg_no := by
  refine mg_of2 hl ok_L_paste al_L_paste rfl (fun K hK₀ => ?_)
  refine hK₀ _ _ _ _ _ ?_
  (repeat' (((conv => whnf); first | (show (_ : Option mg_V) = _ ∧ _; assumption) | (show K _ _ _ _ _; assumption) | (show mm_th _ _ _ _; assumption) | refine And.intro (by first | assumption | omega | (simp only [true_and]; first | done | assumption | omega)) ?_ | (refine And.intro (fun _ => ?_) (fun _ => ?_) <;> first | (exfalso; omega) | skip) | intro _ | fail)))
  all_goals ((conv => whnf); skip)
  refine Exists.intro _ (Exists.intro _ (And.intro (c₀) (And.intro (fun _ _ h₀ => h₀.elim) ?_)))
  rintro _ P ⟨rfl, hP⟩
  (repeat' (((conv => whnf); first | (show (_ : Option mg_V) = _ ∧ _; assumption) | (show K _ _ _ _ _; assumption) | (show mm_th _ _ _ _; assumption) | refine And.intro (by first | assumption | omega | (simp only [true_and]; first | done | assumption | omega)) ?_ | (refine And.intro (fun _ => ?_) (fun _ => ?_) <;> first | (exfalso; omega) | skip) | intro _ | fail)))
  all_goals ((conv => whnf); first | exact ⟨rfl, hP⟩ | exact hP | rfl | omega)
set_option maxRecDepth 100000 in
theorem wr_paste3 {D : mg_D} {l : Launch} (hl : l.stackTraces = false) {M : mg_M} {g₀ : Nat} {o : Nat} {a1₀ a2 a3 a4 : Int} {R : mg_M → Prop} (c₀ : mg_Mt D l 97 [.inr (.inl g₀), .inl a1₀, .inl a2, .inl a3, .inl a4] M mh_nN (fun k₀ P => k₀ = 2 ∧ R P)) (kg : kd M g₀ = 6) : mg_Mt D l 226 [.inr (.inl g₀), .inl a1₀, .inl a2, .inl a3, .inl a4, .inr (.inl o)] M (fun v₀ Q₀ => v₀ = some (.inl 3) ∧ R Q₀) mg_no := by
  refine mg_of2 hl ok_L_paste al_L_paste rfl (fun K hK₀ => ?_)
  refine hK₀ _ _ _ _ _ ?_
  (repeat' (((conv => whnf); first | (show (_ : Option mg_V) = _ ∧ _; assumption) | (show K _ _ _ _ _; assumption) | (show mm_th _ _ _ _; assumption) | refine And.intro (by first | assumption | omega | (simp only [true_and]; first | done | assumption | omega)) ?_ | (refine And.intro (fun _ => ?_) (fun _ => ?_) <;> first | (exfalso; omega) | skip) | intro _ | fail)))
  all_goals ((conv => whnf); skip)
  refine Exists.intro _ (Exists.intro _ (And.intro (c₀) (And.intro (fun _ _ h₀ => h₀.elim) ?_)))
  rintro _ P ⟨rfl, hP⟩
  (repeat' (((conv => whnf); first | (show (_ : Option mg_V) = _ ∧ _; assumption) | (show K _ _ _ _ _; assumption) | (show mm_th _ _ _ _; assumption) | refine And.intro (by first | assumption | omega | (simp only [true_and]; first | done | assumption | omega)) ?_ | (refine And.intro (fun _ => ?_) (fun _ => ?_) <;> first | (exfalso; omega) | skip) | intro _ | fail)))
  all_goals ((conv => whnf); first | exact ⟨rfl, hP⟩ | exact hP | rfl | omega)
set_option maxRecDepth 100000 in
theorem wr_paste4 {D : mg_D} {l : Launch} (hl : l.stackTraces = false) {M : mg_M} {g₀ : Nat} {o : Nat} {a1₀ a2 a3 a4 : Int} {R : mg_M → Prop} (c₀ : mg_Mt D l 97 [.inr (.inl g₀), .inl a1₀, .inl a2, .inl a3, .inl a4] M mh_nN (fun k₀ P => k₀ = 4 ∧ R P)) (kg : kd M g₀ = 6) : mg_Mt D l 226 [.inr (.inl g₀), .inl a1₀, .inl a2, .inl a3, .inl a4, .inr (.inl o)] M (fun v₀ Q₀ => v₀ = some (.inl 4) ∧ R Q₀) mg_no := by
  refine mg_of2 hl ok_L_paste al_L_paste rfl (fun K hK₀ => ?_)
  refine hK₀ _ _ _ _ _ ?_
  (repeat' (((conv => whnf); first | (show (_ : Option mg_V) = _ ∧ _; assumption) | (show K _ _ _ _ _; assumption) | (show mm_th _ _ _ _; assumption) | refine And.intro (by first | assumption | omega | (simp only [true_and]; first | done | assumption | omega)) ?_ | (refine And.intro (fun _ => ?_) (fun _ => ?_) <;> first | (exfalso; omega) | skip) | intro _ | fail)))
  all_goals ((conv => whnf); skip)
  refine Exists.intro _ (Exists.intro _ (And.intro (c₀) (And.intro (fun _ _ h₀ => h₀.elim) ?_)))
  rintro _ P ⟨rfl, hP⟩
  (repeat' (((conv => whnf); first | (show (_ : Option mg_V) = _ ∧ _; assumption) | (show K _ _ _ _ _; assumption) | (show mm_th _ _ _ _; assumption) | refine And.intro (by first | assumption | omega | (simp only [true_and]; first | done | assumption | omega)) ?_ | (refine And.intro (fun _ => ?_) (fun _ => ?_) <;> first | (exfalso; omega) | skip) | intro _ | fail)))
  all_goals ((conv => whnf); first | exact ⟨rfl, hP⟩ | exact hP | rfl | omega)
set_option maxRecDepth 100000 in
theorem wr_setHeader0 {D : mg_D} {l : Launch} (hl : l.stackTraces = false) {M : mg_M} {g₀ : Nat} {o : Nat} {a1₀ : Int} {N : Int → mg_M → Prop} (c₀ : mg_Mt D l 98 [.inr (.inl g₀), .inl a1₀] M (fun v₀ P => ∃ z₀, v₀ = some (.inl z₀) ∧ N z₀ P) mg_no) (kg : kd M g₀ = 6) (ho : ∀ z₀ P, N z₀ P → kd P o = 10 ∧ ln P o = 1) : mg_Mt D l 227 [.inr (.inl g₀), .inl a1₀, .inr (.inl o)] M (fun v₀ Q₀ => v₀ = some (.inl 0) ∧ ∃ z₀ P, N z₀ P ∧ Q₀ = sl P o 0 z₀) mg_no := by
  refine mg_of2 hl ok_L_setHeader al_L_setHeader rfl (fun K hK₀ => ?_)
  refine hK₀ _ _ _ _ _ ?_
  (repeat' (((conv => whnf); first | (show (_ : Option mg_V) = _ ∧ _; assumption) | (show K _ _ _ _ _; assumption) | (show mm_th _ _ _ _; assumption) | refine And.intro (by first | assumption | omega | (simp only [true_and]; first | done | assumption | omega)) ?_ | (refine And.intro (fun _ => ?_) (fun _ => ?_) <;> first | (exfalso; omega) | skip) | intro _ | fail)))
  all_goals ((conv => whnf); skip)
  refine Exists.intro _ (Exists.intro _ (And.intro (c₀) (And.intro ?_ (fun _ _ h₀ => h₀.elim))))
  rintro _ P ⟨z₀, rfl, hz⟩
  have ko := (ho z₀ P hz).1
  have lo := (ho z₀ P hz).2
  (repeat' (((conv => whnf); first | (show (_ : Option mg_V) = _ ∧ _; assumption) | (show K _ _ _ _ _; assumption) | (show mm_th _ _ _ _; assumption) | refine And.intro (by first | assumption | omega | (simp only [true_and]; first | done | assumption | omega)) ?_ | (refine And.intro (fun _ => ?_) (fun _ => ?_) <;> first | (exfalso; omega) | skip) | intro _ | fail)))
  all_goals ((conv => whnf); first | exact ⟨rfl, z₀, P, hz, rfl⟩ | exact ⟨z₀, P, hz, rfl⟩ | rfl | omega)
set_option maxRecDepth 100000 in
theorem wr_setHeader1 {D : mg_D} {l : Launch} (hl : l.stackTraces = false) {M : mg_M} {g₀ : Nat} {o : Nat} {a1₀ : Int} {R : mg_M → Prop} (c₀ : mg_Mt D l 98 [.inr (.inl g₀), .inl a1₀] M mh_nN (fun k₀ P => k₀ = 3 ∧ R P)) (kg : kd M g₀ = 6) : mg_Mt D l 227 [.inr (.inl g₀), .inl a1₀, .inr (.inl o)] M (fun v₀ Q₀ => v₀ = some (.inl 1) ∧ R Q₀) mg_no := by
  refine mg_of2 hl ok_L_setHeader al_L_setHeader rfl (fun K hK₀ => ?_)
  refine hK₀ _ _ _ _ _ ?_
  (repeat' (((conv => whnf); first | (show (_ : Option mg_V) = _ ∧ _; assumption) | (show K _ _ _ _ _; assumption) | (show mm_th _ _ _ _; assumption) | refine And.intro (by first | assumption | omega | (simp only [true_and]; first | done | assumption | omega)) ?_ | (refine And.intro (fun _ => ?_) (fun _ => ?_) <;> first | (exfalso; omega) | skip) | intro _ | fail)))
  all_goals ((conv => whnf); skip)
  refine Exists.intro _ (Exists.intro _ (And.intro (c₀) (And.intro (fun _ _ h₀ => h₀.elim) ?_)))
  rintro _ P ⟨rfl, hP⟩
  (repeat' (((conv => whnf); first | (show (_ : Option mg_V) = _ ∧ _; assumption) | (show K _ _ _ _ _; assumption) | (show mm_th _ _ _ _; assumption) | refine And.intro (by first | assumption | omega | (simp only [true_and]; first | done | assumption | omega)) ?_ | (refine And.intro (fun _ => ?_) (fun _ => ?_) <;> first | (exfalso; omega) | skip) | intro _ | fail)))
  all_goals ((conv => whnf); first | exact ⟨rfl, hP⟩ | exact hP | rfl | omega)
set_option maxRecDepth 100000 in
theorem wr_setHeader2 {D : mg_D} {l : Launch} (hl : l.stackTraces = false) {M : mg_M} {g₀ : Nat} {o : Nat} {a1₀ : Int} {R : mg_M → Prop} (c₀ : mg_Mt D l 98 [.inr (.inl g₀), .inl a1₀] M mh_nN (fun k₀ P => k₀ = 4 ∧ R P)) (kg : kd M g₀ = 6) : mg_Mt D l 227 [.inr (.inl g₀), .inl a1₀, .inr (.inl o)] M (fun v₀ Q₀ => v₀ = some (.inl 2) ∧ R Q₀) mg_no := by
  refine mg_of2 hl ok_L_setHeader al_L_setHeader rfl (fun K hK₀ => ?_)
  refine hK₀ _ _ _ _ _ ?_
  (repeat' (((conv => whnf); first | (show (_ : Option mg_V) = _ ∧ _; assumption) | (show K _ _ _ _ _; assumption) | (show mm_th _ _ _ _; assumption) | refine And.intro (by first | assumption | omega | (simp only [true_and]; first | done | assumption | omega)) ?_ | (refine And.intro (fun _ => ?_) (fun _ => ?_) <;> first | (exfalso; omega) | skip) | intro _ | fail)))
  all_goals ((conv => whnf); skip)
  refine Exists.intro _ (Exists.intro _ (And.intro (c₀) (And.intro (fun _ _ h₀ => h₀.elim) ?_)))
  rintro _ P ⟨rfl, hP⟩
  (repeat' (((conv => whnf); first | (show (_ : Option mg_V) = _ ∧ _; assumption) | (show K _ _ _ _ _; assumption) | (show mm_th _ _ _ _; assumption) | refine And.intro (by first | assumption | omega | (simp only [true_and]; first | done | assumption | omega)) ?_ | (refine And.intro (fun _ => ?_) (fun _ => ?_) <;> first | (exfalso; omega) | skip) | intro _ | fail)))
  all_goals ((conv => whnf); first | exact ⟨rfl, hP⟩ | exact hP | rfl | omega)
set_option maxRecDepth 100000 in
theorem wr_sort0 {D : mg_D} {l : Launch} (hl : l.stackTraces = false) {M : mg_M} {g₀ : Nat} {o : Nat} {a1₀ a2 : Int} {N : Int → mg_M → Prop} (c₀ : mg_Mt D l 100 [.inr (.inl g₀), .inl a1₀, .inl a2] M (fun v₀ P => ∃ z₀, v₀ = some (.inl z₀) ∧ N z₀ P) mg_no) (kg : kd M g₀ = 6) (ho : ∀ z₀ P, N z₀ P → kd P o = 10 ∧ ln P o = 1) : mg_Mt D l 228 [.inr (.inl g₀), .inl a1₀, .inl a2, .inr (.inl o)] M (fun v₀ Q₀ => v₀ = some (.inl 0) ∧ ∃ z₀ P, N z₀ P ∧ Q₀ = sl P o 0 z₀) mg_no := by
  refine mg_of2 hl ok_L_sort al_L_sort rfl (fun K hK₀ => ?_)
  refine hK₀ _ _ _ _ _ ?_
  (repeat' (((conv => whnf); first | (show (_ : Option mg_V) = _ ∧ _; assumption) | (show K _ _ _ _ _; assumption) | (show mm_th _ _ _ _; assumption) | refine And.intro (by first | assumption | omega | (simp only [true_and]; first | done | assumption | omega)) ?_ | (refine And.intro (fun _ => ?_) (fun _ => ?_) <;> first | (exfalso; omega) | skip) | intro _ | fail)))
  all_goals ((conv => whnf); skip)
  refine Exists.intro _ (Exists.intro _ (And.intro (c₀) (And.intro ?_ (fun _ _ h₀ => h₀.elim))))
  rintro _ P ⟨z₀, rfl, hz⟩
  have ko := (ho z₀ P hz).1
  have lo := (ho z₀ P hz).2
  (repeat' (((conv => whnf); first | (show (_ : Option mg_V) = _ ∧ _; assumption) | (show K _ _ _ _ _; assumption) | (show mm_th _ _ _ _; assumption) | refine And.intro (by first | assumption | omega | (simp only [true_and]; first | done | assumption | omega)) ?_ | (refine And.intro (fun _ => ?_) (fun _ => ?_) <;> first | (exfalso; omega) | skip) | intro _ | fail)))
  all_goals ((conv => whnf); first | exact ⟨rfl, z₀, P, hz, rfl⟩ | exact ⟨z₀, P, hz, rfl⟩ | rfl | omega)
set_option maxRecDepth 100000 in
theorem wr_sort1 {D : mg_D} {l : Launch} (hl : l.stackTraces = false) {M : mg_M} {g₀ : Nat} {o : Nat} {a1₀ a2 : Int} {R : mg_M → Prop} (c₀ : mg_Mt D l 100 [.inr (.inl g₀), .inl a1₀, .inl a2] M mh_nN (fun k₀ P => k₀ = 1 ∧ R P)) (kg : kd M g₀ = 6) : mg_Mt D l 228 [.inr (.inl g₀), .inl a1₀, .inl a2, .inr (.inl o)] M (fun v₀ Q₀ => v₀ = some (.inl 1) ∧ R Q₀) mg_no := by
  refine mg_of2 hl ok_L_sort al_L_sort rfl (fun K hK₀ => ?_)
  refine hK₀ _ _ _ _ _ ?_
  (repeat' (((conv => whnf); first | (show (_ : Option mg_V) = _ ∧ _; assumption) | (show K _ _ _ _ _; assumption) | (show mm_th _ _ _ _; assumption) | refine And.intro (by first | assumption | omega | (simp only [true_and]; first | done | assumption | omega)) ?_ | (refine And.intro (fun _ => ?_) (fun _ => ?_) <;> first | (exfalso; omega) | skip) | intro _ | fail)))
  all_goals ((conv => whnf); skip)
  refine Exists.intro _ (Exists.intro _ (And.intro (c₀) (And.intro (fun _ _ h₀ => h₀.elim) ?_)))
  rintro _ P ⟨rfl, hP⟩
  (repeat' (((conv => whnf); first | (show (_ : Option mg_V) = _ ∧ _; assumption) | (show K _ _ _ _ _; assumption) | (show mm_th _ _ _ _; assumption) | refine And.intro (by first | assumption | omega | (simp only [true_and]; first | done | assumption | omega)) ?_ | (refine And.intro (fun _ => ?_) (fun _ => ?_) <;> first | (exfalso; omega) | skip) | intro _ | fail)))
  all_goals ((conv => whnf); first | exact ⟨rfl, hP⟩ | exact hP | rfl | omega)
set_option maxRecDepth 100000 in
theorem wr_sort2 {D : mg_D} {l : Launch} (hl : l.stackTraces = false) {M : mg_M} {g₀ : Nat} {o : Nat} {a1₀ a2 : Int} {R : mg_M → Prop} (c₀ : mg_Mt D l 100 [.inr (.inl g₀), .inl a1₀, .inl a2] M mh_nN (fun k₀ P => k₀ = 4 ∧ R P)) (kg : kd M g₀ = 6) : mg_Mt D l 228 [.inr (.inl g₀), .inl a1₀, .inl a2, .inr (.inl o)] M (fun v₀ Q₀ => v₀ = some (.inl 2) ∧ R Q₀) mg_no := by
  refine mg_of2 hl ok_L_sort al_L_sort rfl (fun K hK₀ => ?_)
  refine hK₀ _ _ _ _ _ ?_
  (repeat' (((conv => whnf); first | (show (_ : Option mg_V) = _ ∧ _; assumption) | (show K _ _ _ _ _; assumption) | (show mm_th _ _ _ _; assumption) | refine And.intro (by first | assumption | omega | (simp only [true_and]; first | done | assumption | omega)) ?_ | (refine And.intro (fun _ => ?_) (fun _ => ?_) <;> first | (exfalso; omega) | skip) | intro _ | fail)))
  all_goals ((conv => whnf); skip)
  refine Exists.intro _ (Exists.intro _ (And.intro (c₀) (And.intro (fun _ _ h₀ => h₀.elim) ?_)))
  rintro _ P ⟨rfl, hP⟩
  (repeat' (((conv => whnf); first | (show (_ : Option mg_V) = _ ∧ _; assumption) | (show K _ _ _ _ _; assumption) | (show mm_th _ _ _ _; assumption) | refine And.intro (by first | assumption | omega | (simp only [true_and]; first | done | assumption | omega)) ?_ | (refine And.intro (fun _ => ?_) (fun _ => ?_) <;> first | (exfalso; omega) | skip) | intro _ | fail)))
  all_goals ((conv => whnf); first | exact ⟨rfl, hP⟩ | exact hP | rfl | omega)
set_option maxRecDepth 100000 in
theorem wr_widthOf0 {D : mg_D} {l : Launch} (hl : l.stackTraces = false) {M : mg_M} {g₀ : Nat} {o : Nat} {a1₀ : Int} {N : Int → mg_M → Prop} (c₀ : mg_Mt D l 101 [.inr (.inl g₀), .inl a1₀] M (fun v₀ P => ∃ z₀, v₀ = some (.inl z₀) ∧ N z₀ P) mg_no) (kg : kd M g₀ = 6) (ho : ∀ z₀ P, N z₀ P → kd P o = 10 ∧ ln P o = 1) : mg_Mt D l 229 [.inr (.inl g₀), .inl a1₀, .inr (.inl o)] M (fun v₀ Q₀ => v₀ = some (.inl 0) ∧ ∃ z₀ P, N z₀ P ∧ Q₀ = sl P o 0 z₀) mg_no := by
  refine mg_of2 hl ok_L_widthOf al_L_widthOf rfl (fun K hK₀ => ?_)
  refine hK₀ _ _ _ _ _ ?_
  (repeat' (((conv => whnf); first | (show (_ : Option mg_V) = _ ∧ _; assumption) | (show K _ _ _ _ _; assumption) | (show mm_th _ _ _ _; assumption) | refine And.intro (by first | assumption | omega | (simp only [true_and]; first | done | assumption | omega)) ?_ | (refine And.intro (fun _ => ?_) (fun _ => ?_) <;> first | (exfalso; omega) | skip) | intro _ | fail)))
  all_goals ((conv => whnf); skip)
  refine Exists.intro _ (Exists.intro _ (And.intro (c₀) (And.intro ?_ (fun _ _ h₀ => h₀.elim))))
  rintro _ P ⟨z₀, rfl, hz⟩
  have ko := (ho z₀ P hz).1
  have lo := (ho z₀ P hz).2
  (repeat' (((conv => whnf); first | (show (_ : Option mg_V) = _ ∧ _; assumption) | (show K _ _ _ _ _; assumption) | (show mm_th _ _ _ _; assumption) | refine And.intro (by first | assumption | omega | (simp only [true_and]; first | done | assumption | omega)) ?_ | (refine And.intro (fun _ => ?_) (fun _ => ?_) <;> first | (exfalso; omega) | skip) | intro _ | fail)))
  all_goals ((conv => whnf); first | exact ⟨rfl, z₀, P, hz, rfl⟩ | exact ⟨z₀, P, hz, rfl⟩ | rfl | omega)
set_option maxRecDepth 100000 in
theorem wr_widthOf1 {D : mg_D} {l : Launch} (hl : l.stackTraces = false) {M : mg_M} {g₀ : Nat} {o : Nat} {a1₀ : Int} {R : mg_M → Prop} (c₀ : mg_Mt D l 101 [.inr (.inl g₀), .inl a1₀] M mh_nN (fun k₀ P => k₀ = 1 ∧ R P)) (kg : kd M g₀ = 6) : mg_Mt D l 229 [.inr (.inl g₀), .inl a1₀, .inr (.inl o)] M (fun v₀ Q₀ => v₀ = some (.inl 1) ∧ R Q₀) mg_no := by
  refine mg_of2 hl ok_L_widthOf al_L_widthOf rfl (fun K hK₀ => ?_)
  refine hK₀ _ _ _ _ _ ?_
  (repeat' (((conv => whnf); first | (show (_ : Option mg_V) = _ ∧ _; assumption) | (show K _ _ _ _ _; assumption) | (show mm_th _ _ _ _; assumption) | refine And.intro (by first | assumption | omega | (simp only [true_and]; first | done | assumption | omega)) ?_ | (refine And.intro (fun _ => ?_) (fun _ => ?_) <;> first | (exfalso; omega) | skip) | intro _ | fail)))
  all_goals ((conv => whnf); skip)
  refine Exists.intro _ (Exists.intro _ (And.intro (c₀) (And.intro (fun _ _ h₀ => h₀.elim) ?_)))
  rintro _ P ⟨rfl, hP⟩
  (repeat' (((conv => whnf); first | (show (_ : Option mg_V) = _ ∧ _; assumption) | (show K _ _ _ _ _; assumption) | (show mm_th _ _ _ _; assumption) | refine And.intro (by first | assumption | omega | (simp only [true_and]; first | done | assumption | omega)) ?_ | (refine And.intro (fun _ => ?_) (fun _ => ?_) <;> first | (exfalso; omega) | skip) | intro _ | fail)))
  all_goals ((conv => whnf); first | exact ⟨rfl, hP⟩ | exact hP | rfl | omega)
set_option maxRecDepth 100000 in
theorem wr_heightOf0 {D : mg_D} {l : Launch} (hl : l.stackTraces = false) {M : mg_M} {g₀ : Nat} {o : Nat} {a1₀ : Int} {N : Int → mg_M → Prop} (c₀ : mg_Mt D l 102 [.inr (.inl g₀), .inl a1₀] M (fun v₀ P => ∃ z₀, v₀ = some (.inl z₀) ∧ N z₀ P) mg_no) (kg : kd M g₀ = 6) (ho : ∀ z₀ P, N z₀ P → kd P o = 10 ∧ ln P o = 1) : mg_Mt D l 230 [.inr (.inl g₀), .inl a1₀, .inr (.inl o)] M (fun v₀ Q₀ => v₀ = some (.inl 0) ∧ ∃ z₀ P, N z₀ P ∧ Q₀ = sl P o 0 z₀) mg_no := by
  refine mg_of2 hl ok_L_heightOf al_L_heightOf rfl (fun K hK₀ => ?_)
  refine hK₀ _ _ _ _ _ ?_
  (repeat' (((conv => whnf); first | (show (_ : Option mg_V) = _ ∧ _; assumption) | (show K _ _ _ _ _; assumption) | (show mm_th _ _ _ _; assumption) | refine And.intro (by first | assumption | omega | (simp only [true_and]; first | done | assumption | omega)) ?_ | (refine And.intro (fun _ => ?_) (fun _ => ?_) <;> first | (exfalso; omega) | skip) | intro _ | fail)))
  all_goals ((conv => whnf); skip)
  refine Exists.intro _ (Exists.intro _ (And.intro (c₀) (And.intro ?_ (fun _ _ h₀ => h₀.elim))))
  rintro _ P ⟨z₀, rfl, hz⟩
  have ko := (ho z₀ P hz).1
  have lo := (ho z₀ P hz).2
  (repeat' (((conv => whnf); first | (show (_ : Option mg_V) = _ ∧ _; assumption) | (show K _ _ _ _ _; assumption) | (show mm_th _ _ _ _; assumption) | refine And.intro (by first | assumption | omega | (simp only [true_and]; first | done | assumption | omega)) ?_ | (refine And.intro (fun _ => ?_) (fun _ => ?_) <;> first | (exfalso; omega) | skip) | intro _ | fail)))
  all_goals ((conv => whnf); first | exact ⟨rfl, z₀, P, hz, rfl⟩ | exact ⟨z₀, P, hz, rfl⟩ | rfl | omega)
set_option maxRecDepth 100000 in
theorem wr_heightOf1 {D : mg_D} {l : Launch} (hl : l.stackTraces = false) {M : mg_M} {g₀ : Nat} {o : Nat} {a1₀ : Int} {R : mg_M → Prop} (c₀ : mg_Mt D l 102 [.inr (.inl g₀), .inl a1₀] M mh_nN (fun k₀ P => k₀ = 1 ∧ R P)) (kg : kd M g₀ = 6) : mg_Mt D l 230 [.inr (.inl g₀), .inl a1₀, .inr (.inl o)] M (fun v₀ Q₀ => v₀ = some (.inl 1) ∧ R Q₀) mg_no := by
  refine mg_of2 hl ok_L_heightOf al_L_heightOf rfl (fun K hK₀ => ?_)
  refine hK₀ _ _ _ _ _ ?_
  (repeat' (((conv => whnf); first | (show (_ : Option mg_V) = _ ∧ _; assumption) | (show K _ _ _ _ _; assumption) | (show mm_th _ _ _ _; assumption) | refine And.intro (by first | assumption | omega | (simp only [true_and]; first | done | assumption | omega)) ?_ | (refine And.intro (fun _ => ?_) (fun _ => ?_) <;> first | (exfalso; omega) | skip) | intro _ | fail)))
  all_goals ((conv => whnf); skip)
  refine Exists.intro _ (Exists.intro _ (And.intro (c₀) (And.intro (fun _ _ h₀ => h₀.elim) ?_)))
  rintro _ P ⟨rfl, hP⟩
  (repeat' (((conv => whnf); first | (show (_ : Option mg_V) = _ ∧ _; assumption) | (show K _ _ _ _ _; assumption) | (show mm_th _ _ _ _; assumption) | refine And.intro (by first | assumption | omega | (simp only [true_and]; first | done | assumption | omega)) ?_ | (refine And.intro (fun _ => ?_) (fun _ => ?_) <;> first | (exfalso; omega) | skip) | intro _ | fail)))
  all_goals ((conv => whnf); first | exact ⟨rfl, hP⟩ | exact hP | rfl | omega)
set_option maxRecDepth 100000 in
theorem wr_setWidth0 {D : mg_D} {l : Launch} (hl : l.stackTraces = false) {M : mg_M} {g₀ : Nat} {o : Nat} {a1₀ a2 : Int} {N : Int → mg_M → Prop} (c₀ : mg_Mt D l 103 [.inr (.inl g₀), .inl a1₀, .inl a2] M (fun v₀ P => ∃ z₀, v₀ = some (.inl z₀) ∧ N z₀ P) mg_no) (kg : kd M g₀ = 6) (ho : ∀ z₀ P, N z₀ P → kd P o = 10 ∧ ln P o = 1) : mg_Mt D l 231 [.inr (.inl g₀), .inl a1₀, .inl a2, .inr (.inl o)] M (fun v₀ Q₀ => v₀ = some (.inl 0) ∧ ∃ z₀ P, N z₀ P ∧ Q₀ = sl P o 0 z₀) mg_no := by
  refine mg_of2 hl ok_L_setWidth al_L_setWidth rfl (fun K hK₀ => ?_)
  refine hK₀ _ _ _ _ _ ?_
  (repeat' (((conv => whnf); first | (show (_ : Option mg_V) = _ ∧ _; assumption) | (show K _ _ _ _ _; assumption) | (show mm_th _ _ _ _; assumption) | refine And.intro (by first | assumption | omega | (simp only [true_and]; first | done | assumption | omega)) ?_ | (refine And.intro (fun _ => ?_) (fun _ => ?_) <;> first | (exfalso; omega) | skip) | intro _ | fail)))
  all_goals ((conv => whnf); skip)
  refine Exists.intro _ (Exists.intro _ (And.intro (c₀) (And.intro ?_ (fun _ _ h₀ => h₀.elim))))
  rintro _ P ⟨z₀, rfl, hz⟩
  have ko := (ho z₀ P hz).1
  have lo := (ho z₀ P hz).2
  (repeat' (((conv => whnf); first | (show (_ : Option mg_V) = _ ∧ _; assumption) | (show K _ _ _ _ _; assumption) | (show mm_th _ _ _ _; assumption) | refine And.intro (by first | assumption | omega | (simp only [true_and]; first | done | assumption | omega)) ?_ | (refine And.intro (fun _ => ?_) (fun _ => ?_) <;> first | (exfalso; omega) | skip) | intro _ | fail)))
  all_goals ((conv => whnf); first | exact ⟨rfl, z₀, P, hz, rfl⟩ | exact ⟨z₀, P, hz, rfl⟩ | rfl | omega)
set_option maxRecDepth 100000 in
theorem wr_setWidth1 {D : mg_D} {l : Launch} (hl : l.stackTraces = false) {M : mg_M} {g₀ : Nat} {o : Nat} {a1₀ a2 : Int} {R : mg_M → Prop} (c₀ : mg_Mt D l 103 [.inr (.inl g₀), .inl a1₀, .inl a2] M mh_nN (fun k₀ P => k₀ = 1 ∧ R P)) (kg : kd M g₀ = 6) : mg_Mt D l 231 [.inr (.inl g₀), .inl a1₀, .inl a2, .inr (.inl o)] M (fun v₀ Q₀ => v₀ = some (.inl 1) ∧ R Q₀) mg_no := by
  refine mg_of2 hl ok_L_setWidth al_L_setWidth rfl (fun K hK₀ => ?_)
  refine hK₀ _ _ _ _ _ ?_
  (repeat' (((conv => whnf); first | (show (_ : Option mg_V) = _ ∧ _; assumption) | (show K _ _ _ _ _; assumption) | (show mm_th _ _ _ _; assumption) | refine And.intro (by first | assumption | omega | (simp only [true_and]; first | done | assumption | omega)) ?_ | (refine And.intro (fun _ => ?_) (fun _ => ?_) <;> first | (exfalso; omega) | skip) | intro _ | fail)))
  all_goals ((conv => whnf); skip)
  refine Exists.intro _ (Exists.intro _ (And.intro (c₀) (And.intro (fun _ _ h₀ => h₀.elim) ?_)))
  rintro _ P ⟨rfl, hP⟩
  (repeat' (((conv => whnf); first | (show (_ : Option mg_V) = _ ∧ _; assumption) | (show K _ _ _ _ _; assumption) | (show mm_th _ _ _ _; assumption) | refine And.intro (by first | assumption | omega | (simp only [true_and]; first | done | assumption | omega)) ?_ | (refine And.intro (fun _ => ?_) (fun _ => ?_) <;> first | (exfalso; omega) | skip) | intro _ | fail)))
  all_goals ((conv => whnf); first | exact ⟨rfl, hP⟩ | exact hP | rfl | omega)
set_option maxRecDepth 100000 in
theorem wr_setWidth2 {D : mg_D} {l : Launch} (hl : l.stackTraces = false) {M : mg_M} {g₀ : Nat} {o : Nat} {a1₀ a2 : Int} {R : mg_M → Prop} (c₀ : mg_Mt D l 103 [.inr (.inl g₀), .inl a1₀, .inl a2] M mh_nN (fun k₀ P => k₀ = 3 ∧ R P)) (kg : kd M g₀ = 6) : mg_Mt D l 231 [.inr (.inl g₀), .inl a1₀, .inl a2, .inr (.inl o)] M (fun v₀ Q₀ => v₀ = some (.inl 2) ∧ R Q₀) mg_no := by
  refine mg_of2 hl ok_L_setWidth al_L_setWidth rfl (fun K hK₀ => ?_)
  refine hK₀ _ _ _ _ _ ?_
  (repeat' (((conv => whnf); first | (show (_ : Option mg_V) = _ ∧ _; assumption) | (show K _ _ _ _ _; assumption) | (show mm_th _ _ _ _; assumption) | refine And.intro (by first | assumption | omega | (simp only [true_and]; first | done | assumption | omega)) ?_ | (refine And.intro (fun _ => ?_) (fun _ => ?_) <;> first | (exfalso; omega) | skip) | intro _ | fail)))
  all_goals ((conv => whnf); skip)
  refine Exists.intro _ (Exists.intro _ (And.intro (c₀) (And.intro (fun _ _ h₀ => h₀.elim) ?_)))
  rintro _ P ⟨rfl, hP⟩
  (repeat' (((conv => whnf); first | (show (_ : Option mg_V) = _ ∧ _; assumption) | (show K _ _ _ _ _; assumption) | (show mm_th _ _ _ _; assumption) | refine And.intro (by first | assumption | omega | (simp only [true_and]; first | done | assumption | omega)) ?_ | (refine And.intro (fun _ => ?_) (fun _ => ?_) <;> first | (exfalso; omega) | skip) | intro _ | fail)))
  all_goals ((conv => whnf); first | exact ⟨rfl, hP⟩ | exact hP | rfl | omega)
set_option maxRecDepth 100000 in
theorem wr_setHeight0 {D : mg_D} {l : Launch} (hl : l.stackTraces = false) {M : mg_M} {g₀ : Nat} {o : Nat} {a1₀ a2 : Int} {N : Int → mg_M → Prop} (c₀ : mg_Mt D l 104 [.inr (.inl g₀), .inl a1₀, .inl a2] M (fun v₀ P => ∃ z₀, v₀ = some (.inl z₀) ∧ N z₀ P) mg_no) (kg : kd M g₀ = 6) (ho : ∀ z₀ P, N z₀ P → kd P o = 10 ∧ ln P o = 1) : mg_Mt D l 232 [.inr (.inl g₀), .inl a1₀, .inl a2, .inr (.inl o)] M (fun v₀ Q₀ => v₀ = some (.inl 0) ∧ ∃ z₀ P, N z₀ P ∧ Q₀ = sl P o 0 z₀) mg_no := by
  refine mg_of2 hl ok_L_setHeight al_L_setHeight rfl (fun K hK₀ => ?_)
  refine hK₀ _ _ _ _ _ ?_
  (repeat' (((conv => whnf); first | (show (_ : Option mg_V) = _ ∧ _; assumption) | (show K _ _ _ _ _; assumption) | (show mm_th _ _ _ _; assumption) | refine And.intro (by first | assumption | omega | (simp only [true_and]; first | done | assumption | omega)) ?_ | (refine And.intro (fun _ => ?_) (fun _ => ?_) <;> first | (exfalso; omega) | skip) | intro _ | fail)))
  all_goals ((conv => whnf); skip)
  refine Exists.intro _ (Exists.intro _ (And.intro (c₀) (And.intro ?_ (fun _ _ h₀ => h₀.elim))))
  rintro _ P ⟨z₀, rfl, hz⟩
  have ko := (ho z₀ P hz).1
  have lo := (ho z₀ P hz).2
  (repeat' (((conv => whnf); first | (show (_ : Option mg_V) = _ ∧ _; assumption) | (show K _ _ _ _ _; assumption) | (show mm_th _ _ _ _; assumption) | refine And.intro (by first | assumption | omega | (simp only [true_and]; first | done | assumption | omega)) ?_ | (refine And.intro (fun _ => ?_) (fun _ => ?_) <;> first | (exfalso; omega) | skip) | intro _ | fail)))
  all_goals ((conv => whnf); first | exact ⟨rfl, z₀, P, hz, rfl⟩ | exact ⟨z₀, P, hz, rfl⟩ | rfl | omega)
set_option maxRecDepth 100000 in
theorem wr_setHeight1 {D : mg_D} {l : Launch} (hl : l.stackTraces = false) {M : mg_M} {g₀ : Nat} {o : Nat} {a1₀ a2 : Int} {R : mg_M → Prop} (c₀ : mg_Mt D l 104 [.inr (.inl g₀), .inl a1₀, .inl a2] M mh_nN (fun k₀ P => k₀ = 1 ∧ R P)) (kg : kd M g₀ = 6) : mg_Mt D l 232 [.inr (.inl g₀), .inl a1₀, .inl a2, .inr (.inl o)] M (fun v₀ Q₀ => v₀ = some (.inl 1) ∧ R Q₀) mg_no := by
  refine mg_of2 hl ok_L_setHeight al_L_setHeight rfl (fun K hK₀ => ?_)
  refine hK₀ _ _ _ _ _ ?_
  (repeat' (((conv => whnf); first | (show (_ : Option mg_V) = _ ∧ _; assumption) | (show K _ _ _ _ _; assumption) | (show mm_th _ _ _ _; assumption) | refine And.intro (by first | assumption | omega | (simp only [true_and]; first | done | assumption | omega)) ?_ | (refine And.intro (fun _ => ?_) (fun _ => ?_) <;> first | (exfalso; omega) | skip) | intro _ | fail)))
  all_goals ((conv => whnf); skip)
  refine Exists.intro _ (Exists.intro _ (And.intro (c₀) (And.intro (fun _ _ h₀ => h₀.elim) ?_)))
  rintro _ P ⟨rfl, hP⟩
  (repeat' (((conv => whnf); first | (show (_ : Option mg_V) = _ ∧ _; assumption) | (show K _ _ _ _ _; assumption) | (show mm_th _ _ _ _; assumption) | refine And.intro (by first | assumption | omega | (simp only [true_and]; first | done | assumption | omega)) ?_ | (refine And.intro (fun _ => ?_) (fun _ => ?_) <;> first | (exfalso; omega) | skip) | intro _ | fail)))
  all_goals ((conv => whnf); first | exact ⟨rfl, hP⟩ | exact hP | rfl | omega)
set_option maxRecDepth 100000 in
theorem wr_setHeight2 {D : mg_D} {l : Launch} (hl : l.stackTraces = false) {M : mg_M} {g₀ : Nat} {o : Nat} {a1₀ a2 : Int} {R : mg_M → Prop} (c₀ : mg_Mt D l 104 [.inr (.inl g₀), .inl a1₀, .inl a2] M mh_nN (fun k₀ P => k₀ = 3 ∧ R P)) (kg : kd M g₀ = 6) : mg_Mt D l 232 [.inr (.inl g₀), .inl a1₀, .inl a2, .inr (.inl o)] M (fun v₀ Q₀ => v₀ = some (.inl 2) ∧ R Q₀) mg_no := by
  refine mg_of2 hl ok_L_setHeight al_L_setHeight rfl (fun K hK₀ => ?_)
  refine hK₀ _ _ _ _ _ ?_
  (repeat' (((conv => whnf); first | (show (_ : Option mg_V) = _ ∧ _; assumption) | (show K _ _ _ _ _; assumption) | (show mm_th _ _ _ _; assumption) | refine And.intro (by first | assumption | omega | (simp only [true_and]; first | done | assumption | omega)) ?_ | (refine And.intro (fun _ => ?_) (fun _ => ?_) <;> first | (exfalso; omega) | skip) | intro _ | fail)))
  all_goals ((conv => whnf); skip)
  refine Exists.intro _ (Exists.intro _ (And.intro (c₀) (And.intro (fun _ _ h₀ => h₀.elim) ?_)))
  rintro _ P ⟨rfl, hP⟩
  (repeat' (((conv => whnf); first | (show (_ : Option mg_V) = _ ∧ _; assumption) | (show K _ _ _ _ _; assumption) | (show mm_th _ _ _ _; assumption) | refine And.intro (by first | assumption | omega | (simp only [true_and]; first | done | assumption | omega)) ?_ | (refine And.intro (fun _ => ?_) (fun _ => ?_) <;> first | (exfalso; omega) | skip) | intro _ | fail)))
  all_goals ((conv => whnf); first | exact ⟨rfl, hP⟩ | exact hP | rfl | omega)
set_option maxRecDepth 100000 in
theorem wr_drag0 {D : mg_D} {l : Launch} (hl : l.stackTraces = false) {M : mg_M} {g₀ : Nat} {o : Nat} {a1₀ a2 : Int} {N : Int → mg_M → Prop} (c₀ : mg_Mt D l 105 [.inr (.inl g₀), .inl a1₀, .inl a2] M (fun v₀ P => ∃ z₀, v₀ = some (.inl z₀) ∧ N z₀ P) mg_no) (kg : kd M g₀ = 6) (ho : ∀ z₀ P, N z₀ P → kd P o = 10 ∧ ln P o = 1) : mg_Mt D l 233 [.inr (.inl g₀), .inl a1₀, .inl a2, .inr (.inl o)] M (fun v₀ Q₀ => v₀ = some (.inl 0) ∧ ∃ z₀ P, N z₀ P ∧ Q₀ = sl P o 0 z₀) mg_no := by
  refine mg_of2 hl ok_L_drag al_L_drag rfl (fun K hK₀ => ?_)
  refine hK₀ _ _ _ _ _ ?_
  (repeat' (((conv => whnf); first | (show (_ : Option mg_V) = _ ∧ _; assumption) | (show K _ _ _ _ _; assumption) | (show mm_th _ _ _ _; assumption) | refine And.intro (by first | assumption | omega | (simp only [true_and]; first | done | assumption | omega)) ?_ | (refine And.intro (fun _ => ?_) (fun _ => ?_) <;> first | (exfalso; omega) | skip) | intro _ | fail)))
  all_goals ((conv => whnf); skip)
  refine Exists.intro _ (Exists.intro _ (And.intro (c₀) (And.intro ?_ (fun _ _ h₀ => h₀.elim))))
  rintro _ P ⟨z₀, rfl, hz⟩
  have ko := (ho z₀ P hz).1
  have lo := (ho z₀ P hz).2
  (repeat' (((conv => whnf); first | (show (_ : Option mg_V) = _ ∧ _; assumption) | (show K _ _ _ _ _; assumption) | (show mm_th _ _ _ _; assumption) | refine And.intro (by first | assumption | omega | (simp only [true_and]; first | done | assumption | omega)) ?_ | (refine And.intro (fun _ => ?_) (fun _ => ?_) <;> first | (exfalso; omega) | skip) | intro _ | fail)))
  all_goals ((conv => whnf); first | exact ⟨rfl, z₀, P, hz, rfl⟩ | exact ⟨z₀, P, hz, rfl⟩ | rfl | omega)
set_option maxRecDepth 100000 in
theorem wr_drag1 {D : mg_D} {l : Launch} (hl : l.stackTraces = false) {M : mg_M} {g₀ : Nat} {o : Nat} {a1₀ a2 : Int} {R : mg_M → Prop} (c₀ : mg_Mt D l 105 [.inr (.inl g₀), .inl a1₀, .inl a2] M mh_nN (fun k₀ P => k₀ = 1 ∧ R P)) (kg : kd M g₀ = 6) : mg_Mt D l 233 [.inr (.inl g₀), .inl a1₀, .inl a2, .inr (.inl o)] M (fun v₀ Q₀ => v₀ = some (.inl 1) ∧ R Q₀) mg_no := by
  refine mg_of2 hl ok_L_drag al_L_drag rfl (fun K hK₀ => ?_)
  refine hK₀ _ _ _ _ _ ?_
  (repeat' (((conv => whnf); first | (show (_ : Option mg_V) = _ ∧ _; assumption) | (show K _ _ _ _ _; assumption) | (show mm_th _ _ _ _; assumption) | refine And.intro (by first | assumption | omega | (simp only [true_and]; first | done | assumption | omega)) ?_ | (refine And.intro (fun _ => ?_) (fun _ => ?_) <;> first | (exfalso; omega) | skip) | intro _ | fail)))
  all_goals ((conv => whnf); skip)
  refine Exists.intro _ (Exists.intro _ (And.intro (c₀) (And.intro (fun _ _ h₀ => h₀.elim) ?_)))
  rintro _ P ⟨rfl, hP⟩
  (repeat' (((conv => whnf); first | (show (_ : Option mg_V) = _ ∧ _; assumption) | (show K _ _ _ _ _; assumption) | (show mm_th _ _ _ _; assumption) | refine And.intro (by first | assumption | omega | (simp only [true_and]; first | done | assumption | omega)) ?_ | (refine And.intro (fun _ => ?_) (fun _ => ?_) <;> first | (exfalso; omega) | skip) | intro _ | fail)))
  all_goals ((conv => whnf); first | exact ⟨rfl, hP⟩ | exact hP | rfl | omega)
set_option maxRecDepth 100000 in
theorem wr_drag2 {D : mg_D} {l : Launch} (hl : l.stackTraces = false) {M : mg_M} {g₀ : Nat} {o : Nat} {a1₀ a2 : Int} {R : mg_M → Prop} (c₀ : mg_Mt D l 105 [.inr (.inl g₀), .inl a1₀, .inl a2] M mh_nN (fun k₀ P => k₀ = 4 ∧ R P)) (kg : kd M g₀ = 6) : mg_Mt D l 233 [.inr (.inl g₀), .inl a1₀, .inl a2, .inr (.inl o)] M (fun v₀ Q₀ => v₀ = some (.inl 2) ∧ R Q₀) mg_no := by
  refine mg_of2 hl ok_L_drag al_L_drag rfl (fun K hK₀ => ?_)
  refine hK₀ _ _ _ _ _ ?_
  (repeat' (((conv => whnf); first | (show (_ : Option mg_V) = _ ∧ _; assumption) | (show K _ _ _ _ _; assumption) | (show mm_th _ _ _ _; assumption) | refine And.intro (by first | assumption | omega | (simp only [true_and]; first | done | assumption | omega)) ?_ | (refine And.intro (fun _ => ?_) (fun _ => ?_) <;> first | (exfalso; omega) | skip) | intro _ | fail)))
  all_goals ((conv => whnf); skip)
  refine Exists.intro _ (Exists.intro _ (And.intro (c₀) (And.intro (fun _ _ h₀ => h₀.elim) ?_)))
  rintro _ P ⟨rfl, hP⟩
  (repeat' (((conv => whnf); first | (show (_ : Option mg_V) = _ ∧ _; assumption) | (show K _ _ _ _ _; assumption) | (show mm_th _ _ _ _; assumption) | refine And.intro (by first | assumption | omega | (simp only [true_and]; first | done | assumption | omega)) ?_ | (refine And.intro (fun _ => ?_) (fun _ => ?_) <;> first | (exfalso; omega) | skip) | intro _ | fail)))
  all_goals ((conv => whnf); first | exact ⟨rfl, hP⟩ | exact hP | rfl | omega)
set_option maxRecDepth 100000 in
theorem wr_even0 {D : mg_D} {l : Launch} (hl : l.stackTraces = false) {M : mg_M} {g₀ : Nat} {o : Nat} {a1₀ a2 : Int} {N : Int → mg_M → Prop} (c₀ : mg_Mt D l 106 [.inr (.inl g₀), .inl a1₀, .inl a2] M (fun v₀ P => ∃ z₀, v₀ = some (.inl z₀) ∧ N z₀ P) mg_no) (kg : kd M g₀ = 6) (ho : ∀ z₀ P, N z₀ P → kd P o = 10 ∧ ln P o = 1) : mg_Mt D l 234 [.inr (.inl g₀), .inl a1₀, .inl a2, .inr (.inl o)] M (fun v₀ Q₀ => v₀ = some (.inl 0) ∧ ∃ z₀ P, N z₀ P ∧ Q₀ = sl P o 0 z₀) mg_no := by
  refine mg_of2 hl ok_L_even al_L_even rfl (fun K hK₀ => ?_)
  refine hK₀ _ _ _ _ _ ?_
  (repeat' (((conv => whnf); first | (show (_ : Option mg_V) = _ ∧ _; assumption) | (show K _ _ _ _ _; assumption) | (show mm_th _ _ _ _; assumption) | refine And.intro (by first | assumption | omega | (simp only [true_and]; first | done | assumption | omega)) ?_ | (refine And.intro (fun _ => ?_) (fun _ => ?_) <;> first | (exfalso; omega) | skip) | intro _ | fail)))
  all_goals ((conv => whnf); skip)
  refine Exists.intro _ (Exists.intro _ (And.intro (c₀) (And.intro ?_ (fun _ _ h₀ => h₀.elim))))
  rintro _ P ⟨z₀, rfl, hz⟩
  have ko := (ho z₀ P hz).1
  have lo := (ho z₀ P hz).2
  (repeat' (((conv => whnf); first | (show (_ : Option mg_V) = _ ∧ _; assumption) | (show K _ _ _ _ _; assumption) | (show mm_th _ _ _ _; assumption) | refine And.intro (by first | assumption | omega | (simp only [true_and]; first | done | assumption | omega)) ?_ | (refine And.intro (fun _ => ?_) (fun _ => ?_) <;> first | (exfalso; omega) | skip) | intro _ | fail)))
  all_goals ((conv => whnf); first | exact ⟨rfl, z₀, P, hz, rfl⟩ | exact ⟨z₀, P, hz, rfl⟩ | rfl | omega)
set_option maxRecDepth 100000 in
theorem wr_even1 {D : mg_D} {l : Launch} (hl : l.stackTraces = false) {M : mg_M} {g₀ : Nat} {o : Nat} {a1₀ a2 : Int} {R : mg_M → Prop} (c₀ : mg_Mt D l 106 [.inr (.inl g₀), .inl a1₀, .inl a2] M mh_nN (fun k₀ P => k₀ = 1 ∧ R P)) (kg : kd M g₀ = 6) : mg_Mt D l 234 [.inr (.inl g₀), .inl a1₀, .inl a2, .inr (.inl o)] M (fun v₀ Q₀ => v₀ = some (.inl 1) ∧ R Q₀) mg_no := by
  refine mg_of2 hl ok_L_even al_L_even rfl (fun K hK₀ => ?_)
  refine hK₀ _ _ _ _ _ ?_
  (repeat' (((conv => whnf); first | (show (_ : Option mg_V) = _ ∧ _; assumption) | (show K _ _ _ _ _; assumption) | (show mm_th _ _ _ _; assumption) | refine And.intro (by first | assumption | omega | (simp only [true_and]; first | done | assumption | omega)) ?_ | (refine And.intro (fun _ => ?_) (fun _ => ?_) <;> first | (exfalso; omega) | skip) | intro _ | fail)))
  all_goals ((conv => whnf); skip)
  refine Exists.intro _ (Exists.intro _ (And.intro (c₀) (And.intro (fun _ _ h₀ => h₀.elim) ?_)))
  rintro _ P ⟨rfl, hP⟩
  (repeat' (((conv => whnf); first | (show (_ : Option mg_V) = _ ∧ _; assumption) | (show K _ _ _ _ _; assumption) | (show mm_th _ _ _ _; assumption) | refine And.intro (by first | assumption | omega | (simp only [true_and]; first | done | assumption | omega)) ?_ | (refine And.intro (fun _ => ?_) (fun _ => ?_) <;> first | (exfalso; omega) | skip) | intro _ | fail)))
  all_goals ((conv => whnf); first | exact ⟨rfl, hP⟩ | exact hP | rfl | omega)
set_option maxRecDepth 100000 in
theorem wr_even2 {D : mg_D} {l : Launch} (hl : l.stackTraces = false) {M : mg_M} {g₀ : Nat} {o : Nat} {a1₀ a2 : Int} {R : mg_M → Prop} (c₀ : mg_Mt D l 106 [.inr (.inl g₀), .inl a1₀, .inl a2] M mh_nN (fun k₀ P => k₀ = 3 ∧ R P)) (kg : kd M g₀ = 6) : mg_Mt D l 234 [.inr (.inl g₀), .inl a1₀, .inl a2, .inr (.inl o)] M (fun v₀ Q₀ => v₀ = some (.inl 2) ∧ R Q₀) mg_no := by
  refine mg_of2 hl ok_L_even al_L_even rfl (fun K hK₀ => ?_)
  refine hK₀ _ _ _ _ _ ?_
  (repeat' (((conv => whnf); first | (show (_ : Option mg_V) = _ ∧ _; assumption) | (show K _ _ _ _ _; assumption) | (show mm_th _ _ _ _; assumption) | refine And.intro (by first | assumption | omega | (simp only [true_and]; first | done | assumption | omega)) ?_ | (refine And.intro (fun _ => ?_) (fun _ => ?_) <;> first | (exfalso; omega) | skip) | intro _ | fail)))
  all_goals ((conv => whnf); skip)
  refine Exists.intro _ (Exists.intro _ (And.intro (c₀) (And.intro (fun _ _ h₀ => h₀.elim) ?_)))
  rintro _ P ⟨rfl, hP⟩
  (repeat' (((conv => whnf); first | (show (_ : Option mg_V) = _ ∧ _; assumption) | (show K _ _ _ _ _; assumption) | (show mm_th _ _ _ _; assumption) | refine And.intro (by first | assumption | omega | (simp only [true_and]; first | done | assumption | omega)) ?_ | (refine And.intro (fun _ => ?_) (fun _ => ?_) <;> first | (exfalso; omega) | skip) | intro _ | fail)))
  all_goals ((conv => whnf); first | exact ⟨rfl, hP⟩ | exact hP | rfl | omega)
set_option maxRecDepth 100000 in
theorem wr_sizeOf0 {D : mg_D} {l : Launch} (hl : l.stackTraces = false) {M : mg_M} {g₀ : Nat} {o : Nat} {a1₀ a2 : Int} {N : Int → mg_M → Prop} (c₀ : mg_Mt D l 107 [.inr (.inl g₀), .inl a1₀, .inl a2] M (fun v₀ P => ∃ z₀, v₀ = some (.inl z₀) ∧ N z₀ P) mg_no) (kg : kd M g₀ = 6) (ho : ∀ z₀ P, N z₀ P → kd P o = 10 ∧ ln P o = 1) : mg_Mt D l 235 [.inr (.inl g₀), .inl a1₀, .inl a2, .inr (.inl o)] M (fun v₀ Q₀ => v₀ = some (.inl 0) ∧ ∃ z₀ P, N z₀ P ∧ Q₀ = sl P o 0 z₀) mg_no := by
  refine mg_of2 hl ok_L_sizeOf al_L_sizeOf rfl (fun K hK₀ => ?_)
  refine hK₀ _ _ _ _ _ ?_
  (repeat' (((conv => whnf); first | (show (_ : Option mg_V) = _ ∧ _; assumption) | (show K _ _ _ _ _; assumption) | (show mm_th _ _ _ _; assumption) | refine And.intro (by first | assumption | omega | (simp only [true_and]; first | done | assumption | omega)) ?_ | (refine And.intro (fun _ => ?_) (fun _ => ?_) <;> first | (exfalso; omega) | skip) | intro _ | fail)))
  all_goals ((conv => whnf); skip)
  refine Exists.intro _ (Exists.intro _ (And.intro (c₀) (And.intro ?_ (fun _ _ h₀ => h₀.elim))))
  rintro _ P ⟨z₀, rfl, hz⟩
  have ko := (ho z₀ P hz).1
  have lo := (ho z₀ P hz).2
  (repeat' (((conv => whnf); first | (show (_ : Option mg_V) = _ ∧ _; assumption) | (show K _ _ _ _ _; assumption) | (show mm_th _ _ _ _; assumption) | refine And.intro (by first | assumption | omega | (simp only [true_and]; first | done | assumption | omega)) ?_ | (refine And.intro (fun _ => ?_) (fun _ => ?_) <;> first | (exfalso; omega) | skip) | intro _ | fail)))
  all_goals ((conv => whnf); first | exact ⟨rfl, z₀, P, hz, rfl⟩ | exact ⟨z₀, P, hz, rfl⟩ | rfl | omega)
set_option maxRecDepth 100000 in
theorem wr_sizeOf1 {D : mg_D} {l : Launch} (hl : l.stackTraces = false) {M : mg_M} {g₀ : Nat} {o : Nat} {a1₀ a2 : Int} {R : mg_M → Prop} (c₀ : mg_Mt D l 107 [.inr (.inl g₀), .inl a1₀, .inl a2] M mh_nN (fun k₀ P => k₀ = 1 ∧ R P)) (kg : kd M g₀ = 6) : mg_Mt D l 235 [.inr (.inl g₀), .inl a1₀, .inl a2, .inr (.inl o)] M (fun v₀ Q₀ => v₀ = some (.inl 1) ∧ R Q₀) mg_no := by
  refine mg_of2 hl ok_L_sizeOf al_L_sizeOf rfl (fun K hK₀ => ?_)
  refine hK₀ _ _ _ _ _ ?_
  (repeat' (((conv => whnf); first | (show (_ : Option mg_V) = _ ∧ _; assumption) | (show K _ _ _ _ _; assumption) | (show mm_th _ _ _ _; assumption) | refine And.intro (by first | assumption | omega | (simp only [true_and]; first | done | assumption | omega)) ?_ | (refine And.intro (fun _ => ?_) (fun _ => ?_) <;> first | (exfalso; omega) | skip) | intro _ | fail)))
  all_goals ((conv => whnf); skip)
  refine Exists.intro _ (Exists.intro _ (And.intro (c₀) (And.intro (fun _ _ h₀ => h₀.elim) ?_)))
  rintro _ P ⟨rfl, hP⟩
  (repeat' (((conv => whnf); first | (show (_ : Option mg_V) = _ ∧ _; assumption) | (show K _ _ _ _ _; assumption) | (show mm_th _ _ _ _; assumption) | refine And.intro (by first | assumption | omega | (simp only [true_and]; first | done | assumption | omega)) ?_ | (refine And.intro (fun _ => ?_) (fun _ => ?_) <;> first | (exfalso; omega) | skip) | intro _ | fail)))
  all_goals ((conv => whnf); first | exact ⟨rfl, hP⟩ | exact hP | rfl | omega)
set_option maxRecDepth 100000 in
theorem wr_cellAt0 {D : mg_D} {l : Launch} (hl : l.stackTraces = false) {M : mg_M} {g₀ : Nat} {o : Nat} {a1₀ a2 : Int} {N : Int → mg_M → Prop} (c₀ : mg_Mt D l 108 [.inr (.inl g₀), .inl a1₀, .inl a2] M (fun v₀ P => ∃ z₀, v₀ = some (.inl z₀) ∧ N z₀ P) mg_no) (kg : kd M g₀ = 6) (ho : ∀ z₀ P, N z₀ P → kd P o = 10 ∧ ln P o = 1) : mg_Mt D l 236 [.inr (.inl g₀), .inl a1₀, .inl a2, .inr (.inl o)] M (fun v₀ Q₀ => v₀ = some (.inl 0) ∧ ∃ z₀ P, N z₀ P ∧ Q₀ = sl P o 0 z₀) mg_no := by
  refine mg_of2 hl ok_L_cellAt al_L_cellAt rfl (fun K hK₀ => ?_)
  refine hK₀ _ _ _ _ _ ?_
  (repeat' (((conv => whnf); first | (show (_ : Option mg_V) = _ ∧ _; assumption) | (show K _ _ _ _ _; assumption) | (show mm_th _ _ _ _; assumption) | refine And.intro (by first | assumption | omega | (simp only [true_and]; first | done | assumption | omega)) ?_ | (refine And.intro (fun _ => ?_) (fun _ => ?_) <;> first | (exfalso; omega) | skip) | intro _ | fail)))
  all_goals ((conv => whnf); skip)
  refine Exists.intro _ (Exists.intro _ (And.intro (c₀) (And.intro ?_ (fun _ _ h₀ => h₀.elim))))
  rintro _ P ⟨z₀, rfl, hz⟩
  have ko := (ho z₀ P hz).1
  have lo := (ho z₀ P hz).2
  (repeat' (((conv => whnf); first | (show (_ : Option mg_V) = _ ∧ _; assumption) | (show K _ _ _ _ _; assumption) | (show mm_th _ _ _ _; assumption) | refine And.intro (by first | assumption | omega | (simp only [true_and]; first | done | assumption | omega)) ?_ | (refine And.intro (fun _ => ?_) (fun _ => ?_) <;> first | (exfalso; omega) | skip) | intro _ | fail)))
  all_goals ((conv => whnf); first | exact ⟨rfl, z₀, P, hz, rfl⟩ | exact ⟨z₀, P, hz, rfl⟩ | rfl | omega)
set_option maxRecDepth 100000 in
theorem wr_cellAt1 {D : mg_D} {l : Launch} (hl : l.stackTraces = false) {M : mg_M} {g₀ : Nat} {o : Nat} {a1₀ a2 : Int} {R : mg_M → Prop} (c₀ : mg_Mt D l 108 [.inr (.inl g₀), .inl a1₀, .inl a2] M mh_nN (fun k₀ P => k₀ = 5 ∧ R P)) (kg : kd M g₀ = 6) : mg_Mt D l 236 [.inr (.inl g₀), .inl a1₀, .inl a2, .inr (.inl o)] M (fun v₀ Q₀ => v₀ = some (.inl 1) ∧ R Q₀) mg_no := by
  refine mg_of2 hl ok_L_cellAt al_L_cellAt rfl (fun K hK₀ => ?_)
  refine hK₀ _ _ _ _ _ ?_
  (repeat' (((conv => whnf); first | (show (_ : Option mg_V) = _ ∧ _; assumption) | (show K _ _ _ _ _; assumption) | (show mm_th _ _ _ _; assumption) | refine And.intro (by first | assumption | omega | (simp only [true_and]; first | done | assumption | omega)) ?_ | (refine And.intro (fun _ => ?_) (fun _ => ?_) <;> first | (exfalso; omega) | skip) | intro _ | fail)))
  all_goals ((conv => whnf); skip)
  refine Exists.intro _ (Exists.intro _ (And.intro (c₀) (And.intro (fun _ _ h₀ => h₀.elim) ?_)))
  rintro _ P ⟨rfl, hP⟩
  (repeat' (((conv => whnf); first | (show (_ : Option mg_V) = _ ∧ _; assumption) | (show K _ _ _ _ _; assumption) | (show mm_th _ _ _ _; assumption) | refine And.intro (by first | assumption | omega | (simp only [true_and]; first | done | assumption | omega)) ?_ | (refine And.intro (fun _ => ?_) (fun _ => ?_) <;> first | (exfalso; omega) | skip) | intro _ | fail)))
  all_goals ((conv => whnf); first | exact ⟨rfl, hP⟩ | exact hP | rfl | omega)
