set_option maxRecDepth 100000 in
theorem cX5_checkColumn0 {D : mg_D} {l : Launch} (hl : l.stackTraces = false) {M : mg_M} {g₀ t₀ : Nat} {r₀ : Int} (G : mh_G0 M g₀ t₀) (h₀ : 0 ≤ r₀ ∧ r₀ < gi M t₀ 1) : mg_Mt D l 115 [.inr (.inl g₀), .inl r₀] M (fun v₀ N => v₀ = none ∧ N = M) mg_no := by
  refine mg_of2 hl ok_X5_checkColumn al_X5_checkColumn rfl (fun K hK₀ => ?_)
  obtain ⟨k6₀, g0, kt, tn₀⟩ := G
  have g0n : gr M g₀ 0 ≠ 0 := by omega
  have k0₀ : kd M (gr M g₀ 0) = 5 := by rw [g0]; exact kt
  have c₀ := @cX4_hasColumn D l hl M t₀ r₀ kt
  rw [if_pos h₀] at c₀
  have Q₀ : (none : Option mg_V) = none ∧ M = M := ⟨rfl, rfl⟩
  refine hK₀ _ _ _ _ _ ?_
  (repeat' (((conv => whnf); first | (show (_ : Option mg_V) = _ ∧ _; assumption) | (show K _ _ _ _ _; assumption) | (show mm_th _ _ _ _; assumption) | refine And.intro (by first | assumption | omega | (simp only [true_and]; first | done | assumption | omega)) ?_ | (refine And.intro (fun _ => ?_) (fun _ => ?_) <;> first | (exfalso; omega) | skip) | intro _ | fail)))
  all_goals ((conv => whnf); rw [g0])
  (refine Exists.intro _ (Exists.intro _ (And.intro (c₀) (And.intro ?_ (fun _ _ h₀ => h₀.elim)))); rintro _ _ ⟨rfl, e₀⟩; have e2₀ := e₀.symm; clear e₀; subst e2₀)
  (repeat' (((conv => whnf); first | (show (_ : Option mg_V) = _ ∧ _; assumption) | (show K _ _ _ _ _; assumption) | (show mm_th _ _ _ _; assumption) | refine And.intro (by first | assumption | omega | (simp only [true_and]; first | done | assumption | omega)) ?_ | (refine And.intro (fun _ => ?_) (fun _ => ?_) <;> first | (exfalso; omega) | skip) | intro _ | fail)))
set_option maxRecDepth 100000 in
theorem cX5_checkColumn1 {D : mg_D} {l : Launch} (hl : l.stackTraces = false) {M : mg_M} {g₀ t₀ : Nat} {r₀ : Int} (G : mh_G0 M g₀ t₀) (h₀ : ¬ (0 ≤ r₀ ∧ r₀ < gi M t₀ 1)) : mg_Mt D l 115 [.inr (.inl g₀), .inl r₀] M mh_nN (mh_tX 1 M) := by
  refine mg_of2 hl ok_X5_checkColumn al_X5_checkColumn rfl (fun K hK₀ => ?_)
  obtain ⟨k6₀, g0, kt, tn₀⟩ := G
  have g0n : gr M g₀ 0 ≠ 0 := by omega
  have k0₀ : kd M (gr M g₀ 0) = 5 := by rw [g0]; exact kt
  have c₀ := @cX4_hasColumn D l hl M t₀ r₀ kt
  rw [if_neg h₀] at c₀
  refine hK₀ _ _ _ _ _ ?_
  (repeat' (((conv => whnf); first | (show (_ : Option mg_V) = _ ∧ _; assumption) | (show K _ _ _ _ _; assumption) | (show mm_th _ _ _ _; assumption) | refine And.intro (by first | assumption | omega | (simp only [true_and]; first | done | assumption | omega)) ?_ | (refine And.intro (fun _ => ?_) (fun _ => ?_) <;> first | (exfalso; omega) | skip) | intro _ | fail)))
  all_goals ((conv => whnf); rw [g0])
  (refine Exists.intro _ (Exists.intro _ (And.intro (c₀) (And.intro ?_ (fun _ _ h₀ => h₀.elim)))); rintro _ _ ⟨rfl, e₀⟩; have e2₀ := e₀.symm; clear e₀; subst e2₀)
  (repeat' (((conv => whnf); first | (show (_ : Option mg_V) = _ ∧ _; assumption) | (show K _ _ _ _ _; assumption) | (show mm_th _ _ _ _; assumption) | refine And.intro (by first | assumption | omega | (simp only [true_and]; first | done | assumption | omega)) ?_ | (refine And.intro (fun _ => ?_) (fun _ => ?_) <;> first | (exfalso; omega) | skip) | intro _ | fail)))
  all_goals (first | exact ⟨_, by assumption, rfl⟩ | exact ⟨rfl, _, by assumption, rfl⟩)
set_option maxRecDepth 100000 in
theorem cX5_checkSquare0 {D : mg_D} {l : Launch} (hl : l.stackTraces = false) {M : mg_M} {g₀ t₀ : Nat} {r₀ c₀ : Int} (G : mh_G0 M g₀ t₀) (h₀ : mh_rg (gi M t₀ 0) (gi M t₀ 1) r₀ c₀) : mg_Mt D l 116 [.inr (.inl g₀), .inl r₀, .inl c₀] M (fun v₀ N => v₀ = none ∧ N = M) mg_no := by
  refine mg_of2 hl ok_X5_checkSquare al_X5_checkSquare rfl (fun K hK₀ => ?_)
  have k6₀ := G.1
  have c1₀ := @cX5_checkRow0 D l hl M g₀ t₀ r₀ G h₀.1
  have c2₀ := @cX5_checkColumn0 D l hl M g₀ t₀ c₀ G h₀.2
  have Q₀ : (none : Option mg_V) = none ∧ M = M := ⟨rfl, rfl⟩
  refine hK₀ _ _ _ _ _ ?_
  (repeat' (((conv => whnf); first | (show (_ : Option mg_V) = _ ∧ _; assumption) | (show K _ _ _ _ _; assumption) | (show mm_th _ _ _ _; assumption) | refine And.intro (by first | assumption | omega | (simp only [true_and]; first | done | assumption | omega)) ?_ | (refine And.intro (fun _ => ?_) (fun _ => ?_) <;> first | (exfalso; omega) | skip) | intro _ | fail)))
  all_goals (try ((conv => whnf); (refine Exists.intro _ (Exists.intro _ (And.intro (c1₀) (And.intro ?_ (fun _ _ h₀ => h₀.elim)))); rintro _ _ ⟨rfl, e₀⟩; have e2₀ := e₀.symm; clear e₀; subst e2₀); (repeat' (((conv => whnf); first | (show (_ : Option mg_V) = _ ∧ _; assumption) | (show K _ _ _ _ _; assumption) | (show mm_th _ _ _ _; assumption) | refine And.intro (by first | assumption | omega | (simp only [true_and]; first | done | assumption | omega)) ?_ | (refine And.intro (fun _ => ?_) (fun _ => ?_) <;> first | (exfalso; omega) | skip) | intro _ | fail)))))
  all_goals (try ((conv => whnf); (refine Exists.intro _ (Exists.intro _ (And.intro (c2₀) (And.intro ?_ (fun _ _ h₀ => h₀.elim)))); rintro _ _ ⟨rfl, e₀⟩; have e2₀ := e₀.symm; clear e₀; subst e2₀); (repeat' (((conv => whnf); first | (show (_ : Option mg_V) = _ ∧ _; assumption) | (show K _ _ _ _ _; assumption) | (show mm_th _ _ _ _; assumption) | refine And.intro (by first | assumption | omega | (simp only [true_and]; first | done | assumption | omega)) ?_ | (refine And.intro (fun _ => ?_) (fun _ => ?_) <;> first | (exfalso; omega) | skip) | intro _ | fail)))))
set_option maxRecDepth 100000 in
theorem cX5_checkSquare1 {D : mg_D} {l : Launch} (hl : l.stackTraces = false) {M : mg_M} {g₀ t₀ : Nat} {r₀ c₀ : Int} (G : mh_G0 M g₀ t₀) (h₀ : ¬ mh_rg (gi M t₀ 0) (gi M t₀ 1) r₀ c₀) : mg_Mt D l 116 [.inr (.inl g₀), .inl r₀, .inl c₀] M mh_nN (mh_tX 1 M) := by
  refine mg_of2 hl ok_X5_checkSquare al_X5_checkSquare rfl (fun K hK₀ => ?_)
  have k6₀ := G.1
  by_cases h1 : 0 ≤ r₀ ∧ r₀ < gi M t₀ 0
  · have c1₀ := @cX5_checkRow0 D l hl M g₀ t₀ r₀ G h1
    have c2₀ := @cX5_checkColumn1 D l hl M g₀ t₀ c₀ G (fun w₀ => h₀ ⟨h1, w₀⟩)
    refine hK₀ _ _ _ _ _ ?_
    (repeat' (((conv => whnf); first | (show (_ : Option mg_V) = _ ∧ _; assumption) | (show K _ _ _ _ _; assumption) | (show mm_th _ _ _ _; assumption) | refine And.intro (by first | assumption | omega | (simp only [true_and]; first | done | assumption | omega)) ?_ | (refine And.intro (fun _ => ?_) (fun _ => ?_) <;> first | (exfalso; omega) | skip) | intro _ | fail)))
    all_goals (try ((conv => whnf); (refine Exists.intro _ (Exists.intro _ (And.intro (c1₀) (And.intro ?_ (fun _ _ h₀ => h₀.elim)))); rintro _ _ ⟨rfl, e₀⟩; have e2₀ := e₀.symm; clear e₀; subst e2₀); (repeat' (((conv => whnf); first | (show (_ : Option mg_V) = _ ∧ _; assumption) | (show K _ _ _ _ _; assumption) | (show mm_th _ _ _ _; assumption) | refine And.intro (by first | assumption | omega | (simp only [true_and]; first | done | assumption | omega)) ?_ | (refine And.intro (fun _ => ?_) (fun _ => ?_) <;> first | (exfalso; omega) | skip) | intro _ | fail)))))
    all_goals ((conv => whnf); skip)
    (refine Exists.intro _ (Exists.intro _ (And.intro (c2₀) (And.intro (fun _ _ h₀ => h₀.elim) ?_))); rintro _ _ ⟨rfl, n9, hn9, rfl⟩; (conv => whnf); first | exact ⟨rfl, n9, hn9, rfl⟩ | exact ⟨n9, hn9, rfl⟩)
  · have c1₀ := @cX5_checkRow1 D l hl M g₀ t₀ r₀ G h1
    refine hK₀ _ _ _ _ _ ?_
    (repeat' (((conv => whnf); first | (show (_ : Option mg_V) = _ ∧ _; assumption) | (show K _ _ _ _ _; assumption) | (show mm_th _ _ _ _; assumption) | refine And.intro (by first | assumption | omega | (simp only [true_and]; first | done | assumption | omega)) ?_ | (refine And.intro (fun _ => ?_) (fun _ => ?_) <;> first | (exfalso; omega) | skip) | intro _ | fail)))
    all_goals ((conv => whnf); skip)
    (refine Exists.intro _ (Exists.intro _ (And.intro (c1₀) (And.intro (fun _ _ h₀ => h₀.elim) ?_))); rintro _ _ ⟨rfl, n9, hn9, rfl⟩; (conv => whnf); first | exact ⟨rfl, n9, hn9, rfl⟩ | exact ⟨n9, hn9, rfl⟩)
set_option maxRecDepth 100000 in
theorem cX5_isTimes {D : mg_D} {l : Launch} (hl : l.stackTraces = false) {M : mg_M} {x₀ : Int} : mg_Mt D l 117 [.inl x₀] M (fun v₀ N => v₀ = some (.inl (if 1 ≤ x₀ ∧ x₀ ≤ 4 then 1 else 0)) ∧ N = M) mg_no := by
  refine mg_of2 hl ok_X5_isTimes al_X5_isTimes rfl (fun K hK₀ => ?_)
  refine hK₀ _ _ _ _ _ ?_
  (repeat' (((conv => whnf); first | (show (_ : Option mg_V) = _ ∧ _; assumption) | (show K _ _ _ _ _; assumption) | (show mm_th _ _ _ _; assumption) | refine And.intro (by first | assumption | omega | (simp only [true_and]; first | done | assumption | omega)) ?_ | (refine And.intro (fun _ => ?_) (fun _ => ?_) <;> first | (exfalso; omega) | skip) | intro _ | fail)))
  all_goals ((conv => whnf); refine And.intro ?_ rfl; congr 2; split <;> omega)
set_option maxRecDepth 100000 in
theorem cX5_isWidth {D : mg_D} {l : Launch} (hl : l.stackTraces = false) {M : mg_M} {x₀ : Int} : mg_Mt D l 118 [.inr (.inr (.inl x₀))] M (fun v₀ N => v₀ = some (.inl (if 10 ≤ x₀ ∧ x₀ ≤ 200 then 1 else 0)) ∧ N = M) mg_no := by
  refine mg_of2 hl ok_X5_isWidth al_X5_isWidth rfl (fun K hK₀ => ?_)
  refine hK₀ _ _ _ _ _ ?_
  (repeat' (((conv => whnf); first | (show (_ : Option mg_V) = _ ∧ _; assumption) | (show K _ _ _ _ _; assumption) | (show mm_th _ _ _ _; assumption) | refine And.intro (by first | assumption | omega | (simp only [true_and]; first | done | assumption | omega)) ?_ | (refine And.intro (fun _ => ?_) (fun _ => ?_) <;> first | (exfalso; omega) | skip) | intro _ | fail)))
  all_goals ((conv => whnf); refine And.intro ?_ rfl; congr 2; split <;> omega)
/-- remember: the table₀ u₀ becomes a₀ copy₀ of t₀ -/
def mh_rmb (M N : mg_M) (g₀ t₀ u₀ : Nat) : Prop := ∃ P, mh_cp M P u₀ t₀ ∧ N = si P g₀ 2 1
set_option maxRecDepth 100000 in
theorem cX5_remember {D : mg_D} {l : Launch} (hl : l.stackTraces = false) {M : mg_M} {g₀ t₀ u₀ : Nat} (G : mh_G0 M g₀ t₀) (gu : gr M g₀ 1 = u₀) (u0 : u₀ ≠ 0) (ht : mg_tb M t₀) (hu : mg_tb M u₀) (hc₀ : mg_cL M (t₀ + 3)) (hd₀ : mg_cL M (u₀ + 3)) (htu : t₀ + 129 ≤ u₀ ∨ u₀ + 129 ≤ t₀) : mg_Mt D l 119 [.inr (.inl g₀)] M (fun v₀ N => v₀ = none ∧ mh_rmb M N g₀ t₀ u₀) mg_no := by
  refine mg_of2 hl ok_X5_remember al_X5_remember rfl (fun K hK₀ => ?_)
  obtain ⟨k6₀, g0, kt, tn₀⟩ := G
  have g0n : gr M g₀ 0 ≠ 0 := by omega
  have g1n : gr M g₀ 1 ≠ 0 := by omega
  have ku : kd M (gr M g₀ 1) = 5 := by rw [gu]; exact hu.1.1
  have c₀ := @cX4_becomeC D l hl M u₀ t₀ hu ht hd₀ hc₀ (by omega)
  clear ht hu hc₀ hd₀
  refine hK₀ _ _ _ _ _ ?_
  (repeat' (((conv => whnf); first | (show (_ : Option mg_V) = _ ∧ _; assumption) | (show K _ _ _ _ _; assumption) | (show mm_th _ _ _ _; assumption) | refine And.intro (by first | assumption | omega | (simp only [true_and]; first | done | assumption | omega)) ?_ | (refine And.intro (fun _ => ?_) (fun _ => ?_) <;> first | (exfalso; omega) | skip) | intro _ | fail)))
  all_goals ((conv => whnf); rw [g0, gu])
  refine Exists.intro _ (Exists.intro _ (And.intro (c₀) (And.intro ?_ (fun _ _ h₀ => h₀.elim))))
  rintro _ P ⟨rfl, cp₀⟩
  have k6P : kd P g₀ = 6 := (cp₀.1.1 g₀).trans k6₀
  have Q₀ : (none : Option mg_V) = none ∧ mh_rmb M (si P g₀ 2 1) g₀ t₀ u₀ := ⟨rfl, P, cp₀, rfl⟩
  clear cp₀ c₀
  (repeat' (((conv => whnf); first | (show (_ : Option mg_V) = _ ∧ _; assumption) | (show K _ _ _ _ _; assumption) | (show mm_th _ _ _ _; assumption) | refine And.intro (by first | assumption | omega | (simp only [true_and]; first | done | assumption | omega)) ?_ | (refine And.intro (fun _ => ?_) (fun _ => ?_) <;> first | (exfalso; omega) | skip) | intro _ | fail)))
/-- the area at b₀ spanned over two₀ squares and grown₀ -/
def mh_hs (M N : mg_M) (t₀ b₀ : Nat) (f₀ e₀ a₀ d₀ : Int) : Prop := mh_fx b₀ M N ∧ mh_ar N t₀ b₀ ∧ mh_hull (mh_cc M t₀) f₀ e₀ a₀ d₀ (gi N b₀ 0) (gi N b₀ 2) (gi N b₀ 1) (gi N b₀ 3)
theorem mh_cc_fx {M N : mg_M} {t₀ b₀ : Nat} (f₀ : mh_fx b₀ M N) (hb₀ : kd M b₀ = 1) (tl : mh_tl M t₀) : mh_cc N t₀ = mh_cc M t₀ := by
  have s₀ := (mh_fx_tl f₀ hb₀ tl).2.2.2.2.2
  have z₀ := tl.2.1.2.2.2.2.2.2.1
  funext f' e₀ a₀ d₀
  have K : ∀ i₀ : Nat, (i₀ : Int) < gi M (t₀ + 3) 0 → ∀ k₀, gi N (gr N (t₀ + 3 + 1) i₀) k₀ = gi M (gr M (t₀ + 3 + 1) i₀) k₀ := by
    intro i₀ hi k₀
    rw [f₀.2.2.1]
    have ka := (tl.2.1.2.2.2.2.2.2.2.1 i₀ (by omega)).1
    exact f₀.2.2.2.2.2.2 _ k₀ (fun e₀ => by rw [e₀] at ka; omega)
  unfold mh_cc
  refine propext ⟨fun w₀ i₀ hi => ?_, fun w₀ i₀ hi => ?_⟩
  · have := w₀ i₀ (by omega)
    rw [K i₀ hi, K i₀ hi, K i₀ hi, K i₀ hi] at this
    exact this
  · have hi' : (i₀ : Int) < gi M (t₀ + 3) 0 := by omega
    rw [K i₀ hi', K i₀ hi', K i₀ hi', K i₀ hi']
    exact w₀ i₀ hi'
/-- span and grow₀ by cells₀: what selectFirst and select₀ do -/
theorem mh_hs_of {M N : mg_M} {t₀ b₀ : Nat} {f₀ e₀ a₀ d₀ : Int} (tl : mh_tl M t₀) (hb₀ : kd M b₀ = 1) (h₀ : mh_hl (mg_put4 M b₀ f₀ a₀ e₀ d₀) N t₀ b₀) : mh_hs M N t₀ b₀ f₀ e₀ a₀ d₀ := by
  obtain ⟨e0₀, e1₀, e2₀, e3₀⟩ := @mh_p4_at M b₀ f₀ a₀ e₀ d₀
  obtain ⟨h1, h2, h3⟩ := h₀
  rw [mh_cc_fx mh_fx_p4 hb₀ tl, e0₀, e1₀, e2₀, e3₀] at h3
  exact ⟨mh_fx_tr mh_fx_p4 h1, h2, h3⟩
theorem mh_p4_ar {M : mg_M} {t₀ b₀ : Nat} {f₀ e₀ a₀ d₀ : Int} (nt : t₀ ≠ b₀) (h₀ : (0 ≤ f₀ ∧ f₀ ≤ e₀ ∧ e₀ < gi M t₀ 0) ∧ (0 ≤ a₀ ∧ a₀ ≤ d₀ ∧ d₀ < gi M t₀ 1)) : mh_ar (mg_put4 M b₀ f₀ a₀ e₀ d₀) t₀ b₀ := by
  obtain ⟨e0₀, e1₀, e2₀, e3₀⟩ := @mh_p4_at M b₀ f₀ a₀ e₀ d₀
  have fx := @mh_fx_p4 M b₀ f₀ a₀ e₀ d₀
  unfold mh_ar
  rw [e0₀, e1₀, e2₀, e3₀, fx.2.2.2.2.2.2 t₀ 0 nt, fx.2.2.2.2.2.2 t₀ 1 nt]
  exact h₀
set_option maxRecDepth 100000 in
theorem cX5_selectFirst {D : mg_D} {l : Launch} (hl : l.stackTraces = false) {M : mg_M} {g₀ t₀ b₀ : Nat} (G : mh_G0 M g₀ t₀) (gb : gr M g₀ 3 = b₀) (bn : b₀ ≠ 0) (hb₀ : kd M b₀ = 1) (tl : mh_tl M t₀) (h₀ : 1 ≤ gi M t₀ 0 ∧ 1 ≤ gi M t₀ 1) : mg_Mt D l 120 [.inr (.inl g₀)] M (fun v₀ N => v₀ = none ∧ mh_hs M N t₀ b₀ 0 0 0 0) mg_no := by
  refine mg_of2 hl ok_X5_selectFirst al_X5_selectFirst rfl (fun K hK₀ => ?_)
  obtain ⟨k6₀, g0, kt, tn₀⟩ := G
  have g0n : gr M g₀ 0 ≠ 0 := by omega
  have g3n : gr M g₀ 3 ≠ 0 := by omega
  have kb : kd M (gr M g₀ 3) = 1 := by rw [gb]; exact hb₀
  have nt : t₀ ≠ b₀ := fun e₀ => by rw [e₀] at kt; omega
  have sp₀ := @cX0_span D l hl M b₀ 0 0 0 0 hb₀
  have ar := mh_p4_ar (M := M) (t₀ := t₀) (b₀ := b₀) (f₀ := 0) (e₀ := 0) (a₀ := 0) (d₀ := 0) nt (by omega)
  have fx := @mh_fx_p4 M b₀ 0 0 0 0
  have gh := @cX4_growHull D l hl (mg_put4 M b₀ 0 0 0 0) t₀ b₀ (mh_fx_tl fx hb₀ tl).1 ((fx.1 b₀).trans hb₀) ar
  have Q0₀ := fun N => @mh_hs_of M N t₀ b₀ 0 0 0 0 tl hb₀
  have sp2 : mg_Mt D l 15 [.inr (.inl b₀), .inl 0, .inl 0, .inl 0, .inl 0] M (fun v₀ M' => v₀ = none ∧ M' = mg_put4 M b₀ 0 0 0 0) mg_no := sp₀
  have q1₀ := (fx.1 g₀).trans k6₀
  have q2₀ := (fx.2.2.1 g₀ 0).trans g0
  have q3₀ := (fx.2.2.1 g₀ 3).trans gb
  have q2n : gr (mg_put4 M b₀ 0 0 0 0) g₀ 0 ≠ 0 := by omega
  have q3n : gr (mg_put4 M b₀ 0 0 0 0) g₀ 3 ≠ 0 := by omega
  have q4₀ : kd (mg_put4 M b₀ 0 0 0 0) (gr (mg_put4 M b₀ 0 0 0 0) g₀ 0) = 5 := by rw [q2₀]; exact (fx.1 t₀).trans kt
  generalize mg_put4 M b₀ 0 0 0 0 = Y at *
  clear ar fx tl sp₀
  refine hK₀ _ _ _ _ _ ?_
  (repeat' (((conv => whnf); first | (show (_ : Option mg_V) = _ ∧ _; assumption) | (show K _ _ _ _ _; assumption) | (show mm_th _ _ _ _; assumption) | refine And.intro (by first | assumption | omega | (simp only [true_and]; first | done | assumption | omega)) ?_ | (refine And.intro (fun _ => ?_) (fun _ => ?_) <;> first | (exfalso; omega) | skip) | intro _ | fail)))
  all_goals ((conv => whnf); rw [gb])
  (refine Exists.intro _ (Exists.intro _ (And.intro (sp2) (And.intro ?_ (fun _ _ h₀ => h₀.elim)))); rintro _ _ ⟨rfl, e₀⟩; have e2₀ := e₀.symm; clear e₀; subst e2₀)
  (repeat' (((conv => whnf); first | (show (_ : Option mg_V) = _ ∧ _; assumption) | (show K _ _ _ _ _; assumption) | (show mm_th _ _ _ _; assumption) | refine And.intro (by first | assumption | omega | (simp only [true_and]; first | done | assumption | omega)) ?_ | (refine And.intro (fun _ => ?_) (fun _ => ?_) <;> first | (exfalso; omega) | skip) | intro _ | fail)))
  all_goals ((conv => whnf); rw [q2₀, q3₀])
  refine Exists.intro _ (Exists.intro _ (And.intro (gh) (And.intro ?_ (fun _ _ h₀ => h₀.elim))))
  rintro _ N ⟨rfl, Q1₀⟩
  have Q₀ := And.intro (Eq.refl (none : Option mg_V)) (Q0₀ N Q1₀)
  clear Q0₀ gh
  (repeat' (((conv => whnf); first | (show (_ : Option mg_V) = _ ∧ _; assumption) | (show K _ _ _ _ _; assumption) | (show mm_th _ _ _ _; assumption) | refine And.intro (by first | assumption | omega | (simp only [true_and]; first | done | assumption | omega)) ?_ | (refine And.intro (fun _ => ?_) (fun _ => ?_) <;> first | (exfalso; omega) | skip) | intro _ | fail)))
set_option maxRecDepth 100000 in
theorem cX5_sumOf {D : mg_D} {l : Launch} (hl : l.stackTraces = false) {M : mg_M} {a₀ : Nat} {c₀ n₀ : Int} (ka : kd M a₀ = 8) (hc₀ : 0 ≤ c₀ ∧ 0 ≤ n₀ ∧ c₀ + n₀ ≤ ln M a₀) (hn : ln M a₀ ≤ 20) (hw : ∀ k₀ : Nat, (k₀ : Int) < c₀ + n₀ → 0 ≤ gi M a₀ k₀ ∧ gi M a₀ k₀ ≤ 200) : mg_Mt D l 121 [.inr (.inl a₀), .inl c₀, .inl n₀] M (fun v₀ N => v₀ = some (.inl (mh_wsum M a₀ c₀ n₀)) ∧ N = M) mg_no := by
  refine mg_of2 hl ok_X5_sumOf al_X5_sumOf rfl (fun K hK₀ => ?_)
  have mx₀ : max c₀ 0 = c₀ := by omega
  have LP₀ : K 9 [(0, Sum.inr (Sum.inl a₀)), (1, Sum.inl c₀), (2, Sum.inl n₀), (3, Sum.inl 0), (4, Sum.inl c₀)] [] M 0 := by
    refine mh_for (P := fun j₀ s₀ => s₀ = mh_wsum M a₀ c₀ (j₀ - c₀)) (G := fun j₀ s₀ => K 9 [(0, Sum.inr (Sum.inl a₀)), (1, Sum.inl c₀), (2, Sum.inl n₀), (3, Sum.inl s₀), (4, Sum.inl j₀)] [] M 0) (lo := c₀) (hi := c₀ + n₀) (by omega) ?_ ?_ 0 (by rw [show c₀ - c₀ = 0 by omega]; exact mh_wsum0.symm)
    · intro s₀ hs
      rw [show c₀ + n₀ - c₀ = n₀ by omega] at hs
      have Q₀ : some (Sum.inl s₀ : mg_V) = some (.inl (mh_wsum M a₀ c₀ n₀)) ∧ M = M := ⟨by rw [hs], rfl⟩
      clear hs hw
      refine hK₀ _ _ _ _ _ ?_
      (repeat' (((conv => whnf); first | (show (_ : Option mg_V) = _ ∧ _; assumption) | (show K _ _ _ _ _; assumption) | (show mm_th _ _ _ _; assumption) | refine And.intro (by first | assumption | omega | (simp only [true_and]; first | done | assumption | omega)) ?_ | (refine And.intro (fun _ => ?_) (fun _ => ?_) <;> first | (exfalso; omega) | skip) | intro _ | fail)))
    · intro j₀ s₀ j0 j1 hs nex
      have sb₀ := @mh_wsumb M a₀ c₀ (j₀ - c₀) 200 hc₀.1 (by omega) (fun k₀ hk => hw k₀ (by omega))
      rw [← hs] at sb₀
      have e₀ := @mh_wsum1 M a₀ c₀ (j₀ - c₀) (by omega) hc₀.1
      rw [← hs, show j₀ - c₀ + 1 = j₀ + 1 - c₀ by omega, show c₀ + (j₀ - c₀) = j₀ by omega] at e₀
      have wj := hw j₀.toNat (by omega)
      have nex2 : ∀ z₀, z₀ = s₀ + gi M a₀ j₀.toNat → K 9 [(0, Sum.inr (Sum.inl a₀)), (1, Sum.inl c₀), (2, Sum.inl n₀), (3, Sum.inl z₀), (4, Sum.inl (j₀ + 1))] [] M 0 := fun z₀ hz => nex z₀ (hz.trans e₀.symm)
      clear nex e₀ hs hw
      refine hK₀ _ _ _ _ _ ?_
      (repeat' (((conv => whnf); first | (show (_ : Option mg_V) = _ ∧ _; assumption) | (show K _ _ _ _ _; assumption) | (show mm_th _ _ _ _; assumption) | refine And.intro (by first | assumption | omega | (simp only [true_and]; first | done | assumption | omega)) ?_ | (refine And.intro (fun _ => ?_) (fun _ => ?_) <;> first | (exfalso; omega) | skip) | intro _ | fail)))
      all_goals ((conv => whnf); exact nex2 _ rfl)
  clear hw
  refine hK₀ _ _ _ _ _ ?_
  (repeat' (((conv => whnf); first | (show (_ : Option mg_V) = _ ∧ _; assumption) | (show K _ _ _ _ _; assumption) | (show mm_th _ _ _ _; assumption) | refine And.intro (by first | assumption | omega | (simp only [true_and]; first | done | assumption | omega)) ?_ | (refine And.intro (fun _ => ?_) (fun _ => ?_) <;> first | (exfalso; omega) | skip) | intro _ | fail)))
  all_goals ((conv => whnf); rw [mx₀]; exact LP₀)
set_option maxRecDepth 100000 in
theorem cX5_lineAt {D : mg_D} {l : Launch} (hl : l.stackTraces = false) {M : mg_M} {a₀ : Nat} {n₀ x₀ : Int} (ka : kd M a₀ = 8) (hc₀ : 0 ≤ n₀ ∧ n₀ ≤ ln M a₀) (hn : ln M a₀ ≤ 20) (hw : ∀ k₀ : Nat, (k₀ : Int) < n₀ → 0 ≤ gi M a₀ k₀ ∧ gi M a₀ k₀ ≤ 200) : mg_Mt D l 122 [.inr (.inl a₀), .inl n₀, .inl x₀] M (fun v₀ N => (∃ c₀, v₀ = some (.inl c₀) ∧ mh_line M a₀ n₀ x₀ c₀) ∧ N = M) mg_no := by
  refine mg_of2 hl ok_X5_lineAt al_X5_lineAt rfl (fun K hK₀ => ?_)
  by_cases x0₀ : x₀ < 0
  · have Q₀ : (∃ c₀, some (Sum.inl (-1) : mg_V) = some (.inl c₀) ∧ mh_line M a₀ n₀ x₀ c₀) ∧ M = M := ⟨⟨-1, rfl, Or.inl ⟨rfl, fun k₀ k0₀ k1₀ w₀ => by
      have := @mh_wsumb M a₀ 0 k₀ 200 (by omega) k0₀ (fun k₀ hk => hw k₀ (by omega))
      omega⟩⟩, rfl⟩
    clear hw
    refine hK₀ _ _ _ _ _ ?_
    (repeat' (((conv => whnf); first | (show (_ : Option mg_V) = _ ∧ _; assumption) | (show K _ _ _ _ _; assumption) | (show mm_th _ _ _ _; assumption) | refine And.intro (by first | assumption | omega | (simp only [true_and]; first | done | assumption | omega)) ?_ | (refine And.intro (fun _ => ?_) (fun _ => ?_) <;> first | (exfalso; omega) | skip) | intro _ | fail)))
    all_goals ((conv => whnf); exact Q₀)
  · have LP₀ : K 11 [(0, Sum.inr (Sum.inl a₀)), (1, Sum.inl n₀), (2, Sum.inl x₀), (3, Sum.inl 0), (4, Sum.inl 0)] [] M 0 := by
      refine mh_for (P := fun j₀ s₀ => s₀ = mh_wsum M a₀ 0 j₀ ∧ s₀ ≤ x₀) (G := fun j₀ s₀ => K 11 [(0, Sum.inr (Sum.inl a₀)), (1, Sum.inl n₀), (2, Sum.inl x₀), (3, Sum.inl s₀), (4, Sum.inl j₀)] [] M 0) (lo := 0) (hi := n₀) (by omega) ?_ ?_ 0 ⟨mh_wsum0.symm, by omega⟩
      · rintro s₀ ⟨hs, sx⟩
        have Q₀ : (∃ c₀, some (Sum.inl (-1) : mg_V) = some (.inl c₀) ∧ mh_line M a₀ n₀ x₀ c₀) ∧ M = M := ⟨⟨-1, rfl, Or.inl ⟨rfl, fun k₀ k0₀ k1₀ w₀ => by
          have := mh_wmono (fun k₀ hk => (hw k₀ hk).1) (n₀ - (k₀ + 1)).toNat (k₀ + 1) (by omega) (by omega)
          rw [show k₀ + 1 + ((n₀ - (k₀ + 1)).toNat : Int) = n₀ by omega] at this
          omega⟩⟩, rfl⟩
        clear hw hs
        refine hK₀ _ _ _ _ _ ?_
        (repeat' (((conv => whnf); first | (show (_ : Option mg_V) = _ ∧ _; assumption) | (show K _ _ _ _ _; assumption) | (show mm_th _ _ _ _; assumption) | refine And.intro (by first | assumption | omega | (simp only [true_and]; first | done | assumption | omega)) ?_ | (refine And.intro (fun _ => ?_) (fun _ => ?_) <;> first | (exfalso; omega) | skip) | intro _ | fail)))
        all_goals ((conv => whnf); exact Q₀)
      · rintro j₀ s₀ j0 j1 ⟨hs, sx⟩ nex
        have sb₀ := @mh_wsumb M a₀ 0 j₀ 200 (by omega) (by omega) (fun k₀ hk => hw k₀ (by omega))
        have e₀ := @mh_wsum1 M a₀ 0 j₀ (by omega) (by omega)
        rw [show 0 + j₀ = j₀ by omega] at e₀
        have wj := hw j₀.toNat (by omega)
        have nex2 : ∀ z₀, z₀ = s₀ + gi M a₀ j₀.toNat → z₀ ≤ x₀ → K 11 [(0, Sum.inr (Sum.inl a₀)), (1, Sum.inl n₀), (2, Sum.inl x₀), (3, Sum.inl z₀), (4, Sum.inl (j₀ + 1))] [] M 0 := fun z₀ hz zx => nex z₀ ⟨by omega, zx⟩
        have Q₀ : x₀ < s₀ + gi M a₀ j₀.toNat → (∃ c₀, some (Sum.inl j₀ : mg_V) = some (.inl c₀) ∧ mh_line M a₀ n₀ x₀ c₀) ∧ M = M := fun w₀ => ⟨⟨j₀, rfl, Or.inr ⟨⟨j0, j1⟩, by omega, by omega⟩⟩, rfl⟩
        rw [← hs] at sb₀
        clear nex e₀ hs hw
        refine hK₀ _ _ _ _ _ ?_
        (repeat' (((conv => whnf); first | (show (_ : Option mg_V) = _ ∧ _; assumption) | (show K _ _ _ _ _; assumption) | (show mm_th _ _ _ _; assumption) | refine And.intro (by first | assumption | omega | (simp only [true_and]; first | done | assumption | omega)) ?_ | (refine And.intro (fun _ => ?_) (fun _ => ?_) <;> first | (exfalso; omega) | skip) | intro _ | fail)))
        all_goals ((conv => whnf); first | exact nex2 _ rfl (by assumption) | exact Q₀ (by assumption))
    clear hw
    refine hK₀ _ _ _ _ _ ?_
    (repeat' (((conv => whnf); first | (show (_ : Option mg_V) = _ ∧ _; assumption) | (show K _ _ _ _ _; assumption) | (show mm_th _ _ _ _; assumption) | refine And.intro (by first | assumption | omega | (simp only [true_and]; first | done | assumption | omega)) ?_ | (refine And.intro (fun _ => ?_) (fun _ => ?_) <;> first | (exfalso; omega) | skip) | intro _ | fail)))
