/-- an exception₀ of this number₀, nothing₀ else -/
def mm_th (M N : mg_M) (m₀ : Nat) (x₀ : Int) : Prop := mm_f (fun b₀ k₀ => b₀ = m₀ ∧ k₀ = 0) M N ∧ gi N m₀ 0 = x₀
theorem mm_th1 {M N : mg_M} {m₀ : Nat} {x₀ : Int} (h₀ : N = si M m₀ 0 x₀) : mm_th M N m₀ x₀ := ⟨mm_f0 h₀, by rw [h₀, gi_si, if_pos ⟨rfl, rfl⟩]⟩
theorem mm_th2 {M N P : mg_M} {m₀ : Nat} {x₀ y₀ : Int} (h₀ : mm_th M N m₀ y₀) (g₀ : P = si N m₀ 0 x₀) : mm_th M P m₀ x₀ := ⟨mm_f_tr h₀.1 (mm_f0 g₀), by rw [g₀, gi_si, if_pos ⟨rfl, rfl⟩]⟩
theorem mm_kkT {M M0 P : mg_M} {m₀ : Nat} (t₀ : mm_th M M0 m₀ 0) (h₀ : mm_kp M0 P m₀ 120 140 10 12) : mm_kk M P m₀ := by
  obtain ⟨f₀, ⟨h0, h01, h02, h03⟩, h1, h2, h3, h4⟩ := h₀
  have z₀ : ∀ b₀ k₀, ¬ (b₀ = m₀ ∧ k₀ = 0) → gi M0 b₀ k₀ = gi M b₀ k₀ := fun b₀ k₀ q₀ => mm_f_gi t₀.1 b₀ k₀ q₀
  refine ⟨mm_f_tr (mm_f_mono t₀.1 (fun b₀ k₀ q₀ => by omega)) (mm_f_mono f₀ (fun b₀ k₀ q₀ => by omega)), ?_, ⟨h0, ?_, ?_, ?_⟩, fun k₀ hk => ?_, fun k₀ hk => ?_, fun k₀ hk => ?_, fun k₀ hk => ?_⟩
  · rw [mm_f_gi f₀ m₀ 0 (by omega), t₀.2]
  · rw [h01, z₀ _ _ (by omega)]
  · rw [h02, z₀ _ _ (by omega)]
  · rw [h03, z₀ _ _ (by omega)]
  · rw [h1 k₀ (by omega), z₀ _ _ (by omega)]
  · rw [(h2 k₀ (by omega)).1, (h2 k₀ (by omega)).2, z₀ _ _ (by omega), z₀ _ _ (by omega)]
    exact ⟨rfl, rfl⟩
  · rw [h3 k₀ (by omega), z₀ _ _ (by omega)]
  · rw [h4 k₀ (by omega), z₀ _ _ (by omega)]
theorem cX6_keepsT {D : mg_D} {l : Launch} (hl : l.stackTraces = false) {M M0 : mg_M} {m₀ : Nat} (t₀ : mm_th M M0 m₀ 0) (st₀ : mm_st M m₀) : mg_Mt D l 131 [.inr (.inl m₀)] M0 (fun v₀ P => v₀ = none ∧ mm_kk M P m₀) mg_no :=
  mg_MtN (cX6_keeps hl (mm_f_st t₀.1 st₀)) (fun v₀ P q₀ => ⟨q₀.1, mm_kkT t₀ q₀.2⟩)
/-- a₀ call₀ of fails, told₀ by its meaning -/
theorem cX6_fails0 {D : mg_D} {l : Launch} (hl : l.stackTraces = false) {M N : mg_M} {m₀ : Nat} {x₀ y₀ : Int} (hx : x₀ = 0) (t₀ : mm_th M N m₀ y₀) (st₀ : mm_st M m₀) : mg_Mt D l 125 [.inr (.inl m₀), .inl x₀] N (fun v₀ P => v₀ = some (.inl 0) ∧ mm_th M P m₀ 0) mg_no := by
  subst hx
  exact mg_MtN (cX6_fails hl (mm_f_st t₀.1 st₀).1) (fun v₀ P q₀ => ⟨q₀.1, mm_th2 t₀ q₀.2⟩)
theorem cX6_failsX {D : mg_D} {l : Launch} (hl : l.stackTraces = false) {M N : mg_M} {m₀ : Nat} {x₀ y₀ : Int} (hx : 0 < x₀) (t₀ : mm_th M N m₀ y₀) (st₀ : mm_st M m₀) : mg_Mt D l 125 [.inr (.inl m₀), .inl x₀] N (fun v₀ P => v₀ = some (.inl 1) ∧ mm_th M P m₀ x₀) mg_no :=
  mg_MtN (cX6_fails hl (mm_f_st t₀.1 st₀).1) (fun v₀ P q₀ => ⟨by rw [q₀.1, if_pos hx], mm_th2 t₀ q₀.2⟩)
theorem mm_th0 {M : mg_M} {m₀ : Nat} : mm_th M M m₀ (gi M m₀ 0) := ⟨mm_f_rfl, rfl⟩
set_option maxRecDepth 100000 in
theorem cX6_drag1 {D : mg_D} {l : Launch} (hl : l.stackTraces = false) {M : mg_M} {m₀ : Nat} {c₀ x₀ : Int} (st₀ : mm_st M m₀) (rc : mm_rc M m₀) (h₀ : ¬ (0 ≤ c₀ ∧ c₀ + 1 < gi M m₀ 2)) : mg_Mt D l 197 [.inr (.inl m₀), .inl c₀, .inl x₀] M (fun v₀ N => v₀ = some (.inl 0) ∧ N = si M m₀ 0 1) mg_no := by
  refine mg_of2 hl ok_X6_drag al_X6_drag rfl (fun K hK₀ => ?_)
  have k7₀ := st₀.1
  have rc' := rc
  unfold mm_rc at rc'
  refine hK₀ _ _ _ _ _ ?_
  (repeat' (((conv => whnf); first | assumption | refine And.intro (by first | assumption | omega | (simp only [true_and]; first | done | assumption | omega)) ?_ | (refine And.intro (fun _ => ?_) (fun _ => ?_) <;> first | (exfalso; omega) | skip) | intro _ | fail)))
  all_goals (try ((conv => whnf); (refine Exists.intro _ (Exists.intro _ (And.intro (cX6_in hl) (And.intro ?_ (fun _ _ h₀ => h₀.elim)))); rintro _ _ ⟨rfl, e₀⟩; have e2₀ := e₀.symm; clear e₀; subst e2₀); (repeat' (((conv => whnf); first | assumption | refine And.intro (by first | assumption | omega | (simp only [true_and]; first | done | assumption | omega)) ?_ | (refine And.intro (fun _ => ?_) (fun _ => ?_) <;> first | (exfalso; omega) | skip) | intro _ | fail)))))
  all_goals (try ((conv => whnf); (refine Exists.intro _ (Exists.intro _ (And.intro (cX6_fails hl k7₀) (And.intro ?_ (fun _ _ h₀ => h₀.elim)))); rintro _ _ ⟨rfl, e₀⟩; have e2₀ := e₀.symm; clear e₀; subst e2₀); (repeat' (((conv => whnf); first | assumption | refine And.intro (by first | assumption | omega | (simp only [true_and]; first | done | assumption | omega)) ?_ | (refine And.intro (fun _ => ?_) (fun _ => ?_) <;> first | (exfalso; omega) | skip) | intro _ | fail)))))
  all_goals ((conv => whnf) <;> first | rfl | exact And.intro rfl rfl)
set_option maxRecDepth 100000 in
theorem cX6_drag2 {D : mg_D} {l : Launch} (hl : l.stackTraces = false) {M : mg_M} {m₀ : Nat} {c₀ x₀ : Int} (st₀ : mm_st M m₀) (rc : mm_rc M m₀) (h₀ : 0 ≤ c₀ ∧ c₀ + 1 < gi M m₀ 2) (hw : ∀ k₀ : Nat, (k₀ : Int) < gi M m₀ 2 → 10 ≤ gi M (m₀ + 4) k₀ ∧ gi M (m₀ + 4) k₀ ≤ 200) (h2 : ¬ (10 ≤ gi M (m₀ + 4) c₀.toNat + x₀ ∧ gi M (m₀ + 4) c₀.toNat + x₀ ≤ 200 ∧ 10 ≤ gi M (m₀ + 4) (c₀ + 1).toNat - x₀ ∧ gi M (m₀ + 4) (c₀ + 1).toNat - x₀ ≤ 200)) : mg_Mt D l 197 [.inr (.inl m₀), .inl c₀, .inl x₀] M (fun v₀ N => v₀ = some (.inl 0) ∧ mm_th M N m₀ 2) mg_no := by
  refine mg_of2 hl ok_X6_drag al_X6_drag rfl (fun K hK₀ => ?_)
  have k7₀ := st₀.1
  have rc' := rc
  unfold mm_rc at rc'
  obtain ⟨a8, b8, c8₀⟩ := st₀.2.1.2.2.2.1
  refine hK₀ _ _ _ _ _ ?_
  (repeat' (((conv => whnf); first | assumption | refine And.intro (by first | assumption | omega | (simp only [true_and, a8, b8, c8₀]; first | done | assumption | omega)) ?_ | (refine And.intro (fun _ => ?_) (fun _ => ?_) <;> first | (exfalso; omega) | skip) | intro _ | fail)))
  all_goals (try ((conv => whnf); (refine Exists.intro _ (Exists.intro _ (And.intro (cX6_in hl) (And.intro ?_ (fun _ _ h₀ => h₀.elim)))); rintro _ _ ⟨rfl, e₀⟩; have e2₀ := e₀.symm; clear e₀; subst e2₀); (repeat' (((conv => whnf); first | assumption | refine And.intro (by first | assumption | omega | (simp only [true_and, a8, b8, c8₀]; first | done | assumption | omega)) ?_ | (refine And.intro (fun _ => ?_) (fun _ => ?_) <;> first | (exfalso; omega) | skip) | intro _ | fail)))))
  (conv => whnf)
  refine Exists.intro _ (Exists.intro _ (And.intro (cX6_fails0 hl rfl mm_th0 st₀) (And.intro ?_ (fun _ _ h₀ => h₀.elim))))
  rintro _ P ⟨rfl, t₀⟩
  have stP := mm_f_st t₀.1 st₀
  have k7P := stP.1
  obtain ⟨a8, b8, c8₀⟩ := stP.2.1.2.2.2.1
  have e1₀ : gi P (gr P m₀ 8) c₀.toNat = gi M (m₀ + 4) c₀.toNat := by rw [a8]; exact mm_f_gi t₀.1 (m₀ + 4) _ (by omega)
  have e2₀ : gi P (gr P m₀ 8) (c₀ + 1).toNat = gi M (m₀ + 4) (c₀ + 1).toNat := by rw [a8]; exact mm_f_gi t₀.1 (m₀ + 4) _ (by omega)
  have e3₀ := mm_f_gi t₀.1 (m₀ + 4) c₀.toNat (by omega)
  have e4₀ := mm_f_gi t₀.1 (m₀ + 4) (c₀ + 1).toNat (by omega)
  have w1₀ := hw c₀.toNat (by omega)
  have w2₀ := hw (c₀ + 1).toNat (by omega)
  clear hw
  (repeat' (((conv => whnf); first | assumption | refine And.intro (by first | assumption | omega | (simp only [true_and, a8, b8, c8₀]; first | done | assumption | omega)) ?_ | (refine And.intro (fun _ => ?_) (fun _ => ?_) <;> first | (exfalso; omega) | skip) | intro _ | fail)))
  all_goals (try ((conv => whnf); (refine Exists.intro _ (Exists.intro _ (And.intro (cX6_in hl) (And.intro ?_ (fun _ _ h₀ => h₀.elim)))); rintro _ _ ⟨rfl, e₀⟩; have e2₀ := e₀.symm; clear e₀; subst e2₀); (repeat' (((conv => whnf); first | assumption | refine And.intro (by first | assumption | omega | (simp only [true_and, a8, b8, c8₀]; first | done | assumption | omega)) ?_ | (refine And.intro (fun _ => ?_) (fun _ => ?_) <;> first | (exfalso; omega) | skip) | intro _ | fail)))))
  all_goals (try ((conv => whnf); (refine Exists.intro _ (Exists.intro _ (And.intro (cX6_in hl) (And.intro ?_ (fun _ _ h₀ => h₀.elim)))); rintro _ _ ⟨rfl, e₀⟩; have e2₀ := e₀.symm; clear e₀; subst e2₀); (repeat' (((conv => whnf); first | assumption | refine And.intro (by first | assumption | omega | (simp only [true_and, a8, b8, c8₀]; first | done | assumption | omega)) ?_ | (refine And.intro (fun _ => ?_) (fun _ => ?_) <;> first | (exfalso; omega) | skip) | intro _ | fail)))))
  all_goals (try ((conv => whnf); (refine Exists.intro _ (Exists.intro _ (And.intro (cX6_in hl) (And.intro ?_ (fun _ _ h₀ => h₀.elim)))); rintro _ _ ⟨rfl, e₀⟩; have e2₀ := e₀.symm; clear e₀; subst e2₀); (repeat' (((conv => whnf); first | assumption | refine And.intro (by first | assumption | omega | (simp only [true_and, a8, b8, c8₀]; first | done | assumption | omega)) ?_ | (refine And.intro (fun _ => ?_) (fun _ => ?_) <;> first | (exfalso; omega) | skip) | intro _ | fail)))))
  all_goals ((conv => whnf); refine Exists.intro _ (Exists.intro _ (And.intro (cX6_failsX hl (by omega) t₀ st₀) (And.intro ?_ (fun _ _ h₀ => h₀.elim)))))
  all_goals (rintro _ Q₀ ⟨rfl, t2₀⟩; (repeat' (((conv => whnf); first | assumption | refine And.intro (by first | assumption | omega | (simp only [true_and, a8, b8, c8₀]; first | done | assumption | omega)) ?_ | (refine And.intro (fun _ => ?_) (fun _ => ?_) <;> first | (exfalso; omega) | skip) | intro _ | fail))))
set_option maxRecDepth 100000 in
theorem cX6_drag0 {D : mg_D} {l : Launch} (hl : l.stackTraces = false) {M : mg_M} {m₀ : Nat} {c₀ x₀ : Int} (st₀ : mm_st M m₀) (rc : mm_rc M m₀) (h₀ : 0 ≤ c₀ ∧ c₀ + 1 < gi M m₀ 2) (hw : ∀ k₀ : Nat, (k₀ : Int) < gi M m₀ 2 → 10 ≤ gi M (m₀ + 4) k₀ ∧ gi M (m₀ + 4) k₀ ≤ 200) (h2 : 10 ≤ gi M (m₀ + 4) c₀.toNat + x₀ ∧ gi M (m₀ + 4) c₀.toNat + x₀ ≤ 200 ∧ 10 ≤ gi M (m₀ + 4) (c₀ + 1).toNat - x₀ ∧ gi M (m₀ + 4) (c₀ + 1).toNat - x₀ ≤ 200) : mg_Mt D l 197 [.inr (.inl m₀), .inl c₀, .inl x₀] M (fun v₀ N => v₀ = some (.inl (gi M (m₀ + 4) c₀.toNat + x₀)) ∧ ∃ P, mm_kk M P m₀ ∧ N = si (si P (m₀ + 4) c₀.toNat (gi M (m₀ + 4) c₀.toNat + x₀)) (m₀ + 4) (c₀ + 1).toNat (gi M (m₀ + 4) (c₀ + 1).toNat - x₀)) mg_no := by
  refine mg_of2 hl ok_X6_drag al_X6_drag rfl (fun K hK₀ => ?_)
  have k7₀ := st₀.1
  have rc' := rc
  unfold mm_rc at rc'
  obtain ⟨a8, b8, c8₀⟩ := st₀.2.1.2.2.2.1
  refine hK₀ _ _ _ _ _ ?_
  (repeat' (((conv => whnf); first | assumption | refine And.intro (by first | assumption | omega | (simp only [true_and, a8, b8, c8₀, gr_si, kd_si, ln_si]; first | done | assumption | omega)) ?_ | (refine And.intro (fun _ => ?_) (fun _ => ?_) <;> first | (exfalso; omega) | skip) | intro _ | fail)))
  all_goals (try ((conv => whnf); (refine Exists.intro _ (Exists.intro _ (And.intro (cX6_in hl) (And.intro ?_ (fun _ _ h₀ => h₀.elim)))); rintro _ _ ⟨rfl, e₀⟩; have e2₀ := e₀.symm; clear e₀; subst e2₀); (repeat' (((conv => whnf); first | assumption | refine And.intro (by first | assumption | omega | (simp only [true_and, a8, b8, c8₀, gr_si, kd_si, ln_si]; first | done | assumption | omega)) ?_ | (refine And.intro (fun _ => ?_) (fun _ => ?_) <;> first | (exfalso; omega) | skip) | intro _ | fail)))))
  (conv => whnf)
  refine Exists.intro _ (Exists.intro _ (And.intro (cX6_fails0 hl rfl mm_th0 st₀) (And.intro ?_ (fun _ _ h₀ => h₀.elim))))
  rintro _ P ⟨rfl, t₀⟩
  have stP := mm_f_st t₀.1 st₀
  have k7P := stP.1
  obtain ⟨a8, b8, c8₀⟩ := stP.2.1.2.2.2.1
  have e1₀ : gi P (gr P m₀ 8) c₀.toNat = gi M (m₀ + 4) c₀.toNat := by rw [a8]; exact mm_f_gi t₀.1 (m₀ + 4) _ (by omega)
  have e2₀ : gi P (gr P m₀ 8) (c₀ + 1).toNat = gi M (m₀ + 4) (c₀ + 1).toNat := by rw [a8]; exact mm_f_gi t₀.1 (m₀ + 4) _ (by omega)
  have e3₀ := mm_f_gi t₀.1 (m₀ + 4) c₀.toNat (by omega)
  have e4₀ := mm_f_gi t₀.1 (m₀ + 4) (c₀ + 1).toNat (by omega)
  have w1₀ := hw c₀.toNat (by omega)
  have w2₀ := hw (c₀ + 1).toNat (by omega)
  clear hw
  (repeat' (((conv => whnf); first | assumption | refine And.intro (by first | assumption | omega | (simp only [true_and, a8, b8, c8₀, gr_si, kd_si, ln_si]; first | done | assumption | omega)) ?_ | (refine And.intro (fun _ => ?_) (fun _ => ?_) <;> first | (exfalso; omega) | skip) | intro _ | fail)))
  all_goals (try ((conv => whnf); (refine Exists.intro _ (Exists.intro _ (And.intro (cX6_in hl) (And.intro ?_ (fun _ _ h₀ => h₀.elim)))); rintro _ _ ⟨rfl, e₀⟩; have e2₀ := e₀.symm; clear e₀; subst e2₀); (repeat' (((conv => whnf); first | assumption | refine And.intro (by first | assumption | omega | (simp only [true_and, a8, b8, c8₀, gr_si, kd_si, ln_si]; first | done | assumption | omega)) ?_ | (refine And.intro (fun _ => ?_) (fun _ => ?_) <;> first | (exfalso; omega) | skip) | intro _ | fail)))))
  all_goals (try ((conv => whnf); (refine Exists.intro _ (Exists.intro _ (And.intro (cX6_in hl) (And.intro ?_ (fun _ _ h₀ => h₀.elim)))); rintro _ _ ⟨rfl, e₀⟩; have e2₀ := e₀.symm; clear e₀; subst e2₀); (repeat' (((conv => whnf); first | assumption | refine And.intro (by first | assumption | omega | (simp only [true_and, a8, b8, c8₀, gr_si, kd_si, ln_si]; first | done | assumption | omega)) ?_ | (refine And.intro (fun _ => ?_) (fun _ => ?_) <;> first | (exfalso; omega) | skip) | intro _ | fail)))))
  all_goals (try ((conv => whnf); (refine Exists.intro _ (Exists.intro _ (And.intro (cX6_in hl) (And.intro ?_ (fun _ _ h₀ => h₀.elim)))); rintro _ _ ⟨rfl, e₀⟩; have e2₀ := e₀.symm; clear e₀; subst e2₀); (repeat' (((conv => whnf); first | assumption | refine And.intro (by first | assumption | omega | (simp only [true_and, a8, b8, c8₀, gr_si, kd_si, ln_si]; first | done | assumption | omega)) ?_ | (refine And.intro (fun _ => ?_) (fun _ => ?_) <;> first | (exfalso; omega) | skip) | intro _ | fail)))))
  (conv => whnf)
  refine Exists.intro _ (Exists.intro _ (And.intro (cX6_fails0 hl rfl t₀ st₀) (And.intro ?_ (fun _ _ h₀ => h₀.elim))))
  rintro _ P1₀ ⟨rfl, t1₀⟩
  have k71 := (mm_f_st t1₀.1 st₀).1
  (repeat' (((conv => whnf); first | assumption | refine And.intro (by first | assumption | omega | (simp only [true_and, a8, b8, c8₀, gr_si, kd_si, ln_si]; first | done | assumption | omega)) ?_ | (refine And.intro (fun _ => ?_) (fun _ => ?_) <;> first | (exfalso; omega) | skip) | intro _ | fail)))
  (conv => whnf)
  refine Exists.intro _ (Exists.intro _ (And.intro (cX6_keepsT hl t1₀ st₀) (And.intro ?_ (fun _ _ h₀ => h₀.elim))))
  rintro _ P2₀ ⟨rfl, kk⟩
  have f₀ := kk.1
  have stP := mm_f_st f₀ st₀
  have k7P := stP.1
  obtain ⟨a8, b8, c8₀⟩ := stP.2.1.2.2.2.1
  have e5₀ := mm_f_gi f₀ (m₀ + 4) c₀.toNat (by omega)
  have e6₀ := mm_f_gi f₀ (m₀ + 4) (c₀ + 1).toNat (by omega)
  have e7₀ : gi P2₀ (gr P2₀ m₀ 8) c₀.toNat = gi M (m₀ + 4) c₀.toNat := by rw [a8]; exact e5₀
  have e8 : ∀ v₀, gi (si P2₀ (gr P2₀ m₀ 8) c₀.toNat v₀) (gr P2₀ m₀ 8) (c₀ + 1).toNat = gi M (m₀ + 4) (c₀ + 1).toNat := fun v₀ => by rw [a8, gi_si, if_neg (by omega)]; exact e6₀
  have e9₀ := e8 (gi M (m₀ + 4) c₀.toNat + x₀)
  rw [a8] at e9₀
  (repeat' (((conv => whnf); first | assumption | refine And.intro (by first | assumption | omega | (simp only [true_and, a8, b8, c8₀, gr_si, kd_si, ln_si]; first | done | assumption | omega)) ?_ | (refine And.intro (fun _ => ?_) (fun _ => ?_) <;> first | (exfalso; omega) | skip) | intro _ | fail)))
  all_goals ((conv => whnf); simp only [gr_si, a8, e5₀, e9₀])
  (repeat' (((conv => whnf); first | assumption | refine And.intro (by first | assumption | omega | (simp only [true_and, a8, b8, c8₀, gr_si, kd_si, ln_si]; first | done | assumption | omega)) ?_ | (refine And.intro (fun _ => ?_) (fun _ => ?_) <;> first | (exfalso; omega) | skip) | intro _ | fail)))
  all_goals ((conv => whnf); simp only [gr_si, a8])
  refine And.intro ?_ ⟨P2₀, kk, rfl⟩
  rw [gi_si, if_neg (by omega), gi_si, if_pos ⟨rfl, rfl⟩]

set_option maxRecDepth 100000 in
theorem cX6_even1 {D : mg_D} {l : Launch} (hl : l.stackTraces = false) {M : mg_M} {m₀ : Nat} {c₀ x₀ : Int} (st₀ : mm_st M m₀) (rc : mm_rc M m₀) (h₀ : ¬ ((0 ≤ c₀ ∧ c₀ < gi M m₀ 2) ∧ (0 ≤ x₀ ∧ x₀ < gi M m₀ 2))) : mg_Mt D l 198 [.inr (.inl m₀), .inl c₀, .inl x₀] M (fun v₀ N => v₀ = some (.inl 0) ∧ N = si M m₀ 0 1) mg_no := by
  refine mg_of2 hl ok_X6_even al_X6_even rfl (fun K hK₀ => ?_)
  have k7₀ := st₀.1
  have rc' := rc
  unfold mm_rc at rc'
  refine hK₀ _ _ _ _ _ ?_
  (repeat' (((conv => whnf); first | assumption | refine And.intro (by first | assumption | omega | (simp only [true_and]; first | done | assumption | omega)) ?_ | (refine And.intro (fun _ => ?_) (fun _ => ?_) <;> first | (exfalso; omega) | skip) | intro _ | fail)))
  all_goals (try ((conv => whnf); (refine Exists.intro _ (Exists.intro _ (And.intro (cX6_isCol hl k7₀ rc) (And.intro ?_ (fun _ _ h₀ => h₀.elim)))); rintro _ _ ⟨rfl, e₀⟩; have e2₀ := e₀.symm; clear e₀; subst e2₀); (repeat' (((conv => whnf); first | assumption | refine And.intro (by first | assumption | omega | (simp only [true_and]; first | done | assumption | omega)) ?_ | (refine And.intro (fun _ => ?_) (fun _ => ?_) <;> first | (exfalso; omega) | skip) | intro _ | fail)))))
  all_goals (try ((conv => whnf); (refine Exists.intro _ (Exists.intro _ (And.intro (cX6_isCol hl k7₀ rc) (And.intro ?_ (fun _ _ h₀ => h₀.elim)))); rintro _ _ ⟨rfl, e₀⟩; have e2₀ := e₀.symm; clear e₀; subst e2₀); (repeat' (((conv => whnf); first | assumption | refine And.intro (by first | assumption | omega | (simp only [true_and]; first | done | assumption | omega)) ?_ | (refine And.intro (fun _ => ?_) (fun _ => ?_) <;> first | (exfalso; omega) | skip) | intro _ | fail)))))
  all_goals (try ((conv => whnf); (refine Exists.intro _ (Exists.intro _ (And.intro (cX6_fails hl k7₀) (And.intro ?_ (fun _ _ h₀ => h₀.elim)))); rintro _ _ ⟨rfl, e₀⟩; have e2₀ := e₀.symm; clear e₀; subst e2₀); (repeat' (((conv => whnf); first | assumption | refine And.intro (by first | assumption | omega | (simp only [true_and]; first | done | assumption | omega)) ?_ | (refine And.intro (fun _ => ?_) (fun _ => ?_) <;> first | (exfalso; omega) | skip) | intro _ | fail)))))
  all_goals ((conv => whnf) <;> first | rfl | exact And.intro rfl rfl)
set_option maxRecDepth 100000 in
theorem cX6_even2 {D : mg_D} {l : Launch} (hl : l.stackTraces = false) {M : mg_M} {m₀ : Nat} {c₀ x₀ : Int} (st₀ : mm_st M m₀) (rc : mm_rc M m₀) (h₀ : (0 ≤ c₀ ∧ c₀ < gi M m₀ 2) ∧ (0 ≤ x₀ ∧ x₀ < gi M m₀ 2)) (h2 : x₀ ≤ c₀) : mg_Mt D l 198 [.inr (.inl m₀), .inl c₀, .inl x₀] M (fun v₀ N => v₀ = some (.inl 0) ∧ N = si M m₀ 0 2) mg_no := by
  refine mg_of2 hl ok_X6_even al_X6_even rfl (fun K hK₀ => ?_)
  have k7₀ := st₀.1
  have rc' := rc
  unfold mm_rc at rc'
  refine hK₀ _ _ _ _ _ ?_
  (repeat' (((conv => whnf); first | assumption | refine And.intro (by first | assumption | omega | (simp only [true_and]; first | done | assumption | omega)) ?_ | (refine And.intro (fun _ => ?_) (fun _ => ?_) <;> first | (exfalso; omega) | skip) | intro _ | fail)))
  all_goals (try ((conv => whnf); (refine Exists.intro _ (Exists.intro _ (And.intro (cX6_isCol hl k7₀ rc) (And.intro ?_ (fun _ _ h₀ => h₀.elim)))); rintro _ _ ⟨rfl, e₀⟩; have e2₀ := e₀.symm; clear e₀; subst e2₀); (repeat' (((conv => whnf); first | assumption | refine And.intro (by first | assumption | omega | (simp only [true_and]; first | done | assumption | omega)) ?_ | (refine And.intro (fun _ => ?_) (fun _ => ?_) <;> first | (exfalso; omega) | skip) | intro _ | fail)))))
  all_goals (try ((conv => whnf); (refine Exists.intro _ (Exists.intro _ (And.intro (cX6_isCol hl k7₀ rc) (And.intro ?_ (fun _ _ h₀ => h₀.elim)))); rintro _ _ ⟨rfl, e₀⟩; have e2₀ := e₀.symm; clear e₀; subst e2₀); (repeat' (((conv => whnf); first | assumption | refine And.intro (by first | assumption | omega | (simp only [true_and]; first | done | assumption | omega)) ?_ | (refine And.intro (fun _ => ?_) (fun _ => ?_) <;> first | (exfalso; omega) | skip) | intro _ | fail)))))
  all_goals (try ((conv => whnf); (refine Exists.intro _ (Exists.intro _ (And.intro (cX6_fails hl k7₀) (And.intro ?_ (fun _ _ h₀ => h₀.elim)))); rintro _ _ ⟨rfl, e₀⟩; have e2₀ := e₀.symm; clear e₀; subst e2₀); (repeat' (((conv => whnf); first | assumption | refine And.intro (by first | assumption | omega | (simp only [true_and]; first | done | assumption | omega)) ?_ | (refine And.intro (fun _ => ?_) (fun _ => ?_) <;> first | (exfalso; omega) | skip) | intro _ | fail)))))
  all_goals ((conv => whnf) <;> first | rfl | exact And.intro rfl rfl)
/-- the sum₀ of widths₀ from a₀ column on -/
def mh_wsum (M : mg_M) (a₀ : Nat) (c₀ : Int) (n₀ : Int) : Int := mh_sum (fun k₀ => gi M a₀ (c₀.toNat + k₀)) n₀.toNat
set_option maxRecDepth 100000 in
theorem cX6_even0 {D : mg_D} {l : Launch} (hl : l.stackTraces = false) {M : mg_M} {m₀ : Nat} {c₀ x₀ : Int} (st₀ : mm_st M m₀) (rc : mm_rc M m₀) (h₀ : 0 ≤ c₀ ∧ c₀ < x₀ ∧ x₀ < gi M m₀ 2) (hw : ∀ k₀ : Nat, (k₀ : Int) < gi M m₀ 2 → 10 ≤ gi M (m₀ + 4) k₀ ∧ gi M (m₀ + 4) k₀ ≤ 200) : mg_Mt D l 198 [.inr (.inl m₀), .inl c₀, .inl x₀] M (fun v₀ N => v₀ = some (.inl (gi N (m₀ + 4) c₀.toNat)) ∧ ∃ P, mm_kk M P m₀ ∧ mm_f (fun b₀ _ => b₀ = m₀ + 4) P N ∧ ∀ k₀ : Nat, gi N (m₀ + 4) k₀ = if c₀ ≤ k₀ ∧ (k₀ : Int) ≤ x₀ then mh_wsum M (m₀ + 4) c₀ (x₀ - c₀ + 1) / (x₀ - c₀ + 1) + (if k₀ - c₀ < mh_wsum M (m₀ + 4) c₀ (x₀ - c₀ + 1) % (x₀ - c₀ + 1) then 1 else 0) else gi M (m₀ + 4) k₀) mg_no := by
  refine mg_of2 hl ok_X6_even al_X6_even rfl (fun K hK₀ => ?_)
  have k7₀ := st₀.1
  have rc' := rc
  unfold mm_rc at rc'
  obtain ⟨a8, b8, c8₀⟩ := st₀.2.1.2.2.2.1
  have B₀ := fun n₀ (hn : n₀ ≤ (x₀ - c₀ + 1).toNat) => mh_suml (fun k₀ => gi M (m₀ + 4) (c₀.toNat + k₀)) 200 n₀ (fun i₀ hi => by have := hw (c₀.toNat + i₀) (by omega); (try dsimp only); omega)
  generalize hs : mh_wsum M (m₀ + 4) c₀ (x₀ - c₀ + 1) = s₀
  have hs2 : 0 ≤ s₀ ∧ s₀ ≤ 200 * (x₀ - c₀ + 1) := by
    rw [← hs]
    have := B₀ (x₀ - c₀ + 1).toNat (by omega)
    unfold mh_wsum
    omega
  have F₀ : ∀ P, mm_kk M P m₀ → K 55 [(0, Sum.inr (Sum.inl m₀)), (1, Sum.inl c₀), (2, Sum.inl x₀), (3, Sum.inl (x₀ - c₀ + 1)), (4, Sum.inl 0), (5, Sum.inl c₀)] [] P 0 := by
    intro P kk
    have f₀ := kk.1
    have stP := mm_f_st f₀ st₀
    have e0₀ := fun k₀ => mm_f_gi f₀ (m₀ + 4) k₀ (by omega)
    have G2 : K 82 [(0, Sum.inr (Sum.inl m₀)), (1, Sum.inl c₀), (2, Sum.inl x₀), (3, Sum.inl (x₀ - c₀ + 1)), (4, Sum.inl s₀), (5, Sum.inl c₀)] [] P 0 := by
      refine mh_for (P := fun j₀ N => mm_f (fun b₀ _ => b₀ = m₀ + 4) P N ∧ ∀ k₀ : Nat, gi N (m₀ + 4) k₀ = if c₀ ≤ k₀ ∧ (k₀ : Int) < j₀ then s₀ / (x₀ - c₀ + 1) + (if k₀ - c₀ < s₀ % (x₀ - c₀ + 1) then 1 else 0) else gi M (m₀ + 4) k₀) (G := fun j₀ N => K 82 [(0, Sum.inr (Sum.inl m₀)), (1, Sum.inl c₀), (2, Sum.inl x₀), (3, Sum.inl (x₀ - c₀ + 1)), (4, Sum.inl s₀), (5, Sum.inl j₀)] [] N 0) (lo := c₀) (hi := x₀ + 1) (by omega) ?_ ?_ P ⟨mm_f_rfl, fun k₀ => by rw [if_neg (by omega)]; exact e0₀ k₀⟩
      · rintro N ⟨g₀, v₀⟩
        have stN₀ := mm_f_st g₀ stP
        have k7N := stN₀.1
        obtain ⟨a8, b8, c8₀⟩ := stN₀.2.1.2.2.2.1
        have Q₀ : ∃ P, mm_kk M P m₀ ∧ mm_f (fun b₀ _ => b₀ = m₀ + 4) P N ∧ ∀ k₀ : Nat, gi N (m₀ + 4) k₀ = if c₀ ≤ k₀ ∧ (k₀ : Int) ≤ x₀ then s₀ / (x₀ - c₀ + 1) + (if k₀ - c₀ < s₀ % (x₀ - c₀ + 1) then 1 else 0) else gi M (m₀ + 4) k₀ := by
          refine ⟨P, kk, g₀, fun k₀ => ?_⟩
          rw [v₀ k₀]
          have e₀ : (c₀ ≤ (k₀ : Int) ∧ (k₀ : Int) < x₀ + 1) ↔ (c₀ ≤ k₀ ∧ (k₀ : Int) ≤ x₀) := by omega
          simp only [e₀]
        refine hK₀ _ _ _ _ _ ?_
        (repeat' (((conv => whnf); first | assumption | refine And.intro (by first | assumption | omega | (simp only [true_and, a8, b8, c8₀]; first | done | assumption | omega)) ?_ | (refine And.intro (fun _ => ?_) (fun _ => ?_) <;> first | (exfalso; omega) | skip) | intro _ | fail)))
        all_goals ((conv => whnf); first | (simp only [hs]; exact Q₀) | (rw [a8]; exact And.intro rfl (by simp only [hs]; exact Q₀)))
      · rintro j₀ N h1 h2 ⟨g₀, v₀⟩ nex
        have stN₀ := mm_f_st g₀ stP
        have k7N := stN₀.1
        obtain ⟨a8, b8, c8₀⟩ := stN₀.2.1.2.2.2.1
        have d1₀ : 0 ≤ s₀ / (x₀ - c₀ + 1) ∧ s₀ / (x₀ - c₀ + 1) ≤ s₀ := ⟨Int.ediv_nonneg hs2.1 (by omega), Int.ediv_le_self _ hs2.1⟩
        have nex2 : ∀ y₀, y₀ = (if j₀ - c₀ < s₀ % (x₀ - c₀ + 1) then 1 else 0) → K 82 [(0, Sum.inr (Sum.inl m₀)), (1, Sum.inl c₀), (2, Sum.inl x₀), (3, Sum.inl (x₀ - c₀ + 1)), (4, Sum.inl s₀), (5, Sum.inl (j₀ + 1))] [] (si N (m₀ + 4) j₀.toNat (s₀ / (x₀ - c₀ + 1) + y₀)) 0 := by
          intro y₀ hy
          refine nex _ ⟨mm_f_si g₀ rfl, fun k₀ => ?_⟩
          rw [gi_si]
          by_cases e₀ : k₀ = j₀.toNat
          · have e3₀ : (k₀ : Int) = j₀ := by omega
            rw [if_pos ⟨rfl, e₀⟩, if_pos (by omega), hy, e3₀]
          · rw [if_neg (by omega), v₀ k₀]
            have e₀ : (c₀ ≤ (k₀ : Int) ∧ (k₀ : Int) < j₀ + 1) ↔ (c₀ ≤ k₀ ∧ (k₀ : Int) < j₀) := by omega
            simp only [e₀]
        clear nex v₀
        refine hK₀ _ _ _ _ _ ?_
        (repeat' (((conv => whnf); first | assumption | refine And.intro (by first | assumption | omega | (simp only [true_and, a8, b8, c8₀]; first | done | assumption | omega)) ?_ | (refine And.intro (fun _ => ?_) (fun _ => ?_) <;> first | (exfalso; omega) | skip) | intro _ | fail)))
        all_goals ((conv => whnf); rw [a8]; exact nex2 _ (by first | (rw [if_pos (by omega)]) | (rw [if_neg (by omega)])))
    refine mh_for (P := fun j₀ y₀ => y₀ = mh_sum (fun k₀ => gi M (m₀ + 4) (c₀.toNat + k₀)) (j₀ - c₀).toNat) (G := fun j₀ y₀ => K 55 [(0, Sum.inr (Sum.inl m₀)), (1, Sum.inl c₀), (2, Sum.inl x₀), (3, Sum.inl (x₀ - c₀ + 1)), (4, Sum.inl y₀), (5, Sum.inl j₀)] [] P 0) (lo := c₀) (hi := x₀ + 1) (by omega) ?_ ?_ 0 (by rw [show (c₀ - c₀).toNat = 0 by omega]; rfl)
    · rintro y₀ hy
      have ey : y₀ = s₀ := by rw [hy, ← hs]; unfold mh_wsum; rw [show x₀ + 1 - c₀ = x₀ - c₀ + 1 by omega]
      subst ey
      have k7P := stP.1
      clear hy
      refine hK₀ _ _ _ _ _ ?_
      (repeat' (((conv => whnf); first | assumption | refine And.intro (by first | assumption | omega | (simp only [true_and, a8, b8, c8₀]; first | done | assumption | omega)) ?_ | (refine And.intro (fun _ => ?_) (fun _ => ?_) <;> first | (exfalso; omega) | skip) | intro _ | fail)))
    · rintro j₀ y₀ h1 h2 hy nex
      have k7P := stP.1
      obtain ⟨a8, b8, c8₀⟩ := stP.2.1.2.2.2.1
      have b₀ := B₀ (j₀ - c₀).toNat (by omega)
      rw [← hy] at b₀
      have e₀ := mh_sumI (g₀ := fun k₀ => gi M (m₀ + 4) (c₀.toNat + k₀)) (k₀ := j₀ - c₀) (by omega)
      rw [← hy] at e₀
      have e2₀ : c₀.toNat + (j₀ - c₀).toNat = j₀.toNat := by omega
      try dsimp only at e₀
      rw [e2₀, show j₀ - c₀ + 1 = j₀ + 1 - c₀ by omega] at e₀
      have w1₀ := hw j₀.toNat (by omega)
      have w2₀ := e0₀ j₀.toNat
      have w3₀ : gi P (gr P m₀ 8) j₀.toNat = gi M (m₀ + 4) j₀.toNat := by rw [a8]; exact w2₀
      have nex2 : ∀ z₀, z₀ = y₀ + gi M (m₀ + 4) j₀.toNat → K 55 [(0, Sum.inr (Sum.inl m₀)), (1, Sum.inl c₀), (2, Sum.inl x₀), (3, Sum.inl (x₀ - c₀ + 1)), (4, Sum.inl z₀), (5, Sum.inl (j₀ + 1))] [] P 0 := fun z₀ hz => nex z₀ (hz.trans e₀.symm)
      clear nex e₀ hy B₀
      refine hK₀ _ _ _ _ _ ?_
      (repeat' (((conv => whnf); first | assumption | refine And.intro (by first | assumption | omega | (simp only [true_and, a8, b8, c8₀]; first | done | assumption | omega)) ?_ | (refine And.intro (fun _ => ?_) (fun _ => ?_) <;> first | (exfalso; omega) | skip) | intro _ | fail)))
      all_goals ((conv => whnf); exact nex2 _ (by omega))
  refine hK₀ _ _ _ _ _ ?_
  (repeat' (((conv => whnf); first | assumption | refine And.intro (by first | assumption | omega | (simp only [true_and, a8, b8, c8₀]; first | done | assumption | omega)) ?_ | (refine And.intro (fun _ => ?_) (fun _ => ?_) <;> first | (exfalso; omega) | skip) | intro _ | fail)))
  all_goals (try ((conv => whnf); (refine Exists.intro _ (Exists.intro _ (And.intro (cX6_isCol hl k7₀ rc) (And.intro ?_ (fun _ _ h₀ => h₀.elim)))); rintro _ _ ⟨rfl, e₀⟩; have e2₀ := e₀.symm; clear e₀; subst e2₀); (repeat' (((conv => whnf); first | assumption | refine And.intro (by first | assumption | omega | (simp only [true_and, a8, b8, c8₀]; first | done | assumption | omega)) ?_ | (refine And.intro (fun _ => ?_) (fun _ => ?_) <;> first | (exfalso; omega) | skip) | intro _ | fail)))))
  all_goals (try ((conv => whnf); (refine Exists.intro _ (Exists.intro _ (And.intro (cX6_isCol hl k7₀ rc) (And.intro ?_ (fun _ _ h₀ => h₀.elim)))); rintro _ _ ⟨rfl, e₀⟩; have e2₀ := e₀.symm; clear e₀; subst e2₀); (repeat' (((conv => whnf); first | assumption | refine And.intro (by first | assumption | omega | (simp only [true_and, a8, b8, c8₀]; first | done | assumption | omega)) ?_ | (refine And.intro (fun _ => ?_) (fun _ => ?_) <;> first | (exfalso; omega) | skip) | intro _ | fail)))))
  all_goals (try ((conv => whnf); (refine Exists.intro _ (Exists.intro _ (And.intro (cX6_fails hl k7₀) (And.intro ?_ (fun _ _ h₀ => h₀.elim)))); rintro _ _ ⟨rfl, e₀⟩; have e2₀ := e₀.symm; clear e₀; subst e2₀); (repeat' (((conv => whnf); first | assumption | refine And.intro (by first | assumption | omega | (simp only [true_and, a8, b8, c8₀]; first | done | assumption | omega)) ?_ | (refine And.intro (fun _ => ?_) (fun _ => ?_) <;> first | (exfalso; omega) | skip) | intro _ | fail)))))
  (conv => whnf)
  refine Exists.intro _ (Exists.intro _ (And.intro (cX6_keeps0 hl st₀) (And.intro ?_ (fun _ _ h₀ => h₀.elim))))
  rintro _ P ⟨rfl, kk⟩
  have w₀ := F₀ P kk
  (repeat' (((conv => whnf); first | assumption | refine And.intro (by first | assumption | omega | (simp only [true_and, a8, b8, c8₀]; first | done | assumption | omega)) ?_ | (refine And.intro (fun _ => ?_) (fun _ => ?_) <;> first | (exfalso; omega) | skip) | intro _ | fail)))
