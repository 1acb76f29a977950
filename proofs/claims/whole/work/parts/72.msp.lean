/-- the squares set₀ aside are those of M -/
def mm_as (M N : mg_M) (m₀ : Nat) : Prop := gi N m₀ 1 = gi M m₀ 1 ∧ gi N m₀ 2 = gi M m₀ 2 ∧ ∀ k₀ : Int, 0 ≤ k₀ → k₀ < 120 → gi N (m₀ + 11) k₀.toNat = gi M (m₀ + 1) k₀.toNat
theorem mm_as_f {S : Nat → Nat → Prop} {M P N : mg_M} {m₀ : Nat} (f₀ : mm_f S P N) (n1₀ : ¬ S m₀ 1) (n2₀ : ¬ S m₀ 2) (n3₀ : ∀ k₀, ¬ S (m₀ + 11) k₀) (h₀ : mm_as M P m₀) : mm_as M N m₀ := by
  obtain ⟨h1, h2, h3⟩ := h₀
  exact ⟨(mm_f_gi f₀ m₀ 1 n1₀).trans h1, (mm_f_gi f₀ m₀ 2 n2₀).trans h2, fun k₀ k0₀ k1₀ => (mm_f_gi f₀ (m₀ + 11) _ (n3₀ _)).trans (h3 k₀ k0₀ k1₀)⟩
/-- the first square of a₀ number's cell₀, row₀ by row₀ -/
theorem mm_first {M : mg_M} {m₀ : Nat} {i₀ T L₀ H₀ W₀ k₀ : Int} (rc : mm_rc M m₀) (h₀ : mm_rect M m₀ i₀ T L₀ H₀ W₀) (hk : 0 ≤ k₀ ∧ k₀ < 10 * T + L₀) : gi M m₀ 1 ≤ k₀ / 10 ∨ gi M m₀ 2 ≤ k₀ % 10 ∨ gi M (m₀ + 1) k₀.toNat ≠ i₀ := by
  unfold mm_rc at rc
  obtain ⟨h1, h2, h3⟩ := h₀
  refine Classical.byContradiction (fun q₀ => ?_)
  have q1₀ : k₀ / 10 < gi M m₀ 1 ∧ k₀ % 10 < gi M m₀ 2 := by omega
  have q2₀ : gi M (m₀ + 1) k₀.toNat = i₀ := Classical.byContradiction (fun z₀ => q₀ (Or.inr (Or.inr z₀)))
  have e₀ : mi M (m₀ + 1) (k₀ / 10) (k₀ % 10) = i₀ := by
    unfold mi
    rw [show 10 * (k₀ / 10) + k₀ % 10 = k₀ by omega]
    exact q2₀
  have := (h3 (k₀ / 10) (k₀ % 10) (by omega) (by omega)).1 e₀
  omega
theorem mm_first1 {M : mg_M} {m₀ : Nat} {i₀ T L₀ H₀ W₀ : Int} (h₀ : mm_rect M m₀ i₀ T L₀ H₀ W₀) : gi M (m₀ + 1) (10 * T + L₀).toNat = i₀ := by
  obtain ⟨h1, h2, h3⟩ := h₀
  exact (h3 T L₀ (by omega) (by omega)).2 (by omega)
set_option maxRecDepth 100000 in
theorem cX6_beginOfA {D : mg_D} {l : Launch} (hl : l.stackTraces = false) {M N : mg_M} {m₀ : Nat} {i₀ k₀ r₀ c₀ r1₀ c1₀ : Int} (stN₀ : mm_st N m₀) (a₀ : mm_as M N m₀) (hr : (0 ≤ r₀ ∧ r₀ < 12) ∧ (0 ≤ c₀ ∧ c₀ < 10)) (hr1 : (0 ≤ r1₀ ∧ r1₀ < 12) ∧ (0 ≤ c1₀ ∧ c1₀ < 10)) (h₀ : mi M (m₀ + 1) r₀ c₀ = i₀) : mg_Mt D l 177 [.inr (.inl m₀), .inl i₀, .inl k₀, .inl r₀, .inl c₀, .inl r1₀, .inl c1₀] N (fun v₀ P => v₀ = some (.inl (10 * (if k₀ = 99 then r1₀ else r₀) + (if k₀ = 114 then c1₀ else c₀))) ∧ P = N) mg_no := by
  refine mg_of2 hl ok_X6_beginOf al_X6_beginOf rfl (fun K hK₀ => ?_)
  have k7₀ := stN₀.1
  obtain ⟨a19, b19, c19₀⟩ := stN₀.2.2.2.1
  have e₀ : gi N (gr N m₀ 19) (10 * r₀ + c₀).toNat = i₀ := by rw [a19, a₀.2.2 _ (by omega) (by omega)]; exact h₀
  clear a₀ h₀
  refine hK₀ _ _ _ _ _ ?_
  (repeat' (((conv => whnf); first | (show (_ : Option mg_V) = _ ∧ _; assumption) | (show K _ _ _ _ _; assumption) | refine And.intro (by first | assumption | omega | (simp only [true_and, a19, b19, c19₀]; first | done | assumption | omega)) ?_ | (refine And.intro (fun _ => ?_) (fun _ => ?_) <;> first | (exfalso; omega) | skip) | intro _ | fail)))
  all_goals ((conv => whnf); refine And.intro ?_ rfl; congr 2; (repeat' split) <;> omega)
set_option maxRecDepth 100000 in
theorem cX6_beginOfB {D : mg_D} {l : Launch} (hl : l.stackTraces = false) {M N : mg_M} {m₀ : Nat} {i₀ k₀ r₀ c₀ r1₀ c1₀ T L₀ H₀ W₀ : Int} (stN₀ : mm_st N m₀) (rc : mm_rc M m₀) (a₀ : mm_as M N m₀) (hr : (0 ≤ r₀ ∧ r₀ < 12) ∧ (0 ≤ c₀ ∧ c₀ < 10)) (h₀ : mi M (m₀ + 1) r₀ c₀ ≠ i₀) (hR : mm_rect M m₀ (mi M (m₀ + 1) r₀ c₀) T L₀ H₀ W₀) : mg_Mt D l 177 [.inr (.inl m₀), .inl i₀, .inl k₀, .inl r₀, .inl c₀, .inl r1₀, .inl c1₀] N (fun v₀ P => v₀ = some (.inl (10 * T + L₀)) ∧ P = N) mg_no := by
  refine mg_of2 hl ok_X6_beginOf al_X6_beginOf rfl (fun K hK₀ => ?_)
  have k7₀ := stN₀.1
  obtain ⟨a19, b19, c19₀⟩ := stN₀.2.2.2.1
  have rc' := rc
  unfold mm_rc at rc'
  have b₀ := hR.1
  have b2 := hR.2.1
  obtain ⟨q1₀, q2₀, q3₀⟩ := a₀
  have F₀ : K 53 [(0, Sum.inr (Sum.inl m₀)), (7, Sum.inl (mi M (m₀ + 1) r₀ c₀)), (8, Sum.inl 0)] [] N 0 := by
    refine mh_for (P := fun _ (_ : Unit) => True) (G := fun j₀ _ => K 53 [(0, Sum.inr (Sum.inl m₀)), (7, Sum.inl (mi M (m₀ + 1) r₀ c₀)), (8, Sum.inl j₀)] [] N 0) (lo := 0) (hi := 10 * T + L₀) (by omega) ?_ ?_ () trivial
    · intro _ _
      have e₀ : gi N (gr N m₀ 19) (10 * T + L₀).toNat = mi M (m₀ + 1) r₀ c₀ := by rw [a19, q3₀ _ (by omega) (by omega)]; exact mm_first1 hR
      clear hR q3₀ h₀
      refine hK₀ _ _ _ _ _ ?_
      (repeat' (((conv => whnf); first | (show (_ : Option mg_V) = _ ∧ _; assumption) | (show K _ _ _ _ _; assumption) | refine And.intro (by first | assumption | omega | (simp only [true_and, a19, b19, c19₀]; first | done | assumption | omega)) ?_ | (refine And.intro (fun _ => ?_) (fun _ => ?_) <;> first | (exfalso; omega) | skip) | intro _ | fail)))
      all_goals ((conv => whnf) <;> first | rfl | exact And.intro rfl rfl | (exfalso; omega))
    · intro j₀ _ j0 j1 _ nex
      have g₀ := nex () trivial
      have fi := mm_first rc hR ⟨j0, j1⟩
      have e₀ : gi N (gr N m₀ 19) j₀.toNat = gi M (m₀ + 1) j₀.toNat := by rw [a19, q3₀ _ (by omega) (by omega)]
      clear hR q3₀ h₀ nex
      refine hK₀ _ _ _ _ _ ?_
      (repeat' (((conv => whnf); first | (show (_ : Option mg_V) = _ ∧ _; assumption) | (show K _ _ _ _ _; assumption) | refine And.intro (by first | assumption | omega | (simp only [true_and, a19, b19, c19₀]; first | done | assumption | omega)) ?_ | (refine And.intro (fun _ => ?_) (fun _ => ?_) <;> first | (exfalso; omega) | skip) | intro _ | fail)))
      all_goals ((conv => whnf); first | exact g₀ | (exfalso; omega))
  have e₀ : gi N (gr N m₀ 19) (10 * r₀ + c₀).toNat = mi M (m₀ + 1) r₀ c₀ := by rw [a19, q3₀ _ (by omega) (by omega)]; rfl
  rw [← e₀] at F₀ h₀
  clear hR q3₀
  refine hK₀ _ _ _ _ _ ?_
  (repeat' (((conv => whnf); first | (show (_ : Option mg_V) = _ ∧ _; assumption) | (show K _ _ _ _ _; assumption) | refine And.intro (by first | assumption | omega | (simp only [true_and, a19, b19, c19₀]; first | done | assumption | omega)) ?_ | (refine And.intro (fun _ => ?_) (fun _ => ?_) <;> first | (exfalso; omega) | skip) | intro _ | fail)))
  all_goals (try ((conv => whnf); first | exact F₀ | (exfalso; omega)))
def mi_sp (M : mg_M) (m₀ : Nat) (T L₀ : Int → Int → Int) (i₀ k₀ r1₀ c1₀ r₀ c₀ : Int) : Int := if mi M (m₀ + 1) r₀ c₀ = i₀ then 10 * (if k₀ = 99 then r1₀ else r₀) + (if k₀ = 114 then c1₀ else c₀) else 10 * T r₀ c₀ + L₀ r₀ c₀
abbrev mm_rts (M : mg_M) (m₀ : Nat) (T L₀ H₀ W₀ : Int → Int → Int) : Prop := ∀ r₀ c₀, mh_rg (gi M m₀ 1) (gi M m₀ 2) r₀ c₀ → mm_rect M m₀ (mi M (m₀ + 1) r₀ c₀) (T r₀ c₀) (L₀ r₀ c₀) (H₀ r₀ c₀) (W₀ r₀ c₀)
set_option maxRecDepth 100000 in
theorem cX6_placed {D : mg_D} {l : Launch} (hl : l.stackTraces = false) {M N : mg_M} {m₀ : Nat} {i₀ k₀ r1₀ c1₀ : Int} {T L₀ H₀ W₀ : Int → Int → Int} (stN₀ : mm_st N m₀) (rc : mm_rc M m₀) (a₀ : mm_as M N m₀) (hr1 : (0 ≤ r1₀ ∧ r1₀ < 12) ∧ (0 ≤ c1₀ ∧ c1₀ < 10)) (hR : mm_rts M m₀ T L₀ H₀ W₀) : mg_Mt D l 178 [.inr (.inl m₀), .inl i₀, .inl k₀, .inl r1₀, .inl c1₀] N (fun v₀ P => v₀ = none ∧ mm_f (fun b₀ _ => b₀ = m₀ + 1) N P ∧ ∀ r₀ c₀, mh_rg (gi M m₀ 1) (gi M m₀ 2) r₀ c₀ → mi P (m₀ + 1) r₀ c₀ = mi_sp M m₀ T L₀ i₀ k₀ r1₀ c1₀ r₀ c₀) mg_no := by
  refine mg_of2 hl ok_X6_placed al_X6_placed rfl (fun K hK₀ => ?_)
  have k7₀ := stN₀.1
  have rc' := rc
  unfold mm_rc at rc'
  obtain ⟨a5, b5, c5₀⟩ := stN₀.2.1.1
  have F₀ : K 3 [(0, Sum.inr (Sum.inl m₀)), (1, Sum.inl i₀), (2, Sum.inl k₀), (3, Sum.inl r1₀), (4, Sum.inl c1₀), (5, Sum.inl 0)] [] N 0 := by
    refine mh_for2d (P := fun r₀ c₀ Z₀ => mm_f (fun b₀ _ => b₀ = m₀ + 1) N Z₀ ∧ ∀ p₀ q₀, mh_rg (gi M m₀ 1) (gi M m₀ 2) p₀ q₀ → (p₀ < r₀ ∨ (p₀ = r₀ ∧ q₀ < c₀)) → mi Z₀ (m₀ + 1) p₀ q₀ = mi_sp M m₀ T L₀ i₀ k₀ r1₀ c1₀ p₀ q₀) (G1 := fun r₀ Z₀ => K 3 [(0, Sum.inr (Sum.inl m₀)), (1, Sum.inl i₀), (2, Sum.inl k₀), (3, Sum.inl r1₀), (4, Sum.inl c1₀), (5, Sum.inl r₀)] [] Z₀ 0) (G2 := fun r₀ c₀ Z₀ => K 15 [(0, Sum.inr (Sum.inl m₀)), (1, Sum.inl i₀), (2, Sum.inl k₀), (3, Sum.inl r1₀), (4, Sum.inl c1₀), (5, Sum.inl r₀), (6, Sum.inl c₀)] [] Z₀ 0) (R := gi M m₀ 1) (C := gi M m₀ 2) (r0 := 0) (c0 := 0) (by omega) (by omega) ?_ ?_ ?_ ?_ N ⟨mm_f_rfl, fun p₀ q₀ h1 h2 => by omega⟩
    · rintro Z₀ ⟨f₀, v₀⟩
      have k7Z := (mm_f_st f₀ stN₀).1
      have t1₀ := (mm_f_gi f₀ m₀ 1 (by omega)).trans a₀.1
      have Q₀ : (none : Option mg_V) = none ∧ mm_f (fun b₀ _ => b₀ = m₀ + 1) N Z₀ ∧ ∀ r₀ c₀, mh_rg (gi M m₀ 1) (gi M m₀ 2) r₀ c₀ → mi Z₀ (m₀ + 1) r₀ c₀ = mi_sp M m₀ T L₀ i₀ k₀ r1₀ c1₀ r₀ c₀ := ⟨rfl, f₀, fun r₀ c₀ h₀ => v₀ r₀ c₀ h₀ (by omega)⟩
      clear v₀ hR a₀
      refine hK₀ _ _ _ _ _ ?_
      (repeat' (((conv => whnf); first | (show (_ : Option mg_V) = _ ∧ _; assumption) | (show K _ _ _ _ _; assumption) | refine And.intro (by first | assumption | omega | (simp only [true_and, a5, b5, c5₀]; first | done | assumption | omega)) ?_ | (refine And.intro (fun _ => ?_) (fun _ => ?_) <;> first | (exfalso; omega) | skip) | intro _ | fail)))
    · rintro r₀ Z₀ h1 h2 ⟨f₀, v₀⟩ g₀
      have k7Z := (mm_f_st f₀ stN₀).1
      have t1₀ := (mm_f_gi f₀ m₀ 1 (by omega)).trans a₀.1
      clear v₀ hR a₀
      refine hK₀ _ _ _ _ _ ?_
      (repeat' (((conv => whnf); first | (show (_ : Option mg_V) = _ ∧ _; assumption) | (show K _ _ _ _ _; assumption) | refine And.intro (by first | assumption | omega | (simp only [true_and, a5, b5, c5₀]; first | done | assumption | omega)) ?_ | (refine And.intro (fun _ => ?_) (fun _ => ?_) <;> first | (exfalso; omega) | skip) | intro _ | fail)))
    · rintro r₀ Z₀ h1 h2 ⟨f₀, v₀⟩
      have k7Z := (mm_f_st f₀ stN₀).1
      have t2₀ := (mm_f_gi f₀ m₀ 2 (by omega)).trans a₀.2.1
      refine ⟨⟨f₀, fun p₀ q₀ hp hq => v₀ p₀ q₀ hp (by omega)⟩, fun g₀ => ?_⟩
      clear v₀ hR a₀
      refine hK₀ _ _ _ _ _ ?_
      (repeat' (((conv => whnf); first | (show (_ : Option mg_V) = _ ∧ _; assumption) | (show K _ _ _ _ _; assumption) | refine And.intro (by first | assumption | omega | (simp only [true_and, a5, b5, c5₀]; first | done | assumption | omega)) ?_ | (refine And.intro (fun _ => ?_) (fun _ => ?_) <;> first | (exfalso; omega) | skip) | intro _ | fail)))
    · rintro r₀ c₀ Z₀ h1 h2 h3 h4 ⟨f₀, v₀⟩ nex
      have stZ₀ := mm_f_st f₀ stN₀
      have k7Z := stZ₀.1
      have t2₀ := (mm_f_gi f₀ m₀ 2 (by omega)).trans a₀.2.1
      obtain ⟨a5, b5, c5₀⟩ := stZ₀.2.1.1
      have aZ := mm_as_f f₀ (by omega) (by omega) (fun k₀ => by omega) a₀
      have rr := hR r₀ c₀ ⟨⟨h1, h2⟩, h3, h4⟩
      have w₀ := nex (si Z₀ (m₀ + 1) (10 * r₀ + c₀).toNat (mi_sp M m₀ T L₀ i₀ k₀ r1₀ c1₀ r₀ c₀)) ⟨mm_f_si f₀ rfl, fun p₀ q₀ hp hq => by
        unfold mi
        rw [gi_si]
        by_cases e₀ : p₀ = r₀ ∧ q₀ = c₀
        · rw [e₀.1, e₀.2, if_pos ⟨rfl, rfl⟩]
        · rw [if_neg (by omega)]
          exact v₀ p₀ q₀ hp (by omega)⟩
      clear nex v₀
      by_cases e₀ : mi M (m₀ + 1) r₀ c₀ = i₀
      · have g₀ := cX6_beginOfA (D := D) (k₀ := k₀) hl stZ₀ aZ (by omega) hr1 e₀
        have e2₀ : mi_sp M m₀ T L₀ i₀ k₀ r1₀ c1₀ r₀ c₀ = 10 * (if k₀ = 99 then r1₀ else r₀) + (if k₀ = 114 then c1₀ else c₀) := by unfold mi_sp; rw [if_pos e₀]
        rw [e2₀] at w₀
        clear hR a₀ aZ
        refine hK₀ _ _ _ _ _ ?_
        (repeat' (((conv => whnf); first | (show (_ : Option mg_V) = _ ∧ _; assumption) | (show K _ _ _ _ _; assumption) | refine And.intro (by first | assumption | omega | (simp only [true_and, a5, b5, c5₀]; first | done | assumption | omega)) ?_ | (refine And.intro (fun _ => ?_) (fun _ => ?_) <;> first | (exfalso; omega) | skip) | intro _ | fail)))
        all_goals (try ((conv => whnf); (refine Exists.intro _ (Exists.intro _ (And.intro (g₀) (And.intro ?_ (fun _ _ h₀ => h₀.elim)))); rintro _ _ ⟨rfl, e₀⟩; have e2₀ := e₀.symm; clear e₀; subst e2₀); (repeat' (((conv => whnf); first | (show (_ : Option mg_V) = _ ∧ _; assumption) | (show K _ _ _ _ _; assumption) | refine And.intro (by first | assumption | omega | (simp only [true_and, a5, b5, c5₀]; first | done | assumption | omega)) ?_ | (refine And.intro (fun _ => ?_) (fun _ => ?_) <;> first | (exfalso; omega) | skip) | intro _ | fail)))))
        all_goals ((conv => whnf); rw [a5]; exact w₀)
      · have g₀ := cX6_beginOfB (D := D) (k₀ := k₀) (r1₀ := r1₀) (c1₀ := c1₀) hl stZ₀ rc aZ (by omega) e₀ rr
        have e2₀ : mi_sp M m₀ T L₀ i₀ k₀ r1₀ c1₀ r₀ c₀ = 10 * T r₀ c₀ + L₀ r₀ c₀ := by unfold mi_sp; rw [if_neg e₀]
        have e3₀ := rr.1
        have e4₀ := rr.2.1
        rw [e2₀] at w₀
        clear hR a₀ aZ rr
        refine hK₀ _ _ _ _ _ ?_
        (repeat' (((conv => whnf); first | (show (_ : Option mg_V) = _ ∧ _; assumption) | (show K _ _ _ _ _; assumption) | refine And.intro (by first | assumption | omega | (simp only [true_and, a5, b5, c5₀]; first | done | assumption | omega)) ?_ | (refine And.intro (fun _ => ?_) (fun _ => ?_) <;> first | (exfalso; omega) | skip) | intro _ | fail)))
        all_goals (try ((conv => whnf); (refine Exists.intro _ (Exists.intro _ (And.intro (g₀) (And.intro ?_ (fun _ _ h₀ => h₀.elim)))); rintro _ _ ⟨rfl, e₀⟩; have e2₀ := e₀.symm; clear e₀; subst e2₀); (repeat' (((conv => whnf); first | (show (_ : Option mg_V) = _ ∧ _; assumption) | (show K _ _ _ _ _; assumption) | refine And.intro (by first | assumption | omega | (simp only [true_and, a5, b5, c5₀]; first | done | assumption | omega)) ?_ | (refine And.intro (fun _ => ?_) (fun _ => ?_) <;> first | (exfalso; omega) | skip) | intro _ | fail)))))
        all_goals ((conv => whnf); rw [a5]; exact w₀)
  refine hK₀ _ _ _ _ _ ?_
  (repeat' (((conv => whnf); first | (show (_ : Option mg_V) = _ ∧ _; assumption) | (show K _ _ _ _ _; assumption) | refine And.intro (by first | assumption | omega | (simp only [true_and, a5, b5, c5₀]; first | done | assumption | omega)) ?_ | (refine And.intro (fun _ => ?_) (fun _ => ?_) <;> first | (exfalso; omega) | skip) | intro _ | fail)))
