set_option maxRecDepth 100000 in
theorem cX6_takesIn {D : mg_D} {l : Launch} (hl : l.stackTraces = false) {M : mg_M} {m₀ : Nat} {k₀ T L₀ H₀ W₀ : Int} (st₀ : mm_st M m₀) (rc : mm_rc M m₀) (h₀ : mm_rect M m₀ k₀ T L₀ H₀ W₀) : mg_Mt D l 134 [.inr (.inl m₀), .inl k₀] M (fun v₀ N => v₀ = none ∧ mm_f (fun b₀ j₀ => b₀ = m₀ ∧ 32 ≤ j₀ ∧ j₀ ≤ 35) M N ∧ gi N m₀ 32 = min (gi M m₀ 32) T ∧ gi N m₀ 33 = max (gi M m₀ 33) (T + H₀ - 1) ∧ gi N m₀ 34 = min (gi M m₀ 34) L₀ ∧ gi N m₀ 35 = max (gi M m₀ 35) (L₀ + W₀ - 1)) mg_no := by
  refine mg_of2 hl ok_X6_takesIn al_X6_takesIn rfl (fun K hK₀ => ?_)
  have k7₀ := st₀.1
  have rc' := rc
  unfold mm_rc at rc'
  obtain ⟨h1, h2, h3⟩ := h₀
  refine hK₀ _ _ _ _ _ ?_
  (repeat' (((conv => whnf); first | assumption | refine And.intro (by first | assumption | omega | (simp only [true_and, kd_si]; first | done | assumption | omega)) ?_ | (refine And.intro (fun _ => ?_) (fun _ => ?_) <;> first | (exfalso; omega) | skip) | intro _ | fail)))
  (conv => whnf)
  refine mh_for2d (P := fun r₀ c₀ N => mm_f (fun b₀ j₀ => b₀ = m₀ ∧ 32 ≤ j₀ ∧ j₀ ≤ 35) M N ∧ gi N m₀ 32 = (if T < r₀ ∨ (T = r₀ ∧ L₀ < c₀) then min (gi M m₀ 32) T else gi M m₀ 32) ∧ gi N m₀ 33 = (if T < r₀ ∨ (T = r₀ ∧ L₀ < c₀) then max (gi M m₀ 33) (min (T + H₀ - 1) (if L₀ < c₀ then r₀ else r₀ - 1)) else gi M m₀ 33) ∧ gi N m₀ 34 = (if T < r₀ ∨ (T = r₀ ∧ L₀ < c₀) then min (gi M m₀ 34) L₀ else gi M m₀ 34) ∧ gi N m₀ 35 = (if T < r₀ ∨ (T = r₀ ∧ L₀ < c₀) then max (gi M m₀ 35) (if T < r₀ then L₀ + W₀ - 1 else min (c₀ - 1) (L₀ + W₀ - 1)) else gi M m₀ 35)) (G1 := fun r₀ N => K 2 [(0, Sum.inr (Sum.inl m₀)), (1, Sum.inl k₀), (2, Sum.inl r₀)] [] N 0) (G2 := fun r₀ c₀ N => K 12 [(0, Sum.inr (Sum.inl m₀)), (1, Sum.inl k₀), (2, Sum.inl r₀), (3, Sum.inl c₀)] [] N 0) (R := gi M m₀ 1) (C := gi M m₀ 2) (r0 := 0) (c0 := 0) (by omega) (by omega) ?_ ?_ ?_ ?_ M ⟨mm_f_rfl, by omega, by omega, by omega, by omega⟩
  · rintro N ⟨f₀, p1₀, p2₀, p3₀, p4₀⟩
    have k7₀ := (mm_f_st f₀ st₀).1
    have t1₀ := mm_f_gi f₀ m₀ 1 (by omega)
    have Q₀ : (none : Option mg_V) = none ∧ mm_f (fun b₀ j₀ => b₀ = m₀ ∧ 32 ≤ j₀ ∧ j₀ ≤ 35) M N ∧ gi N m₀ 32 = min (gi M m₀ 32) T ∧ gi N m₀ 33 = max (gi M m₀ 33) (T + H₀ - 1) ∧ gi N m₀ 34 = min (gi M m₀ 34) L₀ ∧ gi N m₀ 35 = max (gi M m₀ 35) (L₀ + W₀ - 1) := ⟨rfl, f₀, by omega, by omega, by omega, by omega⟩
    refine hK₀ _ _ _ _ _ ?_
    (repeat' (((conv => whnf); first | assumption | refine And.intro (by first | assumption | omega | (simp only [true_and, kd_si]; first | done | assumption | omega)) ?_ | (refine And.intro (fun _ => ?_) (fun _ => ?_) <;> first | (exfalso; omega) | skip) | intro _ | fail)))
  · rintro r₀ N r1₀ r2 ⟨f₀, p₀⟩ g₀
    have k7₀ := (mm_f_st f₀ st₀).1
    have t1₀ := mm_f_gi f₀ m₀ 1 (by omega)
    refine hK₀ _ _ _ _ _ ?_
    (repeat' (((conv => whnf); first | assumption | refine And.intro (by first | assumption | omega | (simp only [true_and, kd_si]; first | done | assumption | omega)) ?_ | (refine And.intro (fun _ => ?_) (fun _ => ?_) <;> first | (exfalso; omega) | skip) | intro _ | fail)))
    all_goals ((conv => whnf); exact g₀)
  · rintro r₀ N r1₀ r2 ⟨f₀, p1₀, p2₀, p3₀, p4₀⟩
    have k7₀ := (mm_f_st f₀ st₀).1
    have t2₀ := mm_f_gi f₀ m₀ 2 (by omega)
    refine ⟨⟨f₀, by omega, by omega, by omega, by omega⟩, fun g₀ => ?_⟩
    refine hK₀ _ _ _ _ _ ?_
    (repeat' (((conv => whnf); first | assumption | refine And.intro (by first | assumption | omega | (simp only [true_and, kd_si]; first | done | assumption | omega)) ?_ | (refine And.intro (fun _ => ?_) (fun _ => ?_) <;> first | (exfalso; omega) | skip) | intro _ | fail)))
    all_goals ((conv => whnf); exact g₀)
  · rintro r₀ c₀ N r1₀ r2 c1₀ c2₀ ⟨f₀, p1₀, p2₀, p3₀, p4₀⟩ nex
    have st' := mm_f_st f₀ st₀
    have k7₀ := st'.1
    have t2₀ := mm_f_gi f₀ m₀ 2 (by omega)
    have e0₀ : mi N (m₀ + 1) r₀ c₀ = mi M (m₀ + 1) r₀ c₀ := mm_f_gi f₀ (m₀ + 1) _ (by omega)
    have x0₀ := h3 r₀ c₀ (by omega) (by omega)
    have hin : ∀ u₀ : Unit, mi M (m₀ + 1) r₀ c₀ = k₀ → min r₀ (gi N m₀ 32) = (if T < r₀ ∨ (T = r₀ ∧ L₀ < c₀ + 1) then min (gi M m₀ 32) T else gi M m₀ 32) ∧ max r₀ (gi N m₀ 33) = (if T < r₀ ∨ (T = r₀ ∧ L₀ < c₀ + 1) then max (gi M m₀ 33) (min (T + H₀ - 1) (if L₀ < c₀ + 1 then r₀ else r₀ - 1)) else gi M m₀ 33) ∧ min c₀ (gi N m₀ 34) = (if T < r₀ ∨ (T = r₀ ∧ L₀ < c₀ + 1) then min (gi M m₀ 34) L₀ else gi M m₀ 34) ∧ max c₀ (gi N m₀ 35) = (if T < r₀ ∨ (T = r₀ ∧ L₀ < c₀ + 1) then max (gi M m₀ 35) (if T < r₀ then L₀ + W₀ - 1 else min (c₀ + 1 - 1) (L₀ + W₀ - 1)) else gi M m₀ 35) := by
      intro _ hk
      have := x0₀.1 hk
      rw [p1₀, p2₀, p3₀, p4₀]
      clear p1₀ p2₀ p3₀ p4₀ x0₀ nex f₀
      refine ⟨?_, ?_, ?_, ?_⟩ <;> omega
    have hout : ∀ u₀ : Unit, mi M (m₀ + 1) r₀ c₀ ≠ k₀ → gi N m₀ 32 = (if T < r₀ ∨ (T = r₀ ∧ L₀ < c₀ + 1) then min (gi M m₀ 32) T else gi M m₀ 32) ∧ gi N m₀ 33 = (if T < r₀ ∨ (T = r₀ ∧ L₀ < c₀ + 1) then max (gi M m₀ 33) (min (T + H₀ - 1) (if L₀ < c₀ + 1 then r₀ else r₀ - 1)) else gi M m₀ 33) ∧ gi N m₀ 34 = (if T < r₀ ∨ (T = r₀ ∧ L₀ < c₀ + 1) then min (gi M m₀ 34) L₀ else gi M m₀ 34) ∧ gi N m₀ 35 = (if T < r₀ ∨ (T = r₀ ∧ L₀ < c₀ + 1) then max (gi M m₀ 35) (if T < r₀ then L₀ + W₀ - 1 else min (c₀ + 1 - 1) (L₀ + W₀ - 1)) else gi M m₀ 35) := by
      intro _ hk
      have : ¬ ((T ≤ r₀ ∧ r₀ < T + H₀) ∧ L₀ ≤ c₀ ∧ c₀ < L₀ + W₀) := fun z₀ => hk (x0₀.2 z₀)
      rw [p1₀, p2₀, p3₀, p4₀]
      clear p1₀ p2₀ p3₀ p4₀ x0₀ nex f₀
      refine ⟨?_, ?_, ?_, ?_⟩ <;> omega
    have nex2 : ∀ x₀ y₀ z₀ w₀ : Int, mi M (m₀ + 1) r₀ c₀ = k₀ → x₀ = min r₀ (gi N m₀ 32) → y₀ = max r₀ (gi N m₀ 33) → z₀ = min c₀ (gi N m₀ 34) → w₀ = max c₀ (gi N m₀ 35) → K 12 [(0, Sum.inr (Sum.inl m₀)), (1, Sum.inl k₀), (2, Sum.inl r₀), (3, Sum.inl (c₀ + 1))] [] (si (si (si (si N m₀ 32 x₀) m₀ 33 y₀) m₀ 34 z₀) m₀ 35 w₀) 0 := by
      intro x₀ y₀ z₀ w₀ hk hx hy hz hw
      obtain ⟨q1₀, q2₀, q3₀, q4₀⟩ := hin () hk
      refine nex _ ⟨mm_f_si (mm_f_si (mm_f_si (mm_f_si f₀ ?_) ?_) ?_) ?_, ?_, ?_, ?_, ?_⟩
      · exact ⟨rfl, by decide, by decide⟩
      · exact ⟨rfl, by decide, by decide⟩
      · exact ⟨rfl, by decide, by decide⟩
      · exact ⟨rfl, by decide, by decide⟩
      · rw [← q1₀, ← hx]; simp [gi_si]
      · rw [← q2₀, ← hy]; simp [gi_si]
      · rw [← q3₀, ← hz]; simp [gi_si]
      · rw [← q4₀, ← hw]; simp [gi_si]
    have nex3 : mi M (m₀ + 1) r₀ c₀ ≠ k₀ → K 12 [(0, Sum.inr (Sum.inl m₀)), (1, Sum.inl k₀), (2, Sum.inl r₀), (3, Sum.inl (c₀ + 1))] [] N 0 := fun hk => nex N ⟨f₀, hout () hk⟩
    clear hin hout nex p1₀ p2₀ p3₀ p4₀ x0₀ h3 h1 h2
    have u1₀ : ∀ v₀, gi (si N m₀ 32 v₀) m₀ 33 = gi N m₀ 33 := fun v₀ => by rw [gi_si, if_neg (by omega)]
    have u2₀ : ∀ v₀ w₀, gi (si (si N m₀ 32 v₀) m₀ 33 w₀) m₀ 34 = gi N m₀ 34 := fun v₀ w₀ => by rw [gi_si, if_neg (by omega), gi_si, if_neg (by omega)]
    have u3 : ∀ v₀ w₀ x₀, gi (si (si (si N m₀ 32 v₀) m₀ 33 w₀) m₀ 34 x₀) m₀ 35 = gi N m₀ 35 := fun v₀ w₀ x₀ => by rw [gi_si, if_neg (by omega), gi_si, if_neg (by omega), gi_si, if_neg (by omega)]
    refine hK₀ _ _ _ _ _ ?_
    (repeat' (((conv => whnf); first | assumption | refine And.intro (by first | assumption | omega | (simp only [true_and, kd_si]; first | done | assumption | omega)) ?_ | (refine And.intro (fun _ => ?_) (fun _ => ?_) <;> first | (exfalso; omega) | skip) | intro _ | fail)))
    all_goals (try ((conv => whnf); (refine Exists.intro _ (Exists.intro _ (And.intro (cX6_id hl st' (by omega) (by omega)) (And.intro ?_ (fun _ _ h₀ => h₀.elim)))); rintro _ _ ⟨rfl, e₀⟩; have e2₀ := e₀.symm; clear e₀; subst e2₀); (repeat' (((conv => whnf); first | assumption | refine And.intro (by first | assumption | omega | (simp only [true_and, kd_si]; first | done | assumption | omega)) ?_ | (refine And.intro (fun _ => ?_) (fun _ => ?_) <;> first | (exfalso; omega) | skip) | intro _ | fail)))))
    all_goals ((conv => whnf); try simp only [u1₀, u2₀, u3] at *)
    all_goals (first | exact nex3 (by omega) | (refine nex2 _ _ _ _ ?_ ?_ ?_ ?_ ?_ <;> omega))
set_option maxRecDepth 100000 in
theorem cX6_topRow {D : mg_D} {l : Launch} (hl : l.stackTraces = false) {M : mg_M} {m₀ : Nat} {k₀ T L₀ H₀ W₀ : Int} (st₀ : mm_st M m₀) (rc : mm_rc M m₀) (h₀ : mm_rect M m₀ k₀ T L₀ H₀ W₀) : mg_Mt D l 154 [.inr (.inl m₀), .inl k₀] M (fun v₀ N => v₀ = some (.inl T) ∧ N = M) mg_no := by
  refine mg_of2 hl ok_X6_topRow al_X6_topRow rfl (fun K hK₀ => ?_)
  have k7₀ := st₀.1
  have rc' := rc
  unfold mm_rc at rc'
  obtain ⟨h1, h2, h3⟩ := h₀
  refine hK₀ _ _ _ _ _ ?_
  (repeat' (((conv => whnf); first | assumption | refine And.intro (by first | assumption | omega | (simp only [true_and]; first | done | assumption | omega)) ?_ | (refine And.intro (fun _ => ?_) (fun _ => ?_) <;> first | (exfalso; omega) | skip) | intro _ | fail)))
  (conv => whnf)
  refine mh_ford (P := fun r₀ x₀ => x₀ = if r₀ < T + H₀ - 1 then max T (r₀ + 1) else -1) (G := fun r₀ x₀ => K 9 [(0, Sum.inr (Sum.inl m₀)), (1, Sum.inl k₀), (2, Sum.inl x₀), (3, Sum.inl r₀)] [] M 0) (lo := -1) (by omega) ?_ ?_ _ (by omega)
  · rintro x₀ p₀
    refine hK₀ _ _ _ _ _ ?_
    (repeat' (((conv => whnf); first | assumption | refine And.intro (by first | assumption | omega | (simp only [true_and]; first | done | assumption | omega)) ?_ | (refine And.intro (fun _ => ?_) (fun _ => ?_) <;> first | (exfalso; omega) | skip) | intro _ | fail)))
    (conv => whnf)
    refine And.intro ?_ rfl
    congr 2
    omega
  · rintro r₀ x₀ r1₀ r2 p₀ nx1
    have G : K 16 [(0, Sum.inr (Sum.inl m₀)), (1, Sum.inl k₀), (2, Sum.inl x₀), (3, Sum.inl r₀), (4, Sum.inl 0)] [] M 0 := by
      refine mh_for (P := fun c₀ y₀ => y₀ = if (T ≤ r₀ ∧ r₀ < T + H₀) ∧ L₀ < c₀ then r₀ else x₀) (G := fun c₀ y₀ => K 16 [(0, Sum.inr (Sum.inl m₀)), (1, Sum.inl k₀), (2, Sum.inl y₀), (3, Sum.inl r₀), (4, Sum.inl c₀)] [] M 0) (hi := gi M m₀ 2) (by omega) ?_ ?_ _ (by omega)
      · rintro y₀ p'
        refine hK₀ _ _ _ _ _ ?_
        (repeat' (((conv => whnf); first | assumption | refine And.intro (by first | assumption | omega | (simp only [true_and]; first | done | assumption | omega)) ?_ | (refine And.intro (fun _ => ?_) (fun _ => ?_) <;> first | (exfalso; omega) | skip) | intro _ | fail)))
        (conv => whnf)
        exact nx1 _ (by omega)
      · rintro c₀ y₀ c1₀ c2₀ p' nx2₀
        have x0₀ := h3 r₀ c₀ (by omega) (by omega)
        clear h3
        refine hK₀ _ _ _ _ _ ?_
        (repeat' (((conv => whnf); first | assumption | refine And.intro (by first | assumption | omega | (simp only [true_and]; first | done | assumption | omega)) ?_ | (refine And.intro (fun _ => ?_) (fun _ => ?_) <;> first | (exfalso; omega) | skip) | intro _ | fail)))
        all_goals (try ((conv => whnf); (refine Exists.intro _ (Exists.intro _ (And.intro (cX6_id hl st₀ (by omega) (by omega)) (And.intro ?_ (fun _ _ h₀ => h₀.elim)))); rintro _ _ ⟨rfl, e₀⟩; have e2₀ := e₀.symm; clear e₀; subst e2₀); (repeat' (((conv => whnf); first | assumption | refine And.intro (by first | assumption | omega | (simp only [true_and]; first | done | assumption | omega)) ?_ | (refine And.intro (fun _ => ?_) (fun _ => ?_) <;> first | (exfalso; omega) | skip) | intro _ | fail)))))
        all_goals ((conv => whnf); exact nx2₀ _ (by omega))
    refine hK₀ _ _ _ _ _ ?_
    (repeat' (((conv => whnf); first | assumption | refine And.intro (by first | assumption | omega | (simp only [true_and]; first | done | assumption | omega)) ?_ | (refine And.intro (fun _ => ?_) (fun _ => ?_) <;> first | (exfalso; omega) | skip) | intro _ | fail)))
    all_goals ((conv => whnf); exact G)
set_option maxRecDepth 100000 in
theorem cX6_leftCol {D : mg_D} {l : Launch} (hl : l.stackTraces = false) {M : mg_M} {m₀ : Nat} {k₀ T L₀ H₀ W₀ : Int} (st₀ : mm_st M m₀) (rc : mm_rc M m₀) (h₀ : mm_rect M m₀ k₀ T L₀ H₀ W₀) : mg_Mt D l 155 [.inr (.inl m₀), .inl k₀] M (fun v₀ N => v₀ = some (.inl L₀) ∧ N = M) mg_no := by
  refine mg_of2 hl ok_X6_leftCol al_X6_leftCol rfl (fun K hK₀ => ?_)
  have k7₀ := st₀.1
  have rc' := rc
  unfold mm_rc at rc'
  obtain ⟨h1, h2, h3⟩ := h₀
  refine hK₀ _ _ _ _ _ ?_
  (repeat' (((conv => whnf); first | assumption | refine And.intro (by first | assumption | omega | (simp only [true_and]; first | done | assumption | omega)) ?_ | (refine And.intro (fun _ => ?_) (fun _ => ?_) <;> first | (exfalso; omega) | skip) | intro _ | fail)))
  (conv => whnf)
  refine mh_ford (P := fun r₀ x₀ => x₀ = if r₀ < L₀ + W₀ - 1 then max L₀ (r₀ + 1) else -1) (G := fun r₀ x₀ => K 9 [(0, Sum.inr (Sum.inl m₀)), (1, Sum.inl k₀), (2, Sum.inl x₀), (3, Sum.inl r₀)] [] M 0) (lo := -1) (by omega) ?_ ?_ _ (by omega)
  · rintro x₀ p₀
    refine hK₀ _ _ _ _ _ ?_
    (repeat' (((conv => whnf); first | assumption | refine And.intro (by first | assumption | omega | (simp only [true_and]; first | done | assumption | omega)) ?_ | (refine And.intro (fun _ => ?_) (fun _ => ?_) <;> first | (exfalso; omega) | skip) | intro _ | fail)))
    (conv => whnf)
    refine And.intro ?_ rfl
    congr 2
    omega
  · rintro r₀ x₀ r1₀ r2 p₀ nx1
    have G : K 16 [(0, Sum.inr (Sum.inl m₀)), (1, Sum.inl k₀), (2, Sum.inl x₀), (3, Sum.inl r₀), (4, Sum.inl 0)] [] M 0 := by
      refine mh_for (P := fun c₀ y₀ => y₀ = if (L₀ ≤ r₀ ∧ r₀ < L₀ + W₀) ∧ T < c₀ then r₀ else x₀) (G := fun c₀ y₀ => K 16 [(0, Sum.inr (Sum.inl m₀)), (1, Sum.inl k₀), (2, Sum.inl y₀), (3, Sum.inl r₀), (4, Sum.inl c₀)] [] M 0) (hi := gi M m₀ 1) (by omega) ?_ ?_ _ (by omega)
      · rintro y₀ p'
        refine hK₀ _ _ _ _ _ ?_
        (repeat' (((conv => whnf); first | assumption | refine And.intro (by first | assumption | omega | (simp only [true_and]; first | done | assumption | omega)) ?_ | (refine And.intro (fun _ => ?_) (fun _ => ?_) <;> first | (exfalso; omega) | skip) | intro _ | fail)))
        (conv => whnf)
        exact nx1 _ (by omega)
      · rintro c₀ y₀ c1₀ c2₀ p' nx2₀
        have x0₀ := h3 c₀ r₀ (by omega) (by omega)
        clear h3
        refine hK₀ _ _ _ _ _ ?_
        (repeat' (((conv => whnf); first | assumption | refine And.intro (by first | assumption | omega | (simp only [true_and]; first | done | assumption | omega)) ?_ | (refine And.intro (fun _ => ?_) (fun _ => ?_) <;> first | (exfalso; omega) | skip) | intro _ | fail)))
        all_goals (try ((conv => whnf); (refine Exists.intro _ (Exists.intro _ (And.intro (cX6_id hl st₀ (by omega) (by omega)) (And.intro ?_ (fun _ _ h₀ => h₀.elim)))); rintro _ _ ⟨rfl, e₀⟩; have e2₀ := e₀.symm; clear e₀; subst e2₀); (repeat' (((conv => whnf); first | assumption | refine And.intro (by first | assumption | omega | (simp only [true_and]; first | done | assumption | omega)) ?_ | (refine And.intro (fun _ => ?_) (fun _ => ?_) <;> first | (exfalso; omega) | skip) | intro _ | fail)))))
        all_goals ((conv => whnf); exact nx2₀ _ (by omega))
    refine hK₀ _ _ _ _ _ ?_
    (repeat' (((conv => whnf); first | assumption | refine And.intro (by first | assumption | omega | (simp only [true_and]; first | done | assumption | omega)) ?_ | (refine And.intro (fun _ => ?_) (fun _ => ?_) <;> first | (exfalso; omega) | skip) | intro _ | fail)))
    all_goals ((conv => whnf); exact G)
set_option maxRecDepth 100000 in
theorem cX6_rowMany {D : mg_D} {l : Launch} (hl : l.stackTraces = false) {M : mg_M} {m₀ : Nat} {k₀ T L₀ H₀ W₀ : Int} (st₀ : mm_st M m₀) (rc : mm_rc M m₀) (h₀ : mm_rect M m₀ k₀ T L₀ H₀ W₀) : mg_Mt D l 156 [.inr (.inl m₀), .inl k₀] M (fun v₀ N => v₀ = some (.inl H₀) ∧ N = M) mg_no := by
  refine mg_of2 hl ok_X6_rowMany al_X6_rowMany rfl (fun K hK₀ => ?_)
  have k7₀ := st₀.1
  have rc' := rc
  unfold mm_rc at rc'
  have h0 := h₀
  obtain ⟨h1, h2, h3⟩ := h₀
  refine hK₀ _ _ _ _ _ ?_
  (repeat' (((conv => whnf); first | assumption | refine And.intro (by first | assumption | omega | (simp only [true_and]; first | done | assumption | omega)) ?_ | (refine And.intro (fun _ => ?_) (fun _ => ?_) <;> first | (exfalso; omega) | skip) | intro _ | fail)))
  all_goals (try ((conv => whnf); (refine Exists.intro _ (Exists.intro _ (And.intro (cX6_leftCol hl st₀ rc h0) (And.intro ?_ (fun _ _ h₀ => h₀.elim)))); rintro _ _ ⟨rfl, e₀⟩; have e2₀ := e₀.symm; clear e₀; subst e2₀); (repeat' (((conv => whnf); first | assumption | refine And.intro (by first | assumption | omega | (simp only [true_and]; first | done | assumption | omega)) ?_ | (refine And.intro (fun _ => ?_) (fun _ => ?_) <;> first | (exfalso; omega) | skip) | intro _ | fail)))))
  (conv => whnf)
  refine mh_for (P := fun r₀ x₀ => x₀ = max 0 (min r₀ (T + H₀) - T)) (G := fun r₀ x₀ => K 11 [(0, Sum.inr (Sum.inl m₀)), (1, Sum.inl k₀), (2, Sum.inl x₀), (3, Sum.inl L₀), (4, Sum.inl r₀)] [] M 0) (hi := gi M m₀ 1) (by omega) ?_ ?_ _ (by omega)
  · rintro x₀ p₀
    refine hK₀ _ _ _ _ _ ?_
    (repeat' (((conv => whnf); first | assumption | refine And.intro (by first | assumption | omega | (simp only [true_and]; first | done | assumption | omega)) ?_ | (refine And.intro (fun _ => ?_) (fun _ => ?_) <;> first | (exfalso; omega) | skip) | intro _ | fail)))
    (conv => whnf)
    refine And.intro ?_ rfl
    congr 2
    omega
  · rintro r₀ x₀ r1₀ r2 p₀ nex
    have x0₀ := h3 r₀ L₀ (by omega) (by omega)
    clear h3
    refine hK₀ _ _ _ _ _ ?_
    (repeat' (((conv => whnf); first | assumption | refine And.intro (by first | assumption | omega | (simp only [true_and]; first | done | assumption | omega)) ?_ | (refine And.intro (fun _ => ?_) (fun _ => ?_) <;> first | (exfalso; omega) | skip) | intro _ | fail)))
    all_goals (try ((conv => whnf); (refine Exists.intro _ (Exists.intro _ (And.intro (cX6_id hl st₀ (by omega) (by omega)) (And.intro ?_ (fun _ _ h₀ => h₀.elim)))); rintro _ _ ⟨rfl, e₀⟩; have e2₀ := e₀.symm; clear e₀; subst e2₀); (repeat' (((conv => whnf); first | assumption | refine And.intro (by first | assumption | omega | (simp only [true_and]; first | done | assumption | omega)) ?_ | (refine And.intro (fun _ => ?_) (fun _ => ?_) <;> first | (exfalso; omega) | skip) | intro _ | fail)))))
    all_goals ((conv => whnf); exact nex _ (by omega))
set_option maxRecDepth 100000 in
theorem cX6_colMany {D : mg_D} {l : Launch} (hl : l.stackTraces = false) {M : mg_M} {m₀ : Nat} {k₀ T L₀ H₀ W₀ : Int} (st₀ : mm_st M m₀) (rc : mm_rc M m₀) (h₀ : mm_rect M m₀ k₀ T L₀ H₀ W₀) : mg_Mt D l 157 [.inr (.inl m₀), .inl k₀] M (fun v₀ N => v₀ = some (.inl W₀) ∧ N = M) mg_no := by
  refine mg_of2 hl ok_X6_colMany al_X6_colMany rfl (fun K hK₀ => ?_)
  have k7₀ := st₀.1
  have rc' := rc
  unfold mm_rc at rc'
  have h0 := h₀
  obtain ⟨h1, h2, h3⟩ := h₀
  refine hK₀ _ _ _ _ _ ?_
  (repeat' (((conv => whnf); first | assumption | refine And.intro (by first | assumption | omega | (simp only [true_and]; first | done | assumption | omega)) ?_ | (refine And.intro (fun _ => ?_) (fun _ => ?_) <;> first | (exfalso; omega) | skip) | intro _ | fail)))
  all_goals (try ((conv => whnf); (refine Exists.intro _ (Exists.intro _ (And.intro (cX6_topRow hl st₀ rc h0) (And.intro ?_ (fun _ _ h₀ => h₀.elim)))); rintro _ _ ⟨rfl, e₀⟩; have e2₀ := e₀.symm; clear e₀; subst e2₀); (repeat' (((conv => whnf); first | assumption | refine And.intro (by first | assumption | omega | (simp only [true_and]; first | done | assumption | omega)) ?_ | (refine And.intro (fun _ => ?_) (fun _ => ?_) <;> first | (exfalso; omega) | skip) | intro _ | fail)))))
  (conv => whnf)
  refine mh_for (P := fun r₀ x₀ => x₀ = max 0 (min r₀ (L₀ + W₀) - L₀)) (G := fun r₀ x₀ => K 11 [(0, Sum.inr (Sum.inl m₀)), (1, Sum.inl k₀), (2, Sum.inl x₀), (3, Sum.inl T), (4, Sum.inl r₀)] [] M 0) (hi := gi M m₀ 2) (by omega) ?_ ?_ _ (by omega)
  · rintro x₀ p₀
    refine hK₀ _ _ _ _ _ ?_
    (repeat' (((conv => whnf); first | assumption | refine And.intro (by first | assumption | omega | (simp only [true_and]; first | done | assumption | omega)) ?_ | (refine And.intro (fun _ => ?_) (fun _ => ?_) <;> first | (exfalso; omega) | skip) | intro _ | fail)))
    (conv => whnf)
    refine And.intro ?_ rfl
    congr 2
    omega
  · rintro r₀ x₀ r1₀ r2 p₀ nex
    have x0₀ := h3 T r₀ (by omega) (by omega)
    clear h3
    refine hK₀ _ _ _ _ _ ?_
    (repeat' (((conv => whnf); first | assumption | refine And.intro (by first | assumption | omega | (simp only [true_and]; first | done | assumption | omega)) ?_ | (refine And.intro (fun _ => ?_) (fun _ => ?_) <;> first | (exfalso; omega) | skip) | intro _ | fail)))
    all_goals (try ((conv => whnf); (refine Exists.intro _ (Exists.intro _ (And.intro (cX6_id hl st₀ (by omega) (by omega)) (And.intro ?_ (fun _ _ h₀ => h₀.elim)))); rintro _ _ ⟨rfl, e₀⟩; have e2₀ := e₀.symm; clear e₀; subst e2₀); (repeat' (((conv => whnf); first | assumption | refine And.intro (by first | assumption | omega | (simp only [true_and]; first | done | assumption | omega)) ?_ | (refine And.intro (fun _ => ?_) (fun _ => ?_) <;> first | (exfalso; omega) | skip) | intro _ | fail)))))
    all_goals ((conv => whnf); exact nex _ (by omega))
