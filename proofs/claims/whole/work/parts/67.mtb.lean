def mm_ll (i₀ : Nat) : Nat := if i₀ = 0 then 120 else if i₀ ≤ 2 then 140 else if i₀ = 3 then 10 else 12
def mm_tk (M Z₀ : mg_M) (m₀ j₀ : Nat) : Prop := mm_f (fun b₀ k₀ => (b₀ = m₀ ∧ (k₀ ≤ 3 ∨ (11 ≤ k₀ ∧ k₀ ≤ 13))) ∨ (m₀ + 1 ≤ b₀ ∧ b₀ ≤ m₀ + 10)) M Z₀ ∧ (gi Z₀ m₀ 0 = 0 ∧ gi Z₀ m₀ 1 = gi M m₀ 11 ∧ gi Z₀ m₀ 2 = gi M m₀ 12 ∧ gi Z₀ m₀ 3 = gi M m₀ 13 ∧ gi Z₀ m₀ 11 = gi M m₀ 1 ∧ gi Z₀ m₀ 12 = gi M m₀ 2 ∧ gi Z₀ m₀ 13 = gi M m₀ 3) ∧ ∀ i₀ : Nat, i₀ < 5 → ∀ k₀ : Nat, k₀ < mm_ll i₀ → (i₀ < j₀ → gi Z₀ (m₀ + 1 + i₀) k₀ = gi M (m₀ + 6 + i₀) k₀ ∧ gi Z₀ (m₀ + 6 + i₀) k₀ = gi M (m₀ + 1 + i₀) k₀) ∧ (j₀ ≤ i₀ → gi Z₀ (m₀ + 1 + i₀) k₀ = gi M (m₀ + 1 + i₀) k₀ ∧ gi Z₀ (m₀ + 6 + i₀) k₀ = gi M (m₀ + 6 + i₀) k₀)
theorem mm_tk0 {M P : mg_M} {m₀ : Nat} {a₀ b₀ c₀ d₀ e₀ g₀ : Int} (t₀ : mm_th M P m₀ 0) (ha₀ : a₀ = gi M m₀ 11) (hb₀ : b₀ = gi M m₀ 1) (hc₀ : c₀ = gi M m₀ 12) (hd₀ : d₀ = gi M m₀ 2) (he : e₀ = gi M m₀ 13) (hg : g₀ = gi M m₀ 3) : mm_tk M (si (si (si (si (si (si P m₀ 1 a₀) m₀ 11 b₀) m₀ 2 c₀) m₀ 12 d₀) m₀ 3 e₀) m₀ 13 g₀) m₀ 0 := by
  refine ⟨mm_f_si (mm_f_si (mm_f_si (mm_f_si (mm_f_si (mm_f_si (mm_f_mono t₀.1 (fun b₀ k₀ z₀ => by omega)) (by omega)) (by omega)) (by omega)) (by omega)) (by omega)) (by omega), ⟨?_, ?_, ?_, ?_, ?_, ?_, ?_⟩, fun i₀ hi k₀ hk => ⟨fun z₀ => by omega, fun _ => ⟨?_, ?_⟩⟩⟩
  · have := t₀.2; simpa [gi_si] using this
  · simp [gi_si]; exact ha₀
  · simp [gi_si]; exact hc₀
  · simp [gi_si]; exact he
  · simp [gi_si]; exact hb₀
  · simp [gi_si]; exact hd₀
  · simp [gi_si]; exact hg
  · have := mm_f_gi t₀.1 (m₀ + 1 + i₀) k₀ (by omega)
    have n₀ : ¬ (m₀ + 1 + i₀ = m₀) := by omega
    simp only [gi_si, n₀, false_and, if_false]
    exact this
  · have := mm_f_gi t₀.1 (m₀ + 6 + i₀) k₀ (by omega)
    have n₀ : ¬ (m₀ + 6 + i₀ = m₀) := by omega
    simp only [gi_si, n₀, false_and, if_false]
    exact this
theorem cX6_chg {D : mg_D} {l : Launch} (hl : l.stackTraces = false) {M Z₀ : mg_M} {m₀ j₀ : Nat} {n₀ : Int} (st₀ : mm_st M m₀) (hj : j₀ < 5) (hn : n₀ = mm_ll j₀) (h₀ : mm_tk M Z₀ m₀ j₀) : mg_Mt D l 201 [.inr (.inl (m₀ + 1 + j₀)), .inr (.inl (m₀ + 6 + j₀)), .inl n₀] Z₀ (fun v₀ N => v₀ = none ∧ mm_tk M N m₀ (j₀ + 1)) mg_no := by
  obtain ⟨f₀, s₀, a₀⟩ := h₀
  have q₀ : (kd M (m₀ + 1 + j₀) = 8 ∧ kd M (m₀ + 6 + j₀) = 8) ∧ (ln M (m₀ + 1 + j₀) = mm_ll j₀ ∧ ln M (m₀ + 6 + j₀) = mm_ll j₀) := by
    have A₀ := st₀.2.1
    have B₀ := st₀.2.2.1
    unfold mm_ar at A₀ B₀
    have : j₀ = 0 ∨ j₀ = 1 ∨ j₀ = 2 ∨ j₀ = 3 ∨ j₀ = 4 := by omega
    unfold mm_ll
    rcases this with rfl | rfl | rfl | rfl | rfl <;> simp <;> simp [A₀, B₀]
  have b₀ : mm_ll j₀ ≤ 140 := by unfold mm_ll; (repeat' split) <;> omega
  refine mg_MtN (cX6_changes hl (by rw [f₀.1]; exact q₀.1.1) (by rw [f₀.1]; exact q₀.1.2) (by rw [f₀.2.1, q₀.2.1, hn]; omega) (by rw [f₀.2.1, q₀.2.2, hn]; omega) (by omega) (by omega)) ?_
  rintro v₀ N ⟨q1₀, q2₀, q3₀⟩
  refine ⟨q1₀, mm_f_tr f₀ (mm_f_mono q2₀ (fun b₀ k₀ z₀ => by omega)), ?_, fun i₀ hi k₀ hk => ⟨fun z₀ => ?_, fun z₀ => ?_⟩⟩
  · rw [mm_f_gi q2₀ m₀ 0 (by omega), mm_f_gi q2₀ m₀ 1 (by omega), mm_f_gi q2₀ m₀ 2 (by omega), mm_f_gi q2₀ m₀ 3 (by omega), mm_f_gi q2₀ m₀ 11 (by omega), mm_f_gi q2₀ m₀ 12 (by omega), mm_f_gi q2₀ m₀ 13 (by omega)]
    exact s₀
  · by_cases e₀ : i₀ = j₀
    · subst e₀
      have w₀ := q3₀ k₀ (by omega)
      rw [w₀.1, w₀.2]
      have := (a₀ i₀ hi k₀ hk).2 (by omega)
      exact ⟨this.2, this.1⟩
    · rw [mm_f_gi q2₀ _ _ (by omega), mm_f_gi q2₀ _ _ (by omega)]
      exact (a₀ i₀ hi k₀ hk).1 (by omega)
  · rw [mm_f_gi q2₀ _ _ (by omega), mm_f_gi q2₀ _ _ (by omega)]
    exact (a₀ i₀ hi k₀ hk).2 (by omega)
set_option maxRecDepth 100000 in
theorem cX6_takeBack1 {D : mg_D} {l : Launch} (hl : l.stackTraces = false) {M : mg_M} {m₀ : Nat} (st₀ : mm_st M m₀) (h₀ : gi M m₀ 10 = 0) : mg_Mt D l 202 [.inr (.inl m₀)] M (fun v₀ N => v₀ = some (.inl 0) ∧ N = si M m₀ 0 1) mg_no := by
  refine mg_of2 hl ok_X6_takeBack al_X6_takeBack rfl (fun K hK₀ => ?_)
  have k7₀ := st₀.1
  refine hK₀ _ _ _ _ _ ?_
  (repeat' (((conv => whnf); first | (show (_ : Option mg_V) = _ ∧ _; assumption) | (show K _ _ _ _ _; assumption) | refine And.intro (by first | assumption | omega | (simp only [true_and]; first | done | assumption | omega)) ?_ | (refine And.intro (fun _ => ?_) (fun _ => ?_) <;> first | (exfalso; omega) | skip) | intro _ | fail)))
  all_goals (try ((conv => whnf); (refine Exists.intro _ (Exists.intro _ (And.intro (cX6_fails hl k7₀) (And.intro ?_ (fun _ _ h₀ => h₀.elim)))); rintro _ _ ⟨rfl, e₀⟩; have e2₀ := e₀.symm; clear e₀; subst e2₀); (repeat' (((conv => whnf); first | (show (_ : Option mg_V) = _ ∧ _; assumption) | (show K _ _ _ _ _; assumption) | refine And.intro (by first | assumption | omega | (simp only [true_and]; first | done | assumption | omega)) ?_ | (refine And.intro (fun _ => ?_) (fun _ => ?_) <;> first | (exfalso; omega) | skip) | intro _ | fail)))))
  all_goals ((conv => whnf) <;> first | rfl | exact And.intro rfl rfl)
set_option maxRecDepth 100000 in
theorem cX6_takeBack0 {D : mg_D} {l : Launch} (hl : l.stackTraces = false) {M : mg_M} {m₀ : Nat} {T L₀ H₀ W₀ : Int → Int → Int} (st₀ : mm_st M m₀) (h₀ : gi M m₀ 10 = 1) (hb₀ : (1 ≤ gi M m₀ 11 ∧ gi M m₀ 11 ≤ 12) ∧ (1 ≤ gi M m₀ 12 ∧ gi M m₀ 12 ≤ 10)) (hid₀ : ∀ r₀ c₀, mh_rg (gi M m₀ 11) (gi M m₀ 12) r₀ c₀ → 0 ≤ mi M (m₀ + 6) r₀ c₀ ∧ mi M (m₀ + 6) r₀ c₀ < 120) (t₀ : mh_til (gi M m₀ 11) (gi M m₀ 12) (fun p₀ q₀ => mi M (m₀ + 6) p₀ q₀) T L₀ H₀ W₀) : mg_Mt D l 202 [.inr (.inl m₀)] M (fun v₀ N => v₀ = some (.inl (if gi M m₀ 4 = gi N m₀ 4 then 1 else 0)) ∧ mm_nw M N m₀ (gi M m₀ 11) (gi M m₀ 12) (gi M m₀ 13) (fun p₀ q₀ => mi M (m₀ + 6) p₀ q₀) (fun k₀ => gi M (m₀ + 7) k₀.toNat) (fun k₀ => gi M (m₀ + 8) k₀.toNat) (fun k₀ => gi M (m₀ + 9) k₀.toNat) (fun k₀ => gi M (m₀ + 10) k₀.toNat) ∧ mm_se N m₀ (gi M m₀ 11) (gi M m₀ 12) T L₀ H₀ W₀) mg_no := by
  refine mg_of2 hl ok_X6_takeBack al_X6_takeBack rfl (fun K hK₀ => ?_)
  have k7₀ := st₀.1
  obtain ⟨⟨a5, -⟩, ⟨a6, -⟩, ⟨a7, -⟩, ⟨a8, -⟩, ⟨a9, -⟩⟩ := st₀.2.1
  obtain ⟨⟨a14, -⟩, ⟨a15, -⟩, ⟨a16, -⟩, ⟨a17, -⟩, ⟨a18, -⟩⟩ := st₀.2.2.1
  refine hK₀ _ _ _ _ _ ?_
  (repeat' (((conv => whnf); first | (show (_ : Option mg_V) = _ ∧ _; assumption) | (show K _ _ _ _ _; assumption) | refine And.intro (by first | assumption | omega | (simp only [true_and]; first | done | assumption | omega)) ?_ | (refine And.intro (fun _ => ?_) (fun _ => ?_) <;> first | (exfalso; omega) | skip) | intro _ | fail)))
  (conv => whnf)
  refine Exists.intro _ (Exists.intro _ (And.intro (cX6_fails0 hl rfl mm_th0 st₀) (And.intro ?_ (fun _ _ h₀ => h₀.elim))))
  rintro _ P ⟨rfl, tt⟩
  have stP := mm_f_st tt.1 st₀
  have k7P := stP.1
  have e4₀ := mm_f_gi tt.1 m₀ 4 (by omega)
  obtain ⟨⟨a5, -⟩, ⟨a6, -⟩, ⟨a7, -⟩, ⟨a8, -⟩, ⟨a9, -⟩⟩ := stP.2.1
  obtain ⟨⟨a14, -⟩, ⟨a15, -⟩, ⟨a16, -⟩, ⟨a17, -⟩, ⟨a18, -⟩⟩ := stP.2.2.1
  (conv => whnf)
  first | refine And.intro (fun z₀ => absurd rfl z₀) (fun _ => ?_) | refine And.intro (fun _ => ?_) (fun z₀ => absurd rfl z₀)
  (conv => whnf)
  refine And.intro k7P ?_
  (conv => whnf)
  refine And.intro k7P ?_
  (conv => whnf)
  refine And.intro k7P ?_
  (conv => whnf)
  refine And.intro k7P ?_
  (conv => whnf)
  generalize hZ1 : si P m₀ 1 (gi P m₀ 11) = Z1
  have kZ1 : kd Z1 m₀ = 7 := by rw [← hZ1, kd_si]; exact k7P
  refine And.intro kZ1 ?_
  (conv => whnf)
  generalize hZ2 : si Z1 m₀ 11 (gi P m₀ 1) = Z2
  have kZ2 : kd Z2 m₀ = 7 := by rw [← hZ2, kd_si]; exact kZ1
  (conv => whnf)
  refine And.intro kZ2 ?_
  (conv => whnf)
  refine And.intro kZ2 ?_
  (conv => whnf)
  refine And.intro kZ2 ?_
  (conv => whnf)
  generalize hZ3 : si Z2 m₀ 2 (gi Z2 m₀ 12) = Z3
  have kZ3 : kd Z3 m₀ = 7 := by rw [← hZ3, kd_si]; exact kZ2
  refine And.intro kZ3 ?_
  (conv => whnf)
  generalize hZ4 : si Z3 m₀ 12 (gi Z2 m₀ 2) = Z4
  have kZ4 : kd Z4 m₀ = 7 := by rw [← hZ4, kd_si]; exact kZ3
  (conv => whnf)
  refine And.intro kZ4 ?_
  (conv => whnf)
  refine And.intro kZ4 ?_
  (conv => whnf)
  refine And.intro kZ4 ?_
  (conv => whnf)
  generalize hZ5 : si Z4 m₀ 3 (gi Z4 m₀ 13) = Z5
  have kZ5 : kd Z5 m₀ = 7 := by rw [← hZ5, kd_si]; exact kZ4
  refine And.intro kZ5 ?_
  (conv => whnf)
  generalize hZ6 : si Z5 m₀ 13 (gi Z4 m₀ 3) = Z6
  have kZ6 : kd Z6 m₀ = 7 := by rw [← hZ6, kd_si]; exact kZ5
  have z2 : ∀ k₀, k₀ ≠ 1 → k₀ ≠ 11 → gi Z2 m₀ k₀ = gi P m₀ k₀ := fun k₀ h1 h2 => by rw [← hZ2, gi_si, if_neg (by omega), ← hZ1, gi_si, if_neg (by omega)]
  have z4 : ∀ k₀, k₀ ≠ 2 → k₀ ≠ 12 → gi Z4 m₀ k₀ = gi Z2 m₀ k₀ := fun k₀ h1 h2 => by rw [← hZ4, gi_si, if_neg (by omega), ← hZ3, gi_si, if_neg (by omega)]
  have tk := mm_tk0 tt (mm_f_gi tt.1 m₀ 11 (by omega)) (mm_f_gi tt.1 m₀ 1 (by omega)) ((z2 12 (by omega) (by omega)).trans (mm_f_gi tt.1 m₀ 12 (by omega))) ((z2 2 (by omega) (by omega)).trans (mm_f_gi tt.1 m₀ 2 (by omega))) ((z4 13 (by omega) (by omega)).trans ((z2 13 (by omega) (by omega)).trans (mm_f_gi tt.1 m₀ 13 (by omega)))) ((z4 3 (by omega) (by omega)).trans ((z2 3 (by omega) (by omega)).trans (mm_f_gi tt.1 m₀ 3 (by omega))))
  rw [hZ1, hZ2, hZ3, hZ4, hZ5, hZ6] at tk
  have e40 := z4 3 (by omega) (by omega)
  rw [e4₀]
  clear hZ1 hZ2 hZ3 hZ4 hZ5 hZ6 z2 z4 kZ1 kZ2 kZ3 kZ4 kZ5 kZ6 e40 e4₀ tt stP k7P a5 a6 a7 a8 a9 a14 a15 a16 a17 a18
  have st0 := mm_f_st tk.1 st₀
  have kA0 := st0.1
  obtain ⟨a5, -⟩ := st0.2.1.1
  obtain ⟨a14, -⟩ := st0.2.2.1.1
  refine And.intro kA0 ?_
  (conv => whnf)
  refine And.intro (by rw [a5]; exact Nat.succ_ne_zero _) ?_
  (conv => whnf)
  refine And.intro kA0 ?_
  (conv => whnf)
  refine And.intro (by rw [a14]; exact Nat.succ_ne_zero _) ?_
  (conv => whnf)
  rw [a5, a14]
  refine Exists.intro _ (Exists.intro _ (And.intro (cX6_chg (j₀ := 0) hl st₀ (by decide) rfl tk) (And.intro ?_ (fun _ _ h₀ => h₀.elim))))
  rintro _ Y1 ⟨rfl, tk1⟩
  have st1₀ := mm_f_st tk1.1 st₀
  have kA1 := st1₀.1
  obtain ⟨a6, -⟩ := st1₀.2.1.2.1
  obtain ⟨a15, -⟩ := st1₀.2.2.1.2.1
  (conv => whnf)
  refine And.intro kA1 ?_
  (conv => whnf)
  refine And.intro (by rw [a6]; exact Nat.succ_ne_zero _) ?_
  (conv => whnf)
  refine And.intro kA1 ?_
  (conv => whnf)
  refine And.intro (by rw [a15]; exact Nat.succ_ne_zero _) ?_
  (conv => whnf)
  rw [a6, a15]
  refine Exists.intro _ (Exists.intro _ (And.intro (cX6_chg (j₀ := 1) hl st₀ (by decide) rfl tk1) (And.intro ?_ (fun _ _ h₀ => h₀.elim))))
  rintro _ Y2 ⟨rfl, tk2⟩
  have st2₀ := mm_f_st tk2.1 st₀
  have kA2 := st2₀.1
  obtain ⟨a7, -⟩ := st2₀.2.1.2.2.1
  obtain ⟨a16, -⟩ := st2₀.2.2.1.2.2.1
  (conv => whnf)
  refine And.intro kA2 ?_
  (conv => whnf)
  refine And.intro (by rw [a7]; exact Nat.succ_ne_zero _) ?_
  (conv => whnf)
  refine And.intro kA2 ?_
  (conv => whnf)
  refine And.intro (by rw [a16]; exact Nat.succ_ne_zero _) ?_
  (conv => whnf)
  rw [a7, a16]
  refine Exists.intro _ (Exists.intro _ (And.intro (cX6_chg (j₀ := 2) hl st₀ (by decide) rfl tk2) (And.intro ?_ (fun _ _ h₀ => h₀.elim))))
  rintro _ Y3 ⟨rfl, tk3⟩
  have st3₀ := mm_f_st tk3.1 st₀
  have kA3 := st3₀.1
  obtain ⟨a8, -⟩ := st3₀.2.1.2.2.2.1
  obtain ⟨a17, -⟩ := st3₀.2.2.1.2.2.2.1
  (conv => whnf)
  refine And.intro kA3 ?_
  (conv => whnf)
  refine And.intro (by rw [a8]; exact Nat.succ_ne_zero _) ?_
  (conv => whnf)
  refine And.intro kA3 ?_
  (conv => whnf)
  refine And.intro (by rw [a17]; exact Nat.succ_ne_zero _) ?_
  (conv => whnf)
  rw [a8, a17]
  refine Exists.intro _ (Exists.intro _ (And.intro (cX6_chg (j₀ := 3) hl st₀ (by decide) rfl tk3) (And.intro ?_ (fun _ _ h₀ => h₀.elim))))
  rintro _ Y4 ⟨rfl, tk4⟩
  have st4₀ := mm_f_st tk4.1 st₀
  have kA4 := st4₀.1
  obtain ⟨a9, -⟩ := st4₀.2.1.2.2.2.2
  obtain ⟨a18, -⟩ := st4₀.2.2.1.2.2.2.2
  (conv => whnf)
  refine And.intro kA4 ?_
  (conv => whnf)
  refine And.intro (by rw [a9]; exact Nat.succ_ne_zero _) ?_
  (conv => whnf)
  refine And.intro kA4 ?_
  (conv => whnf)
  refine And.intro (by rw [a18]; exact Nat.succ_ne_zero _) ?_
  (conv => whnf)
  rw [a9, a18]
  refine Exists.intro _ (Exists.intro _ (And.intro (cX6_chg (j₀ := 4) hl st₀ (by decide) rfl tk4) (And.intro ?_ (fun _ _ h₀ => h₀.elim))))
  rintro _ Y5 ⟨rfl, tk5⟩
  have st5₀ := mm_f_st tk5.1 st₀
  have kA5 := st5₀.1
  clear tk tk1 tk2 tk3 tk4 st0 st1₀ st2₀ st3₀ st4₀ kA0 kA1 kA2 kA3 kA4 a5 a6 a7 a8 a9 a14 a15 a16 a17 a18
  obtain ⟨f5₀, ⟨s0₀, s1₀, s2₀, s3₀, s11, s12, s13⟩, ar⟩ := tk5
  have A0 := fun k₀ (hk : k₀ < 120) => (ar 0 (by omega) k₀ hk).1 (by omega)
  have A1 := fun k₀ (hk : k₀ < 140) => (ar 1 (by omega) k₀ hk).1 (by omega)
  have A2 := fun k₀ (hk : k₀ < 140) => (ar 2 (by omega) k₀ hk).1 (by omega)
  have A3 := fun k₀ (hk : k₀ < 10) => (ar 3 (by omega) k₀ hk).1 (by omega)
  have A4 := fun k₀ (hk : k₀ < 12) => (ar 4 (by omega) k₀ hk).1 (by omega)
  have pr : mm_pre M Y5 m₀ (gi M m₀ 11) (gi M m₀ 12) (gi M m₀ 13) (fun p₀ q₀ => mi M (m₀ + 6) p₀ q₀) (fun k₀ => gi M (m₀ + 7) k₀.toNat) (fun k₀ => gi M (m₀ + 8) k₀.toNat) (fun k₀ => gi M (m₀ + 9) k₀.toNat) (fun k₀ => gi M (m₀ + 10) k₀.toNat) := by
    refine ⟨mm_f_mono f5₀ (fun b₀ k₀ z₀ => by omega), ⟨s0₀, s1₀, s2₀, s3₀⟩, ⟨⟨?_, s11, s12, s13⟩, fun k₀ hk => (A0 k₀ hk).2, fun k₀ hk => ⟨(A1 k₀ hk).2, (A2 k₀ hk).2⟩, fun k₀ hk => (A3 k₀ hk).2, fun k₀ hk => (A4 k₀ hk).2⟩, hb₀, ?_, ?_, ?_, ?_⟩
    · rw [mm_f_gi f5₀ m₀ 10 (by omega)]; exact h₀
    · intro r₀ c₀ hr
      have := hid₀ r₀ c₀ hr
      exact ⟨(A0 _ (by omega)).1, by dsimp only; omega⟩
    · intro r₀ c₀ hr
      have := hid₀ r₀ c₀ hr
      exact ⟨(A1 _ (by dsimp only; omega)).1, (A2 _ (by dsimp only; omega)).1⟩
    · intro k₀ h0 h1
      exact (A3 _ (by omega)).1
    · intro k₀ h0 h1
      exact (A4 _ (by omega)).1
  obtain ⟨y1, y2⟩ := mm_pre_rc pr
  clear A0 A1 A2 A3 A4 ar
  (repeat' (((conv => whnf); first | (show (_ : Option mg_V) = _ ∧ _; assumption) | (show K _ _ _ _ _; assumption) | refine And.intro (by first | assumption | omega | (simp only [true_and]; first | done | assumption | omega)) ?_ | (refine And.intro (fun _ => ?_) (fun _ => ?_) <;> first | (exfalso; omega) | skip) | intro _ | fail)))
  (conv => whnf)
  refine Exists.intro _ (Exists.intro _ (And.intro (cX6_settles hl st5₀ y1 y2) (And.intro ?_ (fun _ _ h₀ => h₀.elim))))
  rintro _ N2 ⟨rfl, hs⟩
  have nw := mm_pre_set pr hs
  have k72 : kd N2 m₀ = 7 := (nw.1.1 m₀).trans st₀.1
  clear pr hs
  (repeat' (((conv => whnf); first | (show (_ : Option mg_V) = _ ∧ _; assumption) | (show K _ _ _ _ _; assumption) | refine And.intro (by first | assumption | omega | (simp only [true_and]; first | done | assumption | omega)) ?_ | (refine And.intro (fun _ => ?_) (fun _ => ?_) <;> first | (exfalso; omega) | skip) | intro _ | fail)))
  (conv => whnf)
  refine Exists.intro _ (Exists.intro _ (And.intro (cX6_starts hl st₀ hb₀ nw t₀) (And.intro ?_ (fun _ _ h₀ => h₀.elim))))
  rintro _ N3 ⟨rfl, Q1₀, Q2₀⟩
  have k73 : kd N3 m₀ = 7 := (Q1₀.1.1 m₀).trans st₀.1
  have Q₀ := And.intro Q1₀ Q2₀
  by_cases e₀ : gi M m₀ 4 = gi N3 m₀ 4
  · have Q3 := And.intro (show some (Sum.inl 1 : mg_V) = some (.inl (if gi M m₀ 4 = gi N3 m₀ 4 then 1 else 0)) by rw [if_pos e₀]) Q₀
    (repeat' (((conv => whnf); first | (show (_ : Option mg_V) = _ ∧ _; assumption) | (show K _ _ _ _ _; assumption) | refine And.intro (by first | assumption | omega | (simp only [true_and]; first | done | assumption | omega)) ?_ | (refine And.intro (fun _ => ?_) (fun _ => ?_) <;> first | (exfalso; omega) | skip) | intro _ | fail)))
  · have Q3 := And.intro (show some (Sum.inl 0 : mg_V) = some (.inl (if gi M m₀ 4 = gi N3 m₀ 4 then 1 else 0)) by rw [if_neg e₀]) Q₀
    (repeat' (((conv => whnf); first | (show (_ : Option mg_V) = _ ∧ _; assumption) | (show K _ _ _ _ _; assumption) | refine And.intro (by first | assumption | omega | (simp only [true_and]; first | done | assumption | omega)) ?_ | (refine And.intro (fun _ => ?_) (fun _ => ?_) <;> first | (exfalso; omega) | skip) | intro _ | fail)))
