set_option maxRecDepth 100000 in
theorem cX6_setStyle1 {D : mg_D} {l : Launch} (hl : l.stackTraces = false) {M : mg_M} {m₀ : Nat} {x₀ : Int} (st₀ : mm_st M m₀) (h₀ : ¬ (0 ≤ x₀ ∧ x₀ ≤ 9)) : mg_Mt D l 165 [.inr (.inl m₀), .inl x₀] M (fun v₀ N => v₀ = some (.inl 0) ∧ N = si M m₀ 0 1) mg_no := by
  refine mg_of2 hl ok_X6_setStyle al_X6_setStyle rfl (fun K hK₀ => ?_)
  have k7₀ := st₀.1
  refine hK₀ _ _ _ _ _ ?_
  (repeat' (((conv => whnf); first | assumption | refine And.intro (by first | assumption | omega | (simp only [true_and]; first | done | assumption | omega)) ?_ | (refine And.intro (fun _ => ?_) (fun _ => ?_) <;> first | (exfalso; omega) | skip) | intro _ | fail)))
  all_goals (try ((conv => whnf); (refine Exists.intro _ (Exists.intro _ (And.intro (cX6_in hl) (And.intro ?_ (fun _ _ h₀ => h₀.elim)))); rintro _ _ ⟨rfl, e₀⟩; have e2₀ := e₀.symm; clear e₀; subst e2₀); (repeat' (((conv => whnf); first | assumption | refine And.intro (by first | assumption | omega | (simp only [true_and]; first | done | assumption | omega)) ?_ | (refine And.intro (fun _ => ?_) (fun _ => ?_) <;> first | (exfalso; omega) | skip) | intro _ | fail)))))
  all_goals (try ((conv => whnf); (refine Exists.intro _ (Exists.intro _ (And.intro (cX6_fails hl k7₀) (And.intro ?_ (fun _ _ h₀ => h₀.elim)))); rintro _ _ ⟨rfl, e₀⟩; have e2₀ := e₀.symm; clear e₀; subst e2₀); (repeat' (((conv => whnf); first | assumption | refine And.intro (by first | assumption | omega | (simp only [true_and]; first | done | assumption | omega)) ?_ | (refine And.intro (fun _ => ?_) (fun _ => ?_) <;> first | (exfalso; omega) | skip) | intro _ | fail)))))
  all_goals ((conv => whnf) <;> first | rfl | exact And.intro rfl rfl)
set_option maxRecDepth 100000 in
theorem cX6_setStyle0 {D : mg_D} {l : Launch} (hl : l.stackTraces = false) {M : mg_M} {m₀ : Nat} {x₀ : Int} {tp lf₀ hg wd : Int → Int} (st₀ : mm_st M m₀) (rc : mm_rc M m₀) (h4 : 0 ≤ gi M m₀ 4 ∧ gi M m₀ 4 ≤ 120) (hs : mm_si M m₀) (rt : mm_RT M m₀ tp lf₀ hg wd) (h₀ : 0 ≤ x₀ ∧ x₀ ≤ 9) : mg_Mt D l 165 [.inr (.inl m₀), .inl x₀] M (fun v₀ N => v₀ = some (.inl (mh_sum (fun k₀ => if mm_ch M m₀ tp lf₀ hg wd k₀ ∧ gi M (m₀ + 3) k₀ ≠ x₀ then 1 else 0) (gi M m₀ 4).toNat)) ∧ ∃ P, mm_kk M P m₀ ∧ mm_f (fun b₀ _ => b₀ = m₀ + 3) P N ∧ ∀ j₀ : Nat, gi N (m₀ + 3) j₀ = if (j₀ : Int) < gi M m₀ 4 ∧ mm_ch M m₀ tp lf₀ hg wd j₀ then x₀ else gi M (m₀ + 3) j₀) mg_no := by
  refine mg_of2 hl ok_X6_setStyle al_X6_setStyle rfl (fun K hK₀ => ?_)
  have k7₀ := st₀.1
  obtain ⟨a7, b7, c7₀⟩ := st₀.2.1.2.2.1
  have F₀ : ∀ P, mm_kk M P m₀ → K 32 [(0, Sum.inr (Sum.inl m₀)), (1, Sum.inl x₀), (2, Sum.inl 0), (3, Sum.inl 0)] [] P 0 := by
    intro P kk
    have f₀ := kk.1
    have stP := mm_f_st f₀ st₀
    refine mh_for (P := fun k₀ (y₀ : Int × mg_M) => mm_f (fun b₀ _ => b₀ = m₀ + 3) P y₀.2 ∧ y₀.1 = mh_sum (fun k₀ => if mm_ch M m₀ tp lf₀ hg wd k₀ ∧ gi M (m₀ + 3) k₀ ≠ x₀ then 1 else 0) k₀.toNat ∧ ∀ j₀ : Nat, gi y₀.2 (m₀ + 3) j₀ = if (j₀ : Int) < k₀ ∧ mm_ch M m₀ tp lf₀ hg wd j₀ then x₀ else gi M (m₀ + 3) j₀) (G := fun k₀ y₀ => K 32 [(0, Sum.inr (Sum.inl m₀)), (1, Sum.inl x₀), (2, Sum.inl y₀.1), (3, Sum.inl k₀)] [] y₀.2 0) (lo := 0) (hi := gi M m₀ 4) (by omega) ?_ ?_ (0, P) ⟨mm_f_rfl, rfl, fun j₀ => by rw [if_neg (by omega)]; exact mm_f_gi f₀ (m₀ + 3) j₀ (by omega)⟩
    · rintro ⟨y₀, N⟩ ⟨g₀, v₀, w₀⟩
      dsimp only at g₀ v₀ w₀ ⊢
      have k7N := (mm_f_st g₀ stP).1
      have t4₀ : gi N m₀ 4 = gi M m₀ 4 := (mm_f_gi g₀ m₀ 4 (by omega)).trans (mm_f_gi f₀ m₀ 4 (by omega))
      have Q₀ : some (Sum.inl y₀ : mg_V) = some (.inl (mh_sum (fun k₀ => if mm_ch M m₀ tp lf₀ hg wd k₀ ∧ gi M (m₀ + 3) k₀ ≠ x₀ then 1 else 0) (gi M m₀ 4).toNat)) ∧ ∃ P, mm_kk M P m₀ ∧ mm_f (fun b₀ _ => b₀ = m₀ + 3) P N ∧ ∀ j₀ : Nat, gi N (m₀ + 3) j₀ = if (j₀ : Int) < gi M m₀ 4 ∧ mm_ch M m₀ tp lf₀ hg wd j₀ then x₀ else gi M (m₀ + 3) j₀ := ⟨by rw [v₀], P, kk, g₀, w₀⟩
      clear v₀ w₀
      refine hK₀ _ _ _ _ _ ?_
      (repeat' (((conv => whnf); first | assumption | refine And.intro (by first | assumption | omega | (simp only [true_and, a7, b7, c7₀]; first | done | assumption | omega)) ?_ | (refine And.intro (fun _ => ?_) (fun _ => ?_) <;> first | (exfalso; omega) | skip) | intro _ | fail)))
    · rintro k₀ ⟨y₀, N⟩ k0₀ k1₀ ⟨g₀, v₀, w₀⟩ nex
      dsimp only at g₀ v₀ w₀ nex ⊢
      have fN₀ : mm_f (fun b₀ k₀ => mm_sM m₀ b₀ k₀ ∨ b₀ = m₀ + 3) M N := mm_f_tr (mm_f_mono f₀ (fun b₀ k₀ z₀ => Or.inl z₀)) (mm_f_mono g₀ (fun b₀ k₀ z₀ => Or.inr z₀))
      have stN₀ := mm_f_st g₀ stP
      have k7N := stN₀.1
      have rcN₀ := mm_rc_f fN₀ (by omega) (by omega) rc
      have t1₀ := mm_f_gi fN₀ m₀ 1 (by omega)
      have t2₀ := mm_f_gi fN₀ m₀ 2 (by omega)
      have t4₀ := mm_f_gi fN₀ m₀ 4 (by omega)
      have t21 := mm_f_gi fN₀ m₀ 21 (by omega)
      have t22 := mm_f_gi fN₀ m₀ 22 (by omega)
      have t23 := mm_f_gi fN₀ m₀ 23 (by omega)
      have t24 := mm_f_gi fN₀ m₀ 24 (by omega)
      have hr := mm_rect_f t1₀ t2₀ (fun j₀ => mm_f_gi fN₀ (m₀ + 1) j₀ (by omega)) (rt k₀ k0₀ k1₀)
      obtain ⟨a7, b7, c7₀⟩ := stN₀.2.1.2.2.1
      have b₀ := mh_suml (fun k₀ : Nat => if mm_ch M m₀ tp lf₀ hg wd k₀ ∧ gi M (m₀ + 3) k₀ ≠ x₀ then (1 : Int) else 0) 1 k₀.toNat (fun i₀ _ => by (try dsimp only); split <;> omega)
      rw [← v₀] at b₀
      have e₀ := mh_sumI (g₀ := fun k₀ : Nat => if mm_ch M m₀ tp lf₀ hg wd k₀ ∧ gi M (m₀ + 3) k₀ ≠ x₀ then (1 : Int) else 0) k0₀
      have e2₀ : ((k₀.toNat : Nat) : Int) = k₀ := by omega
      rw [← v₀] at e₀
      try dsimp only at e₀
      rw [e2₀] at e₀
      have w0₀ := w₀ k₀.toNat
      rw [if_neg (by omega)] at w0₀
      have w1₀ : gi N (gr N m₀ 7) k₀.toNat = gi M (m₀ + 3) k₀.toNat := by rw [a7]; exact w0₀
      have nexA : ∀ z₀, mm_ch M m₀ tp lf₀ hg wd k₀ → z₀ = y₀ + (if gi M (m₀ + 3) k₀.toNat ≠ x₀ then (1 : Int) else 0) → K 32 [(0, Sum.inr (Sum.inl m₀)), (1, Sum.inl x₀), (2, Sum.inl z₀), (3, Sum.inl (k₀ + 1))] [] (si N (m₀ + 3) k₀.toNat x₀) 0 := by
        intro z₀ hc₀ hz
        refine nex (z₀, si N (m₀ + 3) k₀.toNat x₀) ⟨mm_f_si g₀ rfl, ?_, fun j₀ => ?_⟩
        · dsimp only
          rw [e₀, hz]
          congr 1
          by_cases q₀ : gi M (m₀ + 3) k₀.toNat = x₀
          · rw [if_neg (fun z₀ => z₀ q₀), if_neg (fun z₀ => z₀.2 q₀)]
          · rw [if_pos q₀, if_pos ⟨hc₀, q₀⟩]
        · dsimp only
          rw [gi_si]
          by_cases q₀ : j₀ = k₀.toNat
          · have e3₀ : (j₀ : Int) = k₀ := by omega
            rw [if_pos ⟨rfl, q₀⟩, if_pos ⟨by omega, by rw [e3₀]; exact hc₀⟩]
          · rw [if_neg (by omega), w₀ j₀]
            have e₀ : ((j₀ : Int) < k₀ + 1) ↔ ((j₀ : Int) < k₀) := by omega
            simp only [e₀]
      have nexB : ¬ mm_ch M m₀ tp lf₀ hg wd k₀ → K 32 [(0, Sum.inr (Sum.inl m₀)), (1, Sum.inl x₀), (2, Sum.inl y₀), (3, Sum.inl (k₀ + 1))] [] N 0 := by
        intro hc₀
        refine nex (y₀, N) ⟨g₀, ?_, fun j₀ => ?_⟩
        · dsimp only
          rw [e₀, if_neg (fun z₀ => hc₀ z₀.1), Int.add_zero]
        · dsimp only
          rw [w₀ j₀]
          by_cases q₀ : j₀ = k₀.toNat
          · have e3₀ : (j₀ : Int) = k₀ := by omega
            rw [if_neg (by omega), if_neg (fun z₀ => hc₀ (by rw [← e3₀]; exact z₀.2))]
          · have e₀ : ((j₀ : Int) < k₀ + 1) ↔ ((j₀ : Int) < k₀) := by omega
            simp only [e₀]
      clear nex e₀ w₀ v₀ w0₀ rt
      refine hK₀ _ _ _ _ _ ?_
      (repeat' (((conv => whnf); first | assumption | refine And.intro (by first | assumption | omega | (simp only [true_and, a7, b7, c7₀]; first | done | assumption | omega)) ?_ | (refine And.intro (fun _ => ?_) (fun _ => ?_) <;> first | (exfalso; omega) | skip) | intro _ | fail)))
      all_goals (try ((conv => whnf); (refine Exists.intro _ (Exists.intro _ (And.intro (cX6_isChosen hl stN₀ rcN₀ hr (by omega) (by omega)) (And.intro ?_ (fun _ _ h₀ => h₀.elim)))); rintro _ _ ⟨rfl, e₀⟩; have e2₀ := e₀.symm; clear e₀; subst e2₀); (repeat' (((conv => whnf); first | assumption | refine And.intro (by first | assumption | omega | (simp only [true_and, a7, b7, c7₀]; first | done | assumption | omega)) ?_ | (refine And.intro (fun _ => ?_) (fun _ => ?_) <;> first | (exfalso; omega) | skip) | intro _ | fail)))))
      all_goals ((conv => whnf); first | exact nexB (by omega) | (rw [a7]; exact nexA _ (by omega) (by split <;> omega)) | skip)
  refine hK₀ _ _ _ _ _ ?_
  (repeat' (((conv => whnf); first | assumption | refine And.intro (by first | assumption | omega | (simp only [true_and, a7, b7, c7₀]; first | done | assumption | omega)) ?_ | (refine And.intro (fun _ => ?_) (fun _ => ?_) <;> first | (exfalso; omega) | skip) | intro _ | fail)))
  all_goals (try ((conv => whnf); (refine Exists.intro _ (Exists.intro _ (And.intro (cX6_in hl) (And.intro ?_ (fun _ _ h₀ => h₀.elim)))); rintro _ _ ⟨rfl, e₀⟩; have e2₀ := e₀.symm; clear e₀; subst e2₀); (repeat' (((conv => whnf); first | assumption | refine And.intro (by first | assumption | omega | (simp only [true_and, a7, b7, c7₀]; first | done | assumption | omega)) ?_ | (refine And.intro (fun _ => ?_) (fun _ => ?_) <;> first | (exfalso; omega) | skip) | intro _ | fail)))))
  all_goals (try ((conv => whnf); (refine Exists.intro _ (Exists.intro _ (And.intro (cX6_fails hl k7₀) (And.intro ?_ (fun _ _ h₀ => h₀.elim)))); rintro _ _ ⟨rfl, e₀⟩; have e2₀ := e₀.symm; clear e₀; subst e2₀); (repeat' (((conv => whnf); first | assumption | refine And.intro (by first | assumption | omega | (simp only [true_and, a7, b7, c7₀]; first | done | assumption | omega)) ?_ | (refine And.intro (fun _ => ?_) (fun _ => ?_) <;> first | (exfalso; omega) | skip) | intro _ | fail)))))
  (conv => whnf)
  refine Exists.intro _ (Exists.intro _ (And.intro (cX6_keeps0 hl st₀) (And.intro ?_ (fun _ _ h₀ => h₀.elim))))
  rintro _ P ⟨rfl, kk⟩
  have w₀ := F₀ P kk
  (repeat' (((conv => whnf); first | assumption | refine And.intro (by first | assumption | omega | (simp only [true_and, a7, b7, c7₀]; first | done | assumption | omega)) ?_ | (refine And.intro (fun _ => ?_) (fun _ => ?_) <;> first | (exfalso; omega) | skip) | intro _ | fail)))
set_option maxRecDepth 100000 in
theorem cX6_clear1 {D : mg_D} {l : Launch} (hl : l.stackTraces = false) {M : mg_M} {m₀ : Nat} {tp lf₀ hg wd : Int → Int} (st₀ : mm_st M m₀) (rc : mm_rc M m₀) (h4 : 0 ≤ gi M m₀ 4 ∧ gi M m₀ 4 ≤ 120) (hs : mm_si M m₀) (rt : mm_RT M m₀ tp lf₀ hg wd) (h₀ : mh_sum (fun k₀ => if mm_ch M m₀ tp lf₀ hg wd k₀ ∧ 0 < gi M (m₀ + 2) k₀ then 1 else 0) (gi M m₀ 4).toNat = 0) : mg_Mt D l 180 [.inr (.inl m₀)] M (fun v₀ N => v₀ = some (.inl 0) ∧ N = si M m₀ 0 1) mg_no := by
  refine mg_of2 hl ok_X6_clear al_X6_clear rfl (fun K hK₀ => ?_)
  have k7₀ := st₀.1
  have fl₀ := cX6_filled (D := D) hl st₀ rc h4 hs rt
  rw [h₀] at fl₀
  refine hK₀ _ _ _ _ _ ?_
  (repeat' (((conv => whnf); first | assumption | refine And.intro (by first | assumption | omega | (simp only [true_and]; first | done | assumption | omega)) ?_ | (refine And.intro (fun _ => ?_) (fun _ => ?_) <;> first | (exfalso; omega) | skip) | intro _ | fail)))
  all_goals (try ((conv => whnf); (refine Exists.intro _ (Exists.intro _ (And.intro (fl₀) (And.intro ?_ (fun _ _ h₀ => h₀.elim)))); rintro _ _ ⟨rfl, e₀⟩; have e2₀ := e₀.symm; clear e₀; subst e2₀); (repeat' (((conv => whnf); first | assumption | refine And.intro (by first | assumption | omega | (simp only [true_and]; first | done | assumption | omega)) ?_ | (refine And.intro (fun _ => ?_) (fun _ => ?_) <;> first | (exfalso; omega) | skip) | intro _ | fail)))))
  all_goals (try ((conv => whnf); (refine Exists.intro _ (Exists.intro _ (And.intro (cX6_fails hl k7₀) (And.intro ?_ (fun _ _ h₀ => h₀.elim)))); rintro _ _ ⟨rfl, e₀⟩; have e2₀ := e₀.symm; clear e₀; subst e2₀); (repeat' (((conv => whnf); first | assumption | refine And.intro (by first | assumption | omega | (simp only [true_and]; first | done | assumption | omega)) ?_ | (refine And.intro (fun _ => ?_) (fun _ => ?_) <;> first | (exfalso; omega) | skip) | intro _ | fail)))))
  all_goals ((conv => whnf) <;> first | rfl | exact And.intro rfl rfl)
set_option maxRecDepth 100000 in
theorem cX6_clear0 {D : mg_D} {l : Launch} (hl : l.stackTraces = false) {M : mg_M} {m₀ : Nat} {tp lf₀ hg wd : Int → Int} (st₀ : mm_st M m₀) (rc : mm_rc M m₀) (h4 : 0 ≤ gi M m₀ 4 ∧ gi M m₀ 4 ≤ 120) (hs : mm_si M m₀) (rt : mm_RT M m₀ tp lf₀ hg wd) (h₀ : mh_sum (fun k₀ => if mm_ch M m₀ tp lf₀ hg wd k₀ ∧ 0 < gi M (m₀ + 2) k₀ then 1 else 0) (gi M m₀ 4).toNat ≠ 0) : mg_Mt D l 180 [.inr (.inl m₀)] M (fun v₀ N => v₀ = some (.inl (mh_sum (fun k₀ => if mm_ch M m₀ tp lf₀ hg wd k₀ ∧ 0 < gi M (m₀ + 2) k₀ then 1 else 0) (gi M m₀ 4).toNat)) ∧ ∃ P, mm_kk M P m₀ ∧ mm_f (fun b₀ _ => b₀ = m₀ + 2) P N ∧ ∀ j₀ : Nat, gi N (m₀ + 2) j₀ = if (j₀ : Int) < gi M m₀ 4 ∧ mm_ch M m₀ tp lf₀ hg wd j₀ then 0 else gi M (m₀ + 2) j₀) mg_no := by
  refine mg_of2 hl ok_X6_clear al_X6_clear rfl (fun K hK₀ => ?_)
  have k7₀ := st₀.1
  obtain ⟨a7, b7, c7₀⟩ := st₀.2.1.2.1
  have fl₀ := cX6_filled (D := D) hl st₀ rc h4 hs rt
  generalize mh_sum (fun k₀ => if mm_ch M m₀ tp lf₀ hg wd k₀ ∧ 0 < gi M (m₀ + 2) k₀ then 1 else 0) (gi M m₀ 4).toNat = s₀ at *
  have F₀ : ∀ P, mm_kk M P m₀ → K 29 [(0, Sum.inr (Sum.inl m₀)), (1, Sum.inl s₀), (2, Sum.inl 0)] [] P 0 := by
    intro P kk
    have f₀ := kk.1
    have stP := mm_f_st f₀ st₀
    refine mh_for (P := fun k₀ N => mm_f (fun b₀ _ => b₀ = m₀ + 2) P N ∧ ∀ j₀ : Nat, gi N (m₀ + 2) j₀ = if (j₀ : Int) < k₀ ∧ mm_ch M m₀ tp lf₀ hg wd j₀ then 0 else gi M (m₀ + 2) j₀) (G := fun k₀ N => K 29 [(0, Sum.inr (Sum.inl m₀)), (1, Sum.inl s₀), (2, Sum.inl k₀)] [] N 0) (lo := 0) (hi := gi M m₀ 4) (by omega) ?_ ?_ P ⟨mm_f_rfl, fun j₀ => by rw [if_neg (by omega)]; exact mm_f_gi f₀ (m₀ + 2) j₀ (by omega)⟩
    · rintro N ⟨g₀, w₀⟩
      have k7N := (mm_f_st g₀ stP).1
      have t4₀ : gi N m₀ 4 = gi M m₀ 4 := (mm_f_gi g₀ m₀ 4 (by omega)).trans (mm_f_gi f₀ m₀ 4 (by omega))
      have Q₀ : ∃ P, mm_kk M P m₀ ∧ mm_f (fun b₀ _ => b₀ = m₀ + 2) P N ∧ ∀ j₀ : Nat, gi N (m₀ + 2) j₀ = if (j₀ : Int) < gi M m₀ 4 ∧ mm_ch M m₀ tp lf₀ hg wd j₀ then 0 else gi M (m₀ + 2) j₀ := ⟨P, kk, g₀, w₀⟩
      have Q2₀ : some (Sum.inl s₀ : mg_V) = some (Sum.inl s₀) ∧ _ := ⟨rfl, Q₀⟩
      clear w₀
      refine hK₀ _ _ _ _ _ ?_
      (repeat' (((conv => whnf); first | assumption | refine And.intro (by first | assumption | omega | (simp only [true_and, a7, b7, c7₀]; first | done | assumption | omega)) ?_ | (refine And.intro (fun _ => ?_) (fun _ => ?_) <;> first | (exfalso; omega) | skip) | intro _ | fail)))
    · rintro k₀ N k0₀ k1₀ ⟨g₀, w₀⟩ nex
      have fN₀ : mm_f (fun b₀ k₀ => mm_sM m₀ b₀ k₀ ∨ b₀ = m₀ + 2) M N := mm_f_tr (mm_f_mono f₀ (fun b₀ k₀ z₀ => Or.inl z₀)) (mm_f_mono g₀ (fun b₀ k₀ z₀ => Or.inr z₀))
      have stN₀ := mm_f_st g₀ stP
      have k7N := stN₀.1
      have rcN₀ := mm_rc_f fN₀ (by omega) (by omega) rc
      have t1₀ := mm_f_gi fN₀ m₀ 1 (by omega)
      have t2₀ := mm_f_gi fN₀ m₀ 2 (by omega)
      have t4₀ := mm_f_gi fN₀ m₀ 4 (by omega)
      have t21 := mm_f_gi fN₀ m₀ 21 (by omega)
      have t22 := mm_f_gi fN₀ m₀ 22 (by omega)
      have t23 := mm_f_gi fN₀ m₀ 23 (by omega)
      have t24 := mm_f_gi fN₀ m₀ 24 (by omega)
      have hr := mm_rect_f t1₀ t2₀ (fun j₀ => mm_f_gi fN₀ (m₀ + 1) j₀ (by omega)) (rt k₀ k0₀ k1₀)
      obtain ⟨a7, b7, c7₀⟩ := stN₀.2.1.2.1
      have w0₀ := w₀ k₀.toNat
      rw [if_neg (by omega)] at w0₀
      have w1₀ : gi N (gr N m₀ 6) k₀.toNat = gi M (m₀ + 2) k₀.toNat := by rw [a7]; exact w0₀
      have nexA : ∀ z₀, z₀ = (if mm_ch M m₀ tp lf₀ hg wd k₀ then 0 else gi M (m₀ + 2) k₀.toNat) → K 29 [(0, Sum.inr (Sum.inl m₀)), (1, Sum.inl s₀), (2, Sum.inl (k₀ + 1))] [] (si N (m₀ + 2) k₀.toNat z₀) 0 := by
        intro z₀ hz
        refine nex _ ⟨mm_f_si g₀ rfl, fun j₀ => ?_⟩
        rw [gi_si]
        by_cases q₀ : j₀ = k₀.toNat
        · have e3₀ : (j₀ : Int) = k₀ := by omega
          rw [if_pos ⟨rfl, q₀⟩, hz, e3₀, q₀]
          have e₀ : (k₀ < k₀ + 1 ∧ mm_ch M m₀ tp lf₀ hg wd k₀) ↔ mm_ch M m₀ tp lf₀ hg wd k₀ := ⟨fun z₀ => z₀.2, fun z₀ => ⟨by omega, z₀⟩⟩
          simp only [e₀]
        · rw [if_neg (by omega), w₀ j₀]
          have e₀ : ((j₀ : Int) < k₀ + 1) ↔ ((j₀ : Int) < k₀) := by omega
          simp only [e₀]
      clear nex w₀ rt
      refine hK₀ _ _ _ _ _ ?_
      (repeat' (((conv => whnf); first | assumption | refine And.intro (by first | assumption | omega | (simp only [true_and, a7, b7, c7₀]; first | done | assumption | omega)) ?_ | (refine And.intro (fun _ => ?_) (fun _ => ?_) <;> first | (exfalso; omega) | skip) | intro _ | fail)))
      all_goals (try ((conv => whnf); (refine Exists.intro _ (Exists.intro _ (And.intro (cX6_isChosen hl stN₀ rcN₀ hr (by omega) (by omega)) (And.intro ?_ (fun _ _ h₀ => h₀.elim)))); rintro _ _ ⟨rfl, e₀⟩; have e2₀ := e₀.symm; clear e₀; subst e2₀); (repeat' (((conv => whnf); first | assumption | refine And.intro (by first | assumption | omega | (simp only [true_and, a7, b7, c7₀]; first | done | assumption | omega)) ?_ | (refine And.intro (fun _ => ?_) (fun _ => ?_) <;> first | (exfalso; omega) | skip) | intro _ | fail)))))
      all_goals ((conv => whnf); rw [a7]; refine nexA _ ?_; split <;> first | rfl | omega)
  refine hK₀ _ _ _ _ _ ?_
  (repeat' (((conv => whnf); first | assumption | refine And.intro (by first | assumption | omega | (simp only [true_and, a7, b7, c7₀]; first | done | assumption | omega)) ?_ | (refine And.intro (fun _ => ?_) (fun _ => ?_) <;> first | (exfalso; omega) | skip) | intro _ | fail)))
  all_goals (try ((conv => whnf); (refine Exists.intro _ (Exists.intro _ (And.intro (fl₀) (And.intro ?_ (fun _ _ h₀ => h₀.elim)))); rintro _ _ ⟨rfl, e₀⟩; have e2₀ := e₀.symm; clear e₀; subst e2₀); (repeat' (((conv => whnf); first | assumption | refine And.intro (by first | assumption | omega | (simp only [true_and, a7, b7, c7₀]; first | done | assumption | omega)) ?_ | (refine And.intro (fun _ => ?_) (fun _ => ?_) <;> first | (exfalso; omega) | skip) | intro _ | fail)))))
  all_goals (try ((conv => whnf); (refine Exists.intro _ (Exists.intro _ (And.intro (cX6_fails hl k7₀) (And.intro ?_ (fun _ _ h₀ => h₀.elim)))); rintro _ _ ⟨rfl, e₀⟩; have e2₀ := e₀.symm; clear e₀; subst e2₀); (repeat' (((conv => whnf); first | assumption | refine And.intro (by first | assumption | omega | (simp only [true_and, a7, b7, c7₀]; first | done | assumption | omega)) ?_ | (refine And.intro (fun _ => ?_) (fun _ => ?_) <;> first | (exfalso; omega) | skip) | intro _ | fail)))))
  (conv => whnf)
  refine Exists.intro _ (Exists.intro _ (And.intro (cX6_keeps0 hl st₀) (And.intro ?_ (fun _ _ h₀ => h₀.elim))))
  rintro _ P ⟨rfl, kk⟩
  have w₀ := F₀ P kk
  (repeat' (((conv => whnf); first | assumption | refine And.intro (by first | assumption | omega | (simp only [true_and, a7, b7, c7₀]; first | done | assumption | omega)) ?_ | (refine And.intro (fun _ => ?_) (fun _ => ?_) <;> first | (exfalso; omega) | skip) | intro _ | fail)))
