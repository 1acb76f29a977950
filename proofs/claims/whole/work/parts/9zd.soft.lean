/-! changes₀ of single values₀ -/
def mh_sft (t₀ : Nat) : Nat → Nat → Prop := fun a₀ k₀ => ((t₀ + 6 ≤ a₀ ∧ a₀ < t₀ + 126) ∧ (k₀ = 4 ∨ k₀ = 5)) ∨ a₀ = t₀ + 1 ∨ a₀ = t₀ + 2 ∨ (a₀ = t₀ ∧ k₀ = 2)
theorem mh_soft {N P : mg_M} {t₀ : Nat} (f₀ : mm_f (mh_sft t₀) N P) (tl : mh_tl N t₀) (nb : mh_nb N t₀) (h2 : 0 ≤ gi P t₀ 2 ∧ gi P t₀ 2 ≤ 12) : (mh_tl P t₀ ∧ mh_nb P t₀) ∧ mh_at P t₀ = mh_at N t₀ ∧ mh_co P t₀ = mh_co N t₀ ∧ mh_cc P t₀ = mh_cc N t₀ ∧ gi P t₀ 0 = gi N t₀ 0 ∧ gi P t₀ 1 = gi N t₀ 1 ∧ gi P (t₀ + 3) 0 = gi N (t₀ + 3) 0 := by
  have cl₀ := tl.2.1
  have z₀ := cl₀.2.2.2.2.2.2.1
  have ca := cl₀.2.2.2.2.2.2.2.1
  have s0₀ : gi P t₀ 0 = gi N t₀ 0 := mm_f_gi f₀ t₀ 0 (by unfold mh_sft; omega)
  have s1₀ : gi P t₀ 1 = gi N t₀ 1 := mm_f_gi f₀ t₀ 1 (by unfold mh_sft; omega)
  have s3₀ : gi P (t₀ + 3) 0 = gi N (t₀ + 3) 0 := mm_f_gi f₀ (t₀ + 3) 0 (by unfold mh_sft; omega)
  have rr := f₀.2.2.1
  have ea : mh_at P t₀ = mh_at N t₀ := by
    funext p₀ q₀
    exact mm_f_gi f₀ (t₀ + 126) _ (by unfold mh_sft; omega)
  have ec : mh_co P t₀ = mh_co N t₀ := by
    funext p₀ q₀
    unfold mh_co mh_ow
    have e9₀ : ∀ k₀, gi P (t₀ + 126) k₀ = gi N (t₀ + 126) k₀ := fun k₀ => mm_f_gi f₀ (t₀ + 126) k₀ (by unfold mh_sft; omega)
    simp only [s0₀, s1₀, e9₀, rr]
  have cell₀ : ∀ i₀ : Nat, i₀ < 120 → ∀ k₀, k₀ < 4 → gi P (gr N (t₀ + 3 + 1) i₀) k₀ = gi N (gr N (t₀ + 3 + 1) i₀) k₀ := fun i₀ hi k₀ hk => by
    have := ca i₀ hi
    exact mm_f_gi f₀ _ k₀ (by unfold mh_sft; omega)
  have cvs : ∀ i₀ : Nat, i₀ < 120 → ∀ p₀ q₀, mh_cv P t₀ i₀ p₀ q₀ ↔ mh_cv N t₀ i₀ p₀ q₀ := by
    intro i₀ hi p₀ q₀
    unfold mh_cv
    rw [rr, cell₀ i₀ hi 0 (by omega), cell₀ i₀ hi 1 (by omega), cell₀ i₀ hi 2 (by omega), cell₀ i₀ hi 3 (by omega)]
  have tb₀ := tl.1
  have tbP : mg_tb P t₀ := by
    have kk := f₀.1
    have ll := f₀.2.1
    unfold mg_tb at *
    simp only [kk, ll, rr, s0₀, s1₀]
    exact ⟨tb₀.1, tb₀.2.1, by omega⟩
  refine ⟨⟨⟨tbP, mh_fr_cL cl₀ f₀.1 f₀.2.1 f₀.2.2.1 s3₀, fun i₀ hi => ?_, fun i₀ hi p₀ q₀ w₀ => ?_, fun p₀ q₀ a1₀ a2 a3 a4 => ?_⟩, fun p₀ q₀ a1₀ a2 a3 a4 => ?_⟩, ea, ec, ?_, s0₀, s1₀, s3₀⟩
  · have o := tl.2.2.1 i₀ (by omega)
    unfold mh_ok at *
    rw [rr, cell₀ i₀ (by omega) 0 (by omega), cell₀ i₀ (by omega) 1 (by omega), cell₀ i₀ (by omega) 2 (by omega), cell₀ i₀ (by omega) 3 (by omega), s0₀, s1₀]
    exact o
  · rw [ea]
    exact tl.2.2.2.1 i₀ (by omega) p₀ q₀ ((cvs i₀ (by omega) p₀ q₀).1 w₀)
  · rw [ea]
    refine (tl.2.2.2.2 p₀ q₀ a1₀ (by omega) a3 (by omega)).imp id ?_
    rintro ⟨i₀, hi, w₀⟩
    exact ⟨i₀, by omega, (cvs i₀ (by omega) p₀ q₀).2 w₀⟩
  · rw [ea]
    exact nb p₀ q₀ a1₀ (by omega) a3 (by omega)
  · funext f' e' a₀ d₀
    unfold mh_cc
    refine propext ⟨fun w₀ i₀ hi => ?_, fun w₀ i₀ hi => ?_⟩
    · have := w₀ i₀ (by omega)
      rw [rr, cell₀ i₀ (by omega) 0 (by omega), cell₀ i₀ (by omega) 1 (by omega), cell₀ i₀ (by omega) 2 (by omega), cell₀ i₀ (by omega) 3 (by omega)] at this
      exact this
    · rw [rr, cell₀ i₀ (by omega) 0 (by omega), cell₀ i₀ (by omega) 1 (by omega), cell₀ i₀ (by omega) 2 (by omega), cell₀ i₀ (by omega) 3 (by omega)]
      exact w₀ i₀ (by omega)
theorem mh_UPK {M N P Q₀ : mg_M} {g₀ m₀ t₀ u₀ o : Nat} {z₀ : Int} {S : Nat → Nat → Prop} (I₀ : mh_INV M g₀ m₀ t₀ u₀) (r₀ : mh_rmb M N g₀ t₀ u₀) (f₀ : mm_f (mh_sft t₀) N P) (h2 : 0 ≤ gi P t₀ 2 ∧ gi P t₀ 2 ≤ gi M t₀ 0) (V9 : mh_V P t₀) (fQ : mm_f S (sl P o 0 z₀) Q₀) (hS₀ : ∀ a₀ k₀, S a₀ k₀ → (a₀ = m₀ ∧ (k₀ = 0 ∨ k₀ = 3 ∨ (10 ≤ k₀ ∧ k₀ ≤ 13))) ∨ (m₀ + 2 ≤ a₀ ∧ a₀ ≤ m₀ + 10)) (q0 : gi Q₀ m₀ 0 = 0) (q3₀ : gi Q₀ m₀ 3 = gi P t₀ 2) (kt : mm_kt (sl P o 0 z₀) Q₀ m₀) (hc₀ : ∀ p₀ q₀, mh_rg (gi M t₀ 0) (gi M t₀ 1) p₀ q₀ → gi Q₀ (m₀ + 2) (mi M (m₀ + 1) p₀ q₀).toNat = gi P (mh_co M t₀ p₀ q₀) 4 ∧ gi Q₀ (m₀ + 3) (mi M (m₀ + 1) p₀ q₀).toNat = gi P (mh_co M t₀ p₀ q₀) 5) (hw : ∀ k₀, 0 ≤ k₀ → k₀ < gi M t₀ 1 → gi Q₀ (m₀ + 4) k₀.toNat = gi P (t₀ + 2) k₀.toNat) (hh : ∀ k₀, 0 ≤ k₀ → k₀ < gi M t₀ 0 → gi Q₀ (m₀ + 5) k₀.toNat = gi P (t₀ + 1) k₀.toNat) : gi Q₀ m₀ 0 = 0 ∧ mh_far (sl P o 0 z₀) Q₀ g₀ ∧ ∃ t₀ u₀, mh_INV Q₀ g₀ m₀ t₀ u₀ := by
  have pm := I₀.2.2.1.2
  have pl := I₀.1.2.2.1
  obtain ⟨K1, E1₀, FR, h21⟩ := mh_rmb_K I₀.1 r₀
  have bI := I₀.1.2.2.2.1.1.1.2.2
  obtain ⟨⟨tlP, nbP⟩, ea, ec, ecc, s0₀, s1₀, s3₀⟩ := mh_soft f₀ K1.2.2.2.1.1 K1.2.2.2.1.2 (by omega)
  have v0₀ := (E1₀ t₀ (by omega) (by omega)).2.2.2
  rw [mh_eq_at E1₀] at ea
  rw [mh_eq_co E1₀] at ec
  rw [mh_cc_eq E1₀ I₀.1.2.2.2.1.1.2.1] at ecc
  rw [v0₀] at s0₀ s1₀
  have cm : ∀ a₀ k₀, m₀ ≤ a₀ → a₀ < m₀ + 18 → gi P a₀ k₀ = gi M a₀ k₀ := fun a₀ k₀ h1 h2 => (mm_f_gi f₀ a₀ k₀ (by unfold mh_sft; omega)).trans (mm_f_gi FR a₀ k₀ (by omega))
  have f1₀ : ∀ a₀, kd Q₀ a₀ = kd P a₀ := fQ.1
  have f2₀ : ∀ a₀, ln Q₀ a₀ = ln P a₀ := fQ.2.1
  have f3₀ : ∀ a₀ k₀, gr Q₀ a₀ k₀ = gr P a₀ k₀ := fQ.2.2.1
  have f4₀ : ∀ a₀ k₀, ¬ S a₀ k₀ → gi Q₀ a₀ k₀ = gi P a₀ k₀ := fun a₀ k₀ h₀ => (fQ.2.2.2.2.2.2 a₀ k₀).resolve_left h₀
  have f5₀ : ∀ a₀ k₀, (a₀ < m₀ ∨ m₀ + 18 ≤ a₀) → gi Q₀ a₀ k₀ = gi P a₀ k₀ := fun a₀ k₀ h₀ => f4₀ a₀ k₀ (fun s₀ => by have := hS₀ a₀ k₀ s₀; omega)
  have e₀ : mh_eq P Q₀ t₀ := fun a₀ h1 h2 => ⟨f1₀ a₀, f2₀ a₀, f3₀ a₀, fun k₀ => f5₀ a₀ k₀ (by omega)⟩
  have cQ : mh_chg N Q₀ g₀ m₀ t₀ := mh_chg_tr (mh_chg_f f₀ (fun a₀ k₀ w₀ => by unfold mh_sft at w₀; omega)) ⟨f1₀, f2₀, fun a₀ k₀ => Or.inr (f3₀ a₀ k₀), fun a₀ k₀ => by
    by_cases w₀ : m₀ ≤ a₀ ∧ a₀ < m₀ + 18
    · exact Or.inl (by omega)
    · exact Or.inr (f5₀ a₀ k₀ (by omega))⟩
  have ktM : mm_kt M Q₀ m₀ := by
    obtain ⟨⟨k10, k11, k12, k13⟩, a6, a7, a9, a10⟩ := kt
    exact ⟨⟨k10, k11.trans (cm m₀ 1 (by omega) (by omega)), k12.trans (cm m₀ 2 (by omega) (by omega)), k13.trans (cm m₀ 3 (by omega) (by omega))⟩, fun k₀ hk => (a6 k₀ hk).trans (cm (m₀ + 1) k₀ (by omega) (by omega)), fun k₀ hk => ⟨(a7 k₀ hk).1.trans (cm (m₀ + 2) k₀ (by omega) (by omega)), (a7 k₀ hk).2.trans (cm (m₀ + 3) k₀ (by omega) (by omega))⟩, fun k₀ hk => (a9 k₀ hk).trans (cm (m₀ + 4) k₀ (by omega) (by omega)), fun k₀ hk => (a10 k₀ hk).trans (cm (m₀ + 5) k₀ (by omega) (by omega))⟩
  have cQm : ∀ k₀, k₀ ≠ 0 → k₀ ≠ 3 → ¬ (10 ≤ k₀ ∧ k₀ ≤ 13) → gi Q₀ m₀ k₀ = gi M m₀ k₀ := fun k₀ h0 h3 h10 => (f4₀ m₀ k₀ (fun s₀ => by have := hS₀ m₀ k₀ s₀; omega)).trans (cm m₀ k₀ (by omega) (by omega))
  have cQa : ∀ a₀, (a₀ = m₀ + 1 ∨ (m₀ + 11 ≤ a₀ ∧ a₀ < m₀ + 18)) → ∀ k₀, gi Q₀ a₀ k₀ = gi M a₀ k₀ := fun a₀ h₀ k₀ => (f4₀ a₀ k₀ (fun s₀ => by have := hS₀ a₀ k₀ s₀; omega)).trans (cm a₀ k₀ (by omega) (by omega))
  have eI : mi Q₀ (m₀ + 1) = mi M (m₀ + 1) := by funext p₀ q₀; exact cQa (m₀ + 1) (by omega) _
  have tlQ := mh_eq_tl e₀ tlP nbP
  have w0₀ := (e₀ t₀ (by omega) (by omega)).2.2.2
  have w1₀ := (e₀ (t₀ + 1) (by omega) (by omega)).2.2.2
  have w2₀ := (e₀ (t₀ + 2) (by omega) (by omega)).2.2.2
  have v9 : ∀ k₀, gi Q₀ (g₀ + 259) k₀ = gi M (g₀ + 259) k₀ := fun k₀ => (f5₀ _ k₀ (by omega)).trans ((mm_f_gi f₀ _ k₀ (by unfold mh_sft; omega)).trans (mm_f_gi FR _ k₀ (by omega)))
  have rb := I₀.1.2.2.2.2.2
  have arQ : mh_ar Q₀ t₀ (g₀ + 259) := by
    have := rb.2.2
    unfold mh_ar at *
    rw [w0₀, w0₀, s0₀, s1₀, v9, v9, v9, v9]
    exact this
  obtain ⟨KQ, gq, AQ⟩ := mh_K_of I₀ r₀ cQ tlQ.1 tlQ.2 (by rw [w0₀, w0₀, w0₀, s0₀, s1₀]; exact ⟨rb.1, h2⟩) arQ
  have zf := I₀.2.2.2.1
  obtain ⟨x1₀, x2₀, x3, x4₀, x5₀⟩ := I₀.2.2.2.2.1
  have md := I₀.2.2.2.2.2.1
  have sel := I₀.2.2.2.2.2.2.1
  refine ⟨q0, mh_far_f fQ (fun a₀ k₀ w₀ => by have := hS₀ a₀ k₀ w₀; omega), t₀, u₀, KQ, mh_V_eq e₀ tlP.2.1 V9, ⟨mh_st_g I₀.2.2.1.1 (fun a₀ => (cQ.1 a₀).trans (FR.1 a₀)) (fun a₀ => (cQ.2.1 a₀).trans (FR.2.1 a₀)) (fun k₀ => ((cQ.2.2.1 m₀ k₀).resolve_left (by omega)).trans (FR.2.2.1 m₀ k₀)), pm⟩, by rw [cQm 1 (by omega) (by omega) (by omega), cQm 2 (by omega) (by omega) (by omega), q3₀, w0₀, w0₀, w0₀, s0₀, s1₀]; exact ⟨zf.1, zf.2.1, rfl⟩, ⟨?_, ?_, ?_, ?_, ?_⟩, ?_, ?_, ⟨⟨by rw [ktM.1.1, gq], Or.inr gq⟩, fun _ => mh_old_of I₀ r₀ cQ ktM⟩, mh_bkt_of I₀.2.2.2.2.2.2.2.2 AQ (cQm 25 (by omega) (by omega) (by omega)) (cQm 26 (by omega) (by omega) (by omega)) (cQm 27 (by omega) (by omega) (by omega)) (fun k₀ => cQa _ (by omega) k₀) (fun k₀ => cQa _ (by omega) k₀) (fun k₀ => cQa _ (by omega) k₀)⟩
  · rw [w0₀, w0₀, s0₀, s1₀, eI]; exact x1₀
  · rw [w0₀, w0₀, s0₀, s1₀, eI, mh_eq_at e₀, ea]; exact x2₀
  · rw [w0₀, w0₀, s0₀, s1₀, eI]
    intro p₀ q₀ h₀
    rw [mh_eq_ct e₀ tlP nbP (by rw [s0₀, s1₀]; exact h₀), mh_eq_ct e₀ tlP nbP (by rw [s0₀, s1₀]; exact h₀), ec]
    exact hc₀ p₀ q₀ h₀
  · rw [w0₀, s1₀]
    intro k₀ k0₀ k1₀
    rw [w2₀]
    exact hw k₀ k0₀ k1₀
  · rw [w0₀, s0₀]
    intro k₀ k0₀ k1₀
    rw [w1₀]
    exact hh k₀ k0₀ k1₀
  · unfold mh_mod at *
    rw [cQm 4 (by omega) (by omega) (by omega), cQm 1 (by omega) (by omega) (by omega), cQm 2 (by omega) (by omega) (by omega), eI]
    exact md
  · unfold mh_sel at *
    rw [cQm 21 (by omega) (by omega) (by omega), cQm 22 (by omega) (by omega) (by omega), cQm 23 (by omega) (by omega) (by omega), cQm 24 (by omega) (by omega) (by omega), v9, v9, v9, v9, mh_cc_eq e₀ tlP.2.1, ecc]
    exact sel
