def mh_vt (x₀ T : Int) : Int := if x₀ < T then T - 1 else T
def mh_vh (x₀ T H₀ : Int) : Int := if x₀ < T then H₀ else if x₀ ≤ T + H₀ - 1 then H₀ - 1 else H₀
def mh_drG (J₀ : Int → Int → Int) (x₀ p₀ q₀ : Int) : Int := J₀ (if p₀ < x₀ then p₀ else p₀ + 1) q₀
def mh_dh (M : mg_M) (a₀ : Nat) (x₀ k₀ : Int) : Int := if k₀ < x₀ then gi M a₀ k₀.toNat else gi M a₀ (k₀ + 1).toNat
/-- dropRow, from behind₀ its loop₀ on -/
theorem cX4_dropRowE {D : mg_D} {l : Launch} (hl : l.stackTraces = false) {M Z1 X₀ Z4 : mg_M} {t₀ : Nat} {x₀ hd₀ : Int} (tl : mh_tl M t₀) (nb : mh_nb M t₀) (hx : 0 ≤ x₀ ∧ x₀ < gi M t₀ 0) (hhd : 0 ≤ hd₀ ∧ hd₀ ≤ 12) (f1₀ : mm_f (fun a₀ k₀ => (t₀ + 6 ≤ a₀ ∧ a₀ < t₀ + 126) ∧ (k₀ = 0 ∨ k₀ = 2)) M Z1) (v1₀ : ∀ j₀ : Nat, (j₀ : Int) < gi M (t₀ + 3) 0 → gi Z1 (gr M (t₀ + 3 + 1) j₀) 0 = mh_vt x₀ (gi M (gr M (t₀ + 3 + 1) j₀) 0) ∧ gi Z1 (gr M (t₀ + 3 + 1) j₀) 2 = mh_vh x₀ (gi M (gr M (t₀ + 3 + 1) j₀) 0) (gi M (gr M (t₀ + 3 + 1) j₀) 2)) (fX : mh_cR Z1 X₀ (t₀ + 3)) (clX : mg_cL X₀ (t₀ + 3)) (s1₀ : ∀ i₀ : Nat, (i₀ : Int) < gi X₀ (t₀ + 3) 0 → ∃ j₀ : Nat, (j₀ : Int) < gi Z1 (t₀ + 3) 0 ∧ gr X₀ (t₀ + 3 + 1) i₀ = gr Z1 (t₀ + 3 + 1) j₀ ∧ mh_va Z1 (gr Z1 (t₀ + 3 + 1) j₀) = false) (s2₀ : ∀ j₀ : Nat, (j₀ : Int) < gi Z1 (t₀ + 3) 0 → mh_va Z1 (gr Z1 (t₀ + 3 + 1) j₀) = false → ∃ i₀ : Nat, (i₀ : Int) < gi X₀ (t₀ + 3) 0 ∧ gr X₀ (t₀ + 3 + 1) i₀ = gr Z1 (t₀ + 3 + 1) j₀) (f4₀ : mm_f (fun a₀ k₀ => a₀ = t₀ + 1 ∨ (a₀ = t₀ ∧ (k₀ = 0 ∨ k₀ = 2))) X₀ Z4) (e0₀ : gi Z4 t₀ 0 = gi M t₀ 0 - 1) (e2₀ : gi Z4 t₀ 2 = hd₀) (vh : ∀ k₀, 0 ≤ k₀ → k₀ < gi M t₀ 0 - 1 → gi Z4 (t₀ + 1) k₀.toNat = mh_dh M (t₀ + 1) x₀ k₀) : mg_Mt D l 46 [.inr (.inl t₀)] Z4 (fun v₀ N => v₀ = none ∧ mh_nv M N t₀ (gi M t₀ 0 - 1) (gi M t₀ 1) hd₀ (mh_drG (mh_at M t₀) x₀) (mh_cn M t₀ 4) (mh_cn M t₀ 5) (fun k₀ => gi M (t₀ + 2) k₀.toNat) (mh_dh M (t₀ + 1) x₀)) mg_no := by
  have tb₀ := tl.1
  have cl₀ := tl.2.1
  have ok₀ := tl.2.2.1
  have own₀ := tl.2.2.2.1
  have bb := tb₀.2.2
  have z₀ := cl₀.2.2.2.2.2.2.1
  have zX := clX.2.2.2.2.2.2.1
  have ca : ∀ i₀ : Nat, i₀ < 120 → t₀ + 6 ≤ gr M (t₀ + 3 + 1) i₀ ∧ gr M (t₀ + 3 + 1) i₀ < t₀ + 126 := fun i₀ hi => by have := cl₀.2.2.2.2.2.2.2.1 i₀ hi; omega
  have ci := cl₀.2.2.2.2.2.2.2.2
  have ciX := clX.2.2.2.2.2.2.2.2
  have g4 : ∀ k₀, gr Z4 (t₀ + 3 + 1) k₀ = gr X₀ (t₀ + 3 + 1) k₀ := fun k₀ => f4₀.2.2.1 _ _
  have g1 : ∀ k₀, gr Z1 (t₀ + 3 + 1) k₀ = gr M (t₀ + 3 + 1) k₀ := fun k₀ => f1₀.2.2.1 _ _
  have z1 : gi Z1 (t₀ + 3) 0 = gi M (t₀ + 3) 0 := mm_f_gi f1₀ (t₀ + 3) 0 (by omega)
  have z4 : gi Z4 (t₀ + 3) 0 = gi X₀ (t₀ + 3) 0 := mm_f_gi f4₀ (t₀ + 3) 0 (by omega)
  rw [z1] at s1₀ s2₀
  have cx : ∀ j₀ : Nat, j₀ < 120 → ∀ k₀, gi Z4 (gr M (t₀ + 3 + 1) j₀) k₀ = gi Z1 (gr M (t₀ + 3 + 1) j₀) k₀ := by
    intro j₀ hj k₀
    have c₀ := ca j₀ hj
    rw [mm_f_gi f4₀ _ k₀ (by omega)]
    exact fX.2.2.2.2.2.2 _ k₀ (by omega)
  have cf₀ : ∀ j₀ : Nat, (j₀ : Int) < gi M (t₀ + 3) 0 → gi Z4 (gr M (t₀ + 3 + 1) j₀) 0 = mh_vt x₀ (gi M (gr M (t₀ + 3 + 1) j₀) 0) ∧ gi Z4 (gr M (t₀ + 3 + 1) j₀) 2 = mh_vh x₀ (gi M (gr M (t₀ + 3 + 1) j₀) 0) (gi M (gr M (t₀ + 3 + 1) j₀) 2) ∧ gi Z4 (gr M (t₀ + 3 + 1) j₀) 1 = gi M (gr M (t₀ + 3 + 1) j₀) 1 ∧ gi Z4 (gr M (t₀ + 3 + 1) j₀) 3 = gi M (gr M (t₀ + 3 + 1) j₀) 3 := by
    intro j₀ hj
    rw [cx j₀ (by omega), cx j₀ (by omega), cx j₀ (by omega), cx j₀ (by omega)]
    exact ⟨(v1₀ j₀ hj).1, (v1₀ j₀ hj).2, mm_f_gi f1₀ _ 1 (by omega), mm_f_gi f1₀ _ 3 (by omega)⟩
  have bk : ∀ i₀ j₀ : Nat, (j₀ : Int) < gi M (t₀ + 3) 0 → gr Z4 (t₀ + 3 + 1) i₀ = gr M (t₀ + 3 + 1) j₀ → ∀ p₀ q₀, (mh_cv Z4 t₀ i₀ p₀ q₀ ↔ mh_cv M t₀ j₀ (if p₀ < x₀ then p₀ else p₀ + 1) q₀) := by
    intro i₀ j₀ hj e₀ p₀ q₀
    obtain ⟨c1₀, c2₀, c3₀, c4₀⟩ := cf₀ j₀ hj
    have o := ok₀ j₀ hj
    unfold mh_ok at o
    unfold mh_cv
    rw [e₀, c1₀, c2₀, c3₀, c4₀]
    unfold mh_vt mh_vh
    clear cf₀ cx ca ci ciX s1₀ s2₀ own₀ ok₀ v1₀ vh
    (repeat' split) <;> omega
  have at1₀ : ∀ j₀ : Nat, (j₀ : Int) < gi M (t₀ + 3) 0 → ∀ p₀ q₀, mh_cv M t₀ j₀ p₀ q₀ → mh_at M t₀ p₀ q₀ = j₀ := fun j₀ hj p₀ q₀ h₀ => own₀ j₀ hj p₀ q₀ h₀
  have at2₀ : ∀ p₀ q₀, 0 ≤ p₀ ∧ p₀ < gi M t₀ 0 → 0 ≤ q₀ ∧ q₀ < gi M t₀ 1 → ∃ j₀ : Nat, (j₀ : Int) < gi M (t₀ + 3) 0 ∧ mh_cv M t₀ j₀ p₀ q₀ ∧ mh_at M t₀ p₀ q₀ = j₀ := by
    intro p₀ q₀ hp hq
    obtain ⟨i₀, hi, hv, _⟩ := mh_tl_ow tl hp hq (nb p₀ q₀ hp.1 hp.2 hq.1 hq.2)
    exact ⟨i₀, hi, hv, at1₀ i₀ hi p₀ q₀ hv⟩
  have pr : ∀ p₀ q₀, mh_rg (gi M t₀ 0 - 1) (gi M t₀ 1) p₀ q₀ → ∃ j₀ : Nat, (j₀ : Int) < gi M (t₀ + 3) 0 ∧ mh_cv M t₀ j₀ (if p₀ < x₀ then p₀ else p₀ + 1) q₀ ∧ mh_drG (mh_at M t₀) x₀ p₀ q₀ = j₀ := by
    intro p₀ q₀ h₀
    exact at2₀ _ q₀ (by split <;> omega) h₀.2
  have fw : mh_fw M Z4 t₀ := by
    refine mh_fw_tr (mh_fw_of f1₀ (fun a₀ k₀ h₀ => by omega)) (mh_fw_tr ?_ (mh_fw_of f4₀ (fun a₀ k₀ h₀ => by omega)))
    obtain ⟨a1₀, a2, a3, a4, a5, a6, a7⟩ := fX
    refine ⟨a1₀, a2, fun a₀ k₀ => ?_, a4, a5, a6, fun a₀ k₀ => ?_⟩
    · by_cases c₀ : a₀ = t₀ + 3 + 1
      · exact Or.inl c₀
      · exact Or.inr (a3 a₀ k₀ c₀)
    · by_cases c₀ : a₀ = t₀ + 3 ∧ k₀ = 0
      · exact Or.inl (by omega)
      · exact Or.inr (a7 a₀ k₀ c₀)
  have cl4 : mg_cL Z4 (t₀ + 3) := mh_fr_cL clX f4₀.1 f4₀.2.1 f4₀.2.2.1 z4
  obtain ⟨n0₀, hn⟩ : ∃ n0₀ : Nat, gi Z4 (t₀ + 3) 0 = n0₀ := ⟨(gi Z4 (t₀ + 3) 0).toNat, by omega⟩
  have s1' : ∀ i₀ : Nat, i₀ < n0₀ → ∃ j₀ : Nat, (j₀ : Int) < gi M (t₀ + 3) 0 ∧ gr Z4 (t₀ + 3 + 1) i₀ = gr M (t₀ + 3 + 1) j₀ ∧ mh_va Z1 (gr M (t₀ + 3 + 1) j₀) = false := by
    intro i₀ hi
    obtain ⟨j₀, a₀, b₀, c₀⟩ := s1₀ i₀ (by omega)
    rw [g1] at b₀ c₀
    exact ⟨j₀, a₀, (g4 i₀).trans b₀, c₀⟩
  refine cX4_settleA hl (n0₀ := n0₀) fw ?_ cl₀ cl4 hn ⟨e0₀, ?_, e2₀⟩ ⟨by omega, by omega⟩ (fun j₀ hj => ?_) (fun k₀ hk => ?_) (fun i₀ hi => ?_) ?_ (fun p₀ q₀ h₀ => ?_) (fun p₀ q₀ p' q' h₀ h' hge e₀ => ?_) (fun k₀ k0₀ k1₀ => ?_) vh
  · have e1₀ : gi Z4 t₀ 1 = gi M t₀ 1 := by rw [mm_f_gi f4₀ t₀ 1 (by omega), fX.2.2.2.2.2.2 t₀ 1 (by omega)]; exact mm_f_gi f1₀ t₀ 1 (by omega)
    have kk : ∀ a₀, kd Z4 a₀ = kd M a₀ := fun a₀ => (f4₀.1 a₀).trans ((fX.1 a₀).trans (f1₀.1 a₀))
    have ll : ∀ a₀, ln Z4 a₀ = ln M a₀ := fun a₀ => (f4₀.2.1 a₀).trans ((fX.2.1 a₀).trans (f1₀.2.1 a₀))
    have rr : ∀ k₀, gr Z4 t₀ k₀ = gr M t₀ k₀ := fun k₀ => (f4₀.2.2.1 t₀ k₀).trans ((fX.2.2.1 t₀ k₀ (by omega)).trans (f1₀.2.2.1 t₀ k₀))
    clear bk at1₀ at2₀ cf₀ cx ca ok₀ own₀ v1₀ vh s1₀ s2₀ s1' pr ci ciX
    unfold mg_tb at *
    rw [e0₀, e1₀, e2₀]
    simp only [kk, ll, rr]
    exact ⟨tb₀.1, tb₀.2.1, by omega⟩
  · rw [mm_f_gi f4₀ t₀ 1 (by omega), fX.2.2.2.2.2.2 t₀ 1 (by omega)]; exact mm_f_gi f1₀ t₀ 1 (by omega)
  · have c₀ := ca j₀ hj
    unfold mh_cn
    rw [if_pos (by omega), if_pos (by omega), Int.toNat_natCast, cx j₀ hj, cx j₀ hj]
    exact ⟨mm_f_gi f1₀ _ 4 (by omega), mm_f_gi f1₀ _ 5 (by omega)⟩
  · unfold mh_cn
    rw [if_neg (by omega), if_neg (by omega)]
    exact ⟨rfl, rfl⟩
  · obtain ⟨j₀, a₀, b₀, c₀⟩ := s1' i₀ hi
    obtain ⟨c1₀, c2₀, c3₀, c4₀⟩ := cf₀ j₀ a₀
    have o := ok₀ j₀ a₀
    have w₀ := (v1₀ j₀ a₀).2
    have v2 : mh_vh x₀ (gi M (gr M (t₀ + 3 + 1) j₀) 0) (gi M (gr M (t₀ + 3 + 1) j₀) 2) ≠ 0 := by
      intro q₀
      unfold mh_va at c₀
      have := of_decide_eq_false c₀
      exact this (Or.inl (w₀.trans q₀))
    have e1₀ : gi Z4 t₀ 1 = gi M t₀ 1 := by rw [mm_f_gi f4₀ t₀ 1 (by omega), fX.2.2.2.2.2.2 t₀ 1 (by omega)]; exact mm_f_gi f1₀ t₀ 1 (by omega)
    unfold mh_ok at o ⊢
    rw [b₀, c1₀, c2₀, c3₀, c4₀, e0₀, e1₀]
    unfold mh_vt mh_vh at *
    clear bk at1₀ at2₀ cf₀ cx ca ok₀ own₀ v1₀ vh s1₀ s2₀ s1' pr w₀ ci ciX
    (repeat' split at *) <;> omega
  · intro i₀ i' hi hi' p₀ q₀ h1 h2
    obtain ⟨j₀, a₀, b₀, c₀⟩ := s1' i₀ (by omega)
    obtain ⟨j', a', b', c'⟩ := s1' i' (by omega)
    have u₀ := at1₀ j₀ a₀ _ _ ((bk i₀ j₀ a₀ b₀ p₀ q₀).1 h1)
    have u' := at1₀ j' a' _ _ ((bk i' j' a' b' p₀ q₀).1 h2)
    have jj : j₀ = j' := by omega
    rw [jj, ← b', g4, g4] at b₀
    exact ciX i₀ i' (by omega) (by omega) b₀
  · obtain ⟨j₀, a₀, b₀, e₀⟩ := pr p₀ q₀ h₀
    have nv : mh_va Z1 (gr Z1 (t₀ + 3 + 1) j₀) = false := by
      rw [g1]
      unfold mh_va
      refine decide_eq_false ?_
      have w₀ := (v1₀ j₀ a₀).2
      have w3₀ := mm_f_gi f1₀ (gr M (t₀ + 3 + 1) j₀) 3 (by omega)
      have o := ok₀ j₀ a₀
      unfold mh_ok at o
      unfold mh_cv at b₀
      rw [w₀, w3₀]
      unfold mh_vh
      clear bk at1₀ at2₀ cf₀ cx ca ok₀ own₀ v1₀ vh s1₀ s2₀ s1' pr w₀ ci ciX
      (repeat' split at *) <;> omega
    obtain ⟨i₀, i1₀, i2₀⟩ := s2₀ j₀ a₀ nv
    have i3₀ : gr Z4 (t₀ + 3 + 1) i₀ = gr M (t₀ + 3 + 1) j₀ := (g4 i₀).trans (i2₀.trans (g1 j₀))
    exact Or.inl ⟨i₀, j₀, by omega, by omega, (bk i₀ j₀ a₀ i3₀ p₀ q₀).2 b₀, i3₀, e₀⟩
  · obtain ⟨j₀, a₀, b₀, e'⟩ := pr p₀ q₀ h₀
    omega
  · rw [mm_f_gi f4₀ (t₀ + 2) _ (by omega), fX.2.2.2.2.2.2 (t₀ + 2) _ (by omega)]
    exact mm_f_gi f1₀ (t₀ + 2) _ (by omega)
