def mh_dcG (J₀ : Int → Int → Int) (x₀ p₀ q₀ : Int) : Int := J₀ p₀ (if q₀ < x₀ then q₀ else q₀ + 1)
/-- dropColumn, from behind₀ its loop₀ on -/
theorem cX4_dropColumnE {D : mg_D} {l : Launch} (hl : l.stackTraces = false) {M Z1 X₀ Z4 : mg_M} {t₀ : Nat} {x₀ hd₀ : Int} (tl : mh_tl M t₀) (nb : mh_nb M t₀) (hx : 0 ≤ x₀ ∧ x₀ < gi M t₀ 1) (hhd : 0 ≤ hd₀ ∧ hd₀ ≤ 12) (f1₀ : mm_f (fun a₀ k₀ => (t₀ + 6 ≤ a₀ ∧ a₀ < t₀ + 126) ∧ (k₀ = 1 ∨ k₀ = 3)) M Z1) (v1₀ : ∀ j₀ : Nat, (j₀ : Int) < gi M (t₀ + 3) 0 → gi Z1 (gr M (t₀ + 3 + 1) j₀) 1 = mh_vt x₀ (gi M (gr M (t₀ + 3 + 1) j₀) 1) ∧ gi Z1 (gr M (t₀ + 3 + 1) j₀) 3 = mh_vh x₀ (gi M (gr M (t₀ + 3 + 1) j₀) 1) (gi M (gr M (t₀ + 3 + 1) j₀) 3)) (fX : mh_cR Z1 X₀ (t₀ + 3)) (clX : mg_cL X₀ (t₀ + 3)) (s1₀ : ∀ i₀ : Nat, (i₀ : Int) < gi X₀ (t₀ + 3) 0 → ∃ j₀ : Nat, (j₀ : Int) < gi Z1 (t₀ + 3) 0 ∧ gr X₀ (t₀ + 3 + 1) i₀ = gr Z1 (t₀ + 3 + 1) j₀ ∧ mh_va Z1 (gr Z1 (t₀ + 3 + 1) j₀) = false) (s2₀ : ∀ j₀ : Nat, (j₀ : Int) < gi Z1 (t₀ + 3) 0 → mh_va Z1 (gr Z1 (t₀ + 3 + 1) j₀) = false → ∃ i₀ : Nat, (i₀ : Int) < gi X₀ (t₀ + 3) 0 ∧ gr X₀ (t₀ + 3 + 1) i₀ = gr Z1 (t₀ + 3 + 1) j₀) (f4₀ : mm_f (fun a₀ k₀ => a₀ = t₀ + 2 ∨ (a₀ = t₀ ∧ k₀ = 1)) X₀ Z4) (e0₀ : gi Z4 t₀ 1 = gi M t₀ 1 - 1) (e2₀ : gi Z4 t₀ 2 = hd₀) (vh : ∀ k₀, 0 ≤ k₀ → k₀ < gi M t₀ 1 - 1 → gi Z4 (t₀ + 2) k₀.toNat = mh_dh M (t₀ + 2) x₀ k₀) : mg_Mt D l 46 [.inr (.inl t₀)] Z4 (fun v₀ N => v₀ = none ∧ mh_nv M N t₀ (gi M t₀ 0) (gi M t₀ 1 - 1) hd₀ (mh_dcG (mh_at M t₀) x₀) (mh_cn M t₀ 4) (mh_cn M t₀ 5) (mh_dh M (t₀ + 2) x₀) (fun k₀ => gi M (t₀ + 1) k₀.toNat)) mg_no := by
  have tb₀ := tl.1
  have cl₀ := tl.2.1
  have ok₀ := tl.2.2.1
  have own₀ := tl.2.2.2.1
  have bb := tb₀.2.2
  have z₀ := cl₀.2.2.2.2.2.2.1
  have zX := clX.2.2.2.2.2.2.1
  have ca : ∀ i₀ : Nat, i₀ < 120 → t₀ + 6 ≤ gr M (t₀ + 3 + 1) i₀ ∧ gr M (t₀ + 3 + 1) i₀ < t₀ + 126 := fun i₀ hi => by have := cl₀.2.2.2.2.2.2.2.1 i₀ hi; omega
  have ci := cl₀.2.2.2.2.2.2.2.2
  have ciX := clX.2.2.2.2.2.2.2.2
  have g4 : ∀ k₀, gr Z4 (t₀ + 3 + 1) k₀ = gr X₀ (t₀ + 3 + 1) k₀ := fun k₀ => f4₀.2.2.1 _ _
  have g1 : ∀ k₀, gr Z1 (t₀ + 3 + 1) k₀ = gr M (t₀ + 3 + 1) k₀ := fun k₀ => f1₀.2.2.1 _ _
  have z1 : gi Z1 (t₀ + 3) 0 = gi M (t₀ + 3) 0 := mm_f_gi f1₀ (t₀ + 3) 0 (by omega)
  have z4 : gi Z4 (t₀ + 3) 0 = gi X₀ (t₀ + 3) 0 := mm_f_gi f4₀ (t₀ + 3) 0 (by omega)
  rw [z1] at s1₀ s2₀
  have cx : ∀ j₀ : Nat, j₀ < 120 → ∀ k₀, gi Z4 (gr M (t₀ + 3 + 1) j₀) k₀ = gi Z1 (gr M (t₀ + 3 + 1) j₀) k₀ := by
    intro j₀ hj k₀
    have c₀ := ca j₀ hj
    rw [mm_f_gi f4₀ _ k₀ (by omega)]
    exact fX.2.2.2.2.2.2 _ k₀ (by omega)
  have cf₀ : ∀ j₀ : Nat, (j₀ : Int) < gi M (t₀ + 3) 0 → gi Z4 (gr M (t₀ + 3 + 1) j₀) 1 = mh_vt x₀ (gi M (gr M (t₀ + 3 + 1) j₀) 1) ∧ gi Z4 (gr M (t₀ + 3 + 1) j₀) 3 = mh_vh x₀ (gi M (gr M (t₀ + 3 + 1) j₀) 1) (gi M (gr M (t₀ + 3 + 1) j₀) 3) ∧ gi Z4 (gr M (t₀ + 3 + 1) j₀) 0 = gi M (gr M (t₀ + 3 + 1) j₀) 0 ∧ gi Z4 (gr M (t₀ + 3 + 1) j₀) 2 = gi M (gr M (t₀ + 3 + 1) j₀) 2 := by
    intro j₀ hj
    rw [cx j₀ (by omega), cx j₀ (by omega), cx j₀ (by omega), cx j₀ (by omega)]
    exact ⟨(v1₀ j₀ hj).1, (v1₀ j₀ hj).2, mm_f_gi f1₀ _ 0 (by omega), mm_f_gi f1₀ _ 2 (by omega)⟩
  have bk : ∀ i₀ j₀ : Nat, (j₀ : Int) < gi M (t₀ + 3) 0 → gr Z4 (t₀ + 3 + 1) i₀ = gr M (t₀ + 3 + 1) j₀ → ∀ p₀ q₀, (mh_cv Z4 t₀ i₀ q₀ p₀ ↔ mh_cv M t₀ j₀ q₀ (if p₀ < x₀ then p₀ else p₀ + 1)) := by
    intro i₀ j₀ hj e₀ p₀ q₀
    obtain ⟨c1₀, c2₀, c3₀, c4₀⟩ := cf₀ j₀ hj
    have o := ok₀ j₀ hj
    unfold mh_ok at o
    unfold mh_cv
    rw [e₀, c1₀, c2₀, c3₀, c4₀]
    unfold mh_vt mh_vh
    clear cf₀ cx ca ci ciX s1₀ s2₀ own₀ ok₀ v1₀ vh
    (repeat' split) <;> omega
  have at1₀ : ∀ j₀ : Nat, (j₀ : Int) < gi M (t₀ + 3) 0 → ∀ p₀ q₀, mh_cv M t₀ j₀ q₀ p₀ → mh_at M t₀ q₀ p₀ = j₀ := fun j₀ hj p₀ q₀ h₀ => own₀ j₀ hj q₀ p₀ h₀
  have at2₀ : ∀ p₀ q₀, 0 ≤ p₀ ∧ p₀ < gi M t₀ 1 → 0 ≤ q₀ ∧ q₀ < gi M t₀ 0 → ∃ j₀ : Nat, (j₀ : Int) < gi M (t₀ + 3) 0 ∧ mh_cv M t₀ j₀ q₀ p₀ ∧ mh_at M t₀ q₀ p₀ = j₀ := by
    intro p₀ q₀ hp hq
    obtain ⟨i₀, hi, hv, _⟩ := mh_tl_ow tl hq hp (nb q₀ p₀ hq.1 hq.2 hp.1 hp.2)
    exact ⟨i₀, hi, hv, at1₀ i₀ hi p₀ q₀ hv⟩
  have pr : ∀ p₀ q₀, mh_rg (gi M t₀ 0) (gi M t₀ 1 - 1) q₀ p₀ → ∃ j₀ : Nat, (j₀ : Int) < gi M (t₀ + 3) 0 ∧ mh_cv M t₀ j₀ q₀ (if p₀ < x₀ then p₀ else p₀ + 1) ∧ mh_dcG (mh_at M t₀) x₀ q₀ p₀ = j₀ := by
    intro p₀ q₀ h₀
    exact at2₀ _ q₀ (by split <;> omega) h₀.1
  have fw : mh_fw M Z4 t₀ := by
    refine mh_fw_tr (mh_fw_of f1₀ (fun a₀ k₀ h₀ => by omega)) (mh_fw_tr ?_ (mh_fw_of f4₀ (fun a₀ k₀ h₀ => by omega)))
    obtain ⟨a1₀, a2, a3, a4, a5, a6, a7⟩ := fX
    refine ⟨a1₀, a2, fun a₀ k₀ => ?_, a4, a5, a6, fun a₀ k₀ => ?_⟩
    · by_cases c₀ : a₀ = t₀ + 3 + 1
      · exact Or.inl c₀
      · exact Or.inr (a3 a₀ k₀ c₀)
    · by_cases c₀ : a₀ = t₀ + 3 ∧ k₀ = 0
      · exact Or.inl (by omega)
      · exact Or.inr (a7 a₀ k₀ c₀)
  have cl4 : mg_cL Z4 (t₀ + 3) := mh_fr_cL clX f4₀.1 f4₀.2.1 f4₀.2.2.1 z4
  obtain ⟨n0₀, hn⟩ : ∃ n0₀ : Nat, gi Z4 (t₀ + 3) 0 = n0₀ := ⟨(gi Z4 (t₀ + 3) 0).toNat, by omega⟩
  have s1' : ∀ i₀ : Nat, i₀ < n0₀ → ∃ j₀ : Nat, (j₀ : Int) < gi M (t₀ + 3) 0 ∧ gr Z4 (t₀ + 3 + 1) i₀ = gr M (t₀ + 3 + 1) j₀ ∧ mh_va Z1 (gr M (t₀ + 3 + 1) j₀) = false := by
    intro i₀ hi
    obtain ⟨j₀, a₀, b₀, c₀⟩ := s1₀ i₀ (by omega)
    rw [g1] at b₀ c₀
    exact ⟨j₀, a₀, (g4 i₀).trans b₀, c₀⟩
  refine cX4_settleA hl (n0₀ := n0₀) fw ?_ cl₀ cl4 hn ⟨?_, e0₀, e2₀⟩ ⟨by omega, by omega⟩ (fun j₀ hj => ?_) (fun k₀ hk => ?_) (fun i₀ hi => ?_) ?_ (fun q₀ p₀ h₀ => ?_) (fun q₀ p₀ q' p' h₀ h' hge e₀ => ?_) vh (fun k₀ k0₀ k1₀ => ?_)
  · have e1₀ : gi Z4 t₀ 0 = gi M t₀ 0 := by rw [mm_f_gi f4₀ t₀ 0 (by omega), fX.2.2.2.2.2.2 t₀ 0 (by omega)]; exact mm_f_gi f1₀ t₀ 0 (by omega)
    have kk : ∀ a₀, kd Z4 a₀ = kd M a₀ := fun a₀ => (f4₀.1 a₀).trans ((fX.1 a₀).trans (f1₀.1 a₀))
    have ll : ∀ a₀, ln Z4 a₀ = ln M a₀ := fun a₀ => (f4₀.2.1 a₀).trans ((fX.2.1 a₀).trans (f1₀.2.1 a₀))
    have rr : ∀ k₀, gr Z4 t₀ k₀ = gr M t₀ k₀ := fun k₀ => (f4₀.2.2.1 t₀ k₀).trans ((fX.2.2.1 t₀ k₀ (by omega)).trans (f1₀.2.2.1 t₀ k₀))
    clear bk at1₀ at2₀ cf₀ cx ca ok₀ own₀ v1₀ vh s1₀ s2₀ s1' pr ci ciX
    unfold mg_tb at *
    rw [e0₀, e1₀, e2₀]
    simp only [kk, ll, rr]
    exact ⟨tb₀.1, tb₀.2.1, by omega⟩
  · rw [mm_f_gi f4₀ t₀ 0 (by omega), fX.2.2.2.2.2.2 t₀ 0 (by omega)]; exact mm_f_gi f1₀ t₀ 0 (by omega)
  · have c₀ := ca j₀ hj
    unfold mh_cn
    rw [if_pos (by omega), if_pos (by omega), Int.toNat_natCast, cx j₀ hj, cx j₀ hj]
    exact ⟨mm_f_gi f1₀ _ 4 (by omega), mm_f_gi f1₀ _ 5 (by omega)⟩
  · unfold mh_cn
    rw [if_neg (by omega), if_neg (by omega)]
    exact ⟨rfl, rfl⟩
  · obtain ⟨j₀, a₀, b₀, c₀⟩ := s1' i₀ hi
    obtain ⟨c1₀, c2₀, c3₀, c4₀⟩ := cf₀ j₀ a₀
    have o := ok₀ j₀ a₀
    have w₀ := (v1₀ j₀ a₀).2
    have v2 : mh_vh x₀ (gi M (gr M (t₀ + 3 + 1) j₀) 1) (gi M (gr M (t₀ + 3 + 1) j₀) 3) ≠ 0 := by
      intro q₀
      unfold mh_va at c₀
      have := of_decide_eq_false c₀
      exact this (Or.inr (w₀.trans q₀))
    have e1₀ : gi Z4 t₀ 0 = gi M t₀ 0 := by rw [mm_f_gi f4₀ t₀ 0 (by omega), fX.2.2.2.2.2.2 t₀ 0 (by omega)]; exact mm_f_gi f1₀ t₀ 0 (by omega)
    unfold mh_ok at o ⊢
    rw [b₀, c1₀, c2₀, c3₀, c4₀, e0₀, e1₀]
    unfold mh_vt mh_vh at *
    clear bk at1₀ at2₀ cf₀ cx ca ok₀ own₀ v1₀ vh s1₀ s2₀ s1' pr w₀ ci ciX
    (repeat' split at *) <;> omega
  · intro i₀ i' hi hi' q₀ p₀ h1 h2
    obtain ⟨j₀, a₀, b₀, c₀⟩ := s1' i₀ (by omega)
    obtain ⟨j', a', b', c'⟩ := s1' i' (by omega)
    have u₀ := at1₀ j₀ a₀ _ _ ((bk i₀ j₀ a₀ b₀ p₀ q₀).1 h1)
    have u' := at1₀ j' a' _ _ ((bk i' j' a' b' p₀ q₀).1 h2)
    have jj : j₀ = j' := by omega
    rw [jj, ← b', g4, g4] at b₀
    exact ciX i₀ i' (by omega) (by omega) b₀
  · obtain ⟨j₀, a₀, b₀, e₀⟩ := pr p₀ q₀ h₀
    have nv : mh_va Z1 (gr Z1 (t₀ + 3 + 1) j₀) = false := by
      rw [g1]
      unfold mh_va
      refine decide_eq_false ?_
      have w₀ := (v1₀ j₀ a₀).2
      have w3₀ := mm_f_gi f1₀ (gr M (t₀ + 3 + 1) j₀) 2 (by omega)
      have o := ok₀ j₀ a₀
      unfold mh_ok at o
      unfold mh_cv at b₀
      rw [w₀, w3₀]
      unfold mh_vh
      clear bk at1₀ at2₀ cf₀ cx ca ok₀ own₀ v1₀ vh s1₀ s2₀ s1' pr w₀ ci ciX
      (repeat' split at *) <;> omega
    obtain ⟨i₀, i1₀, i2₀⟩ := s2₀ j₀ a₀ nv
    have i3₀ : gr Z4 (t₀ + 3 + 1) i₀ = gr M (t₀ + 3 + 1) j₀ := (g4 i₀).trans (i2₀.trans (g1 j₀))
    exact Or.inl ⟨i₀, j₀, by omega, by omega, (bk i₀ j₀ a₀ i3₀ p₀ q₀).2 b₀, i3₀, e₀⟩
  · obtain ⟨j₀, a₀, b₀, e'⟩ := pr p₀ q₀ h₀
    omega
  · rw [mm_f_gi f4₀ (t₀ + 1) _ (by omega), fX.2.2.2.2.2.2 (t₀ + 1) _ (by omega)]
    exact mm_f_gi f1₀ (t₀ + 1) _ (by omega)
set_option maxRecDepth 100000 in
theorem cX4_dropColumn {D : mg_D} {l : Launch} (hl : l.stackTraces = false) {M : mg_M} {t₀ : Nat} {x₀ : Int} (tl : mh_tl M t₀) (nb : mh_nb M t₀) (hx : 0 ≤ x₀ ∧ x₀ < gi M t₀ 1) (hh : 0 ≤ gi M t₀ 2 ∧ gi M t₀ 2 ≤ gi M t₀ 0) : mg_Mt D l 51 [.inr (.inl t₀), .inl x₀] M (fun v₀ N => v₀ = none ∧ mh_nv M N t₀ (gi M t₀ 0) (gi M t₀ 1 - 1) (gi M t₀ 2) (mh_dcG (mh_at M t₀) x₀) (mh_cn M t₀ 4) (mh_cn M t₀ 5) (mh_dh M (t₀ + 2) x₀) (fun k₀ => gi M (t₀ + 1) k₀.toNat)) mg_no := by
  refine mg_of2 hl ok_X4_dropColumn al_X4_dropColumn rfl (fun K hK₀ => ?_)
  have tb₀ := tl.1
  have cl₀ := tl.2.1
  have ok₀ := tl.2.2.1
  have own₀ := tl.2.2.2.1
  have bb := tb₀.2.2
  have z₀ := cl₀.2.2.2.2.2.2.1
  obtain ⟨n0₀, hn⟩ : ∃ n0₀ : Nat, gi M (t₀ + 3) 0 = n0₀ := ⟨(gi M (t₀ + 3) 0).toNat, by omega⟩
  have ca : ∀ i₀ : Nat, i₀ < n0₀ → kd M (gr M (t₀ + 3 + 1) i₀) = 3 ∧ t₀ + 6 ≤ gr M (t₀ + 3 + 1) i₀ ∧ gr M (t₀ + 3 + 1) i₀ < t₀ + 126 := fun i₀ hi => by have := cl₀.2.2.2.2.2.2.2.1 i₀ (by omega); exact ⟨this.1, by omega, by omega⟩
  have ci := cl₀.2.2.2.2.2.2.2.2
  have IT : ∀ Z1, mm_f (fun a₀ k₀ => (t₀ + 6 ≤ a₀ ∧ a₀ < t₀ + 126) ∧ (k₀ = 1 ∨ k₀ = 3)) M Z1 → (∀ i₀ : Nat, i₀ < n0₀ → gi Z1 (gr M (t₀ + 3 + 1) i₀) 1 = mh_vt x₀ (gi M (gr M (t₀ + 3 + 1) i₀) 1) ∧ gi Z1 (gr M (t₀ + 3 + 1) i₀) 3 = mh_vh x₀ (gi M (gr M (t₀ + 3 + 1) i₀) 1) (gi M (gr M (t₀ + 3 + 1) i₀) 3)) → K 2 [(0, Sum.inr (Sum.inl t₀)), (1, Sum.inl x₀), (2, Sum.inl (n0₀ : Int))] [] Z1 0 := by
    intro Z1 f1₀ v1₀
    have z1 := mm_f_gi f1₀ (t₀ + 3) 0 (by omega)
    have cl1 : mg_cL Z1 (t₀ + 3) := mh_fr_cL cl₀ f1₀.1 f1₀.2.1 f1₀.2.2.1 z1
    have cs1 : mg_cS Z1 (t₀ + 3) := by
      intro i₀ hi
      have c₀ := ca i₀ (by omega)
      have o := ok₀ i₀ (by omega)
      have v₀ := v1₀ i₀ (by omega)
      have e1₀ := mm_f_gi f1₀ (gr M (t₀ + 3 + 1) i₀) 0 (by omega)
      have e3₀ := mm_f_gi f1₀ (gr M (t₀ + 3 + 1) i₀) 2 (by omega)
      unfold mh_ok at o
      rw [f1₀.2.2.1]
      unfold mg_sm
      rw [v₀.1, v₀.2, e1₀, e3₀, f1₀.1]
      refine ⟨c₀.1, by omega, ?_⟩
      unfold mh_vt mh_vh
      clear ok₀ own₀ v1₀ ca ci
      (repeat' split) <;> omega
    obtain ⟨fX, clX, s1₀, s2₀⟩ := mh_rv_sp cl1
    have rv₀ := @cX3_removeVanished D l hl Z1 (t₀ + 3) cl1 cs1
    generalize hX : mh_rv (t₀ + 3) (gi Z1 (t₀ + 3) 0).toNat Z1 = X₀ at *
    clear hX
    have SE₀ := fun Z4 hd₀ hhd => @cX4_dropColumnE D l hl M Z1 X₀ Z4 t₀ x₀ hd₀ tl nb hx hhd f1₀ (fun j₀ hj => v1₀ j₀ (by omega)) fX clX s1₀ s2₀
    have g1 : kd Z1 t₀ = 5 := (f1₀.1 t₀).trans tb₀.1.1
    have g5₀ : gr Z1 t₀ 5 = t₀ + 3 := (f1₀.2.2.1 t₀ 5).trans tb₀.1.2.2.2.1
    have g5n : gr Z1 t₀ 5 ≠ 0 := by omega
    have kc₀ : kd Z1 (gr Z1 t₀ 5) = 4 := by rw [g5₀]; exact (f1₀.1 _).trans cl₀.1
    have sz₀ : gi Z1 (gr Z1 t₀ 5) 0 = n0₀ := by rw [g5₀, z1]; exact hn
    have x1₀ : kd X₀ t₀ = 5 := (fX.1 t₀).trans g1
    have x3 : gr X₀ t₀ 4 = t₀ + 2 := (fX.2.2.1 t₀ 4 (by omega)).trans ((f1₀.2.2.1 t₀ 4).trans tb₀.1.2.2.1)
    have x3n : gr X₀ t₀ 4 ≠ 0 := by omega
    have kh : kd X₀ (t₀ + 2) = 8 := (fX.1 _).trans ((f1₀.1 _).trans tb₀.2.1.2.1.1)
    have lh : ln X₀ (t₀ + 2) = 10 := (fX.2.1 _).trans ((f1₀.2.1 _).trans tb₀.2.1.2.1.2)
    have rs := @cX4_removeSize D l hl X₀ (t₀ + 2) x₀.toNat x₀ (by omega) kh (by rw [lh]; omega) (by rw [lh]; omega)
    have r0 : gi X₀ t₀ 1 = gi M t₀ 1 := (fX.2.2.2.2.2.2 t₀ 1 (by omega)).trans (mm_f_gi f1₀ t₀ 1 (by omega))
    have r2 : gi X₀ t₀ 2 = gi M t₀ 2 := (fX.2.2.2.2.2.2 t₀ 2 (by omega)).trans (mm_f_gi f1₀ t₀ 2 (by omega))
    have rh : ∀ k₀ : Nat, gi X₀ (t₀ + 2) k₀ = gi M (t₀ + 2) k₀ := fun k₀ => (fX.2.2.2.2.2.2 (t₀ + 2) k₀ (by omega)).trans (mm_f_gi f1₀ (t₀ + 2) k₀ (by omega))
    clear v1₀ tl nb tb₀ cl₀ ok₀ own₀ ca ci cl1 cs1 fX clX s1₀ s2₀ f1₀
    refine hK₀ _ _ _ _ _ ?_
    (repeat' (((conv => whnf); first | (show (_ : Option mg_V) = _ ∧ _; assumption) | (show K _ _ _ _ _; assumption) | (show mm_th _ _ _ _; assumption) | refine And.intro (by first | assumption | omega | (simp only [true_and, kd_si, gr_si]; first | done | assumption | omega)) ?_ | (refine And.intro (fun _ => ?_) (fun _ => ?_) <;> first | (exfalso; omega) | skip) | intro _ | fail)))
    all_goals ((conv => whnf); try rw [g5₀])
    refine Exists.intro _ (Exists.intro _ (And.intro (rv₀) (And.intro ?_ (fun _ _ h₀ => h₀.elim))))
    rintro _ Y ⟨rfl, rfl⟩
    (repeat' (((conv => whnf); first | (show (_ : Option mg_V) = _ ∧ _; assumption) | (show K _ _ _ _ _; assumption) | (show mm_th _ _ _ _; assumption) | refine And.intro (by first | assumption | omega | (simp only [true_and, kd_si, gr_si]; first | done | assumption | omega)) ?_ | (refine And.intro (fun _ => ?_) (fun _ => ?_) <;> first | (exfalso; omega) | skip) | intro _ | fail)))
    all_goals ((conv => whnf); try rw [x3])
    refine Exists.intro _ (Exists.intro _ (And.intro (rs) (And.intro ?_ (fun _ _ h₀ => h₀.elim))))
    rintro _ Z2 ⟨rfl, fx, v2⟩
    rw [lh] at v2
    have f2₀ : mm_f (fun a₀ k₀ => a₀ = t₀ + 2 ∨ (a₀ = t₀ ∧ k₀ = 1)) Y Z2 := mm_f_fx fx (fun k₀ => Or.inl rfl)
    have k2₀ : kd Z2 t₀ = 5 := (f2₀.1 t₀).trans x1₀
    have q0 : gi Z2 t₀ 1 = gi M t₀ 1 := (fx.2.2.2.2.2.2 t₀ 1 (by omega)).trans r0
    have q2₀ : gi Z2 t₀ 2 = gi M t₀ 2 := (fx.2.2.2.2.2.2 t₀ 2 (by omega)).trans r2
    clear rs rv₀ x1₀ x3 x3n kh lh
    (repeat' (((conv => whnf); first | (show (_ : Option mg_V) = _ ∧ _; assumption) | (show K _ _ _ _ _; assumption) | (show mm_th _ _ _ _; assumption) | refine And.intro (by first | assumption | omega | (simp only [true_and, kd_si, gr_si]; first | done | assumption | omega)) ?_ | (refine And.intro (fun _ => ?_) (fun _ => ?_) <;> first | (exfalso; omega) | skip) | intro _ | fail)))
    all_goals ((conv => whnf); generalize hZ3 : si Z2 t₀ 1 (gi Z2 t₀ 1 - 1) = Z3)
    have k3₀ : kd Z3 t₀ = 5 := by rw [← hZ3, kd_si]; exact k2₀
    have w0₀ : gi Z3 t₀ 1 = gi M t₀ 1 - 1 := by rw [← hZ3, gi_si, if_pos ⟨rfl, rfl⟩, q0]
    have w2₀ : gi Z3 t₀ 2 = gi M t₀ 2 := by rw [← hZ3, gi_si, if_neg (by omega)]; exact q2₀
    have f3₀ : mm_f (fun a₀ k₀ => a₀ = t₀ + 2 ∨ (a₀ = t₀ ∧ k₀ = 1)) Y Z3 := by rw [← hZ3]; exact mm_f_si f2₀ (by omega)
    have vh : ∀ k₀, 0 ≤ k₀ → k₀ < gi M t₀ 1 - 1 → gi Z3 (t₀ + 2) k₀.toNat = mh_dh M (t₀ + 2) x₀ k₀ := by
      intro k₀ k0₀ k1₀
      rw [← hZ3, gi_si, if_neg (by omega), v2]
      unfold mh_dh
      rw [rh, rh]
      (repeat' split) <;> first | rfl | (exfalso; omega) | (congr 1; omega)
    clear hZ3 v2 rh fx f2₀
    have g₀ := SE₀ Z3 (gi M t₀ 2) (by omega) f3₀ w0₀ w2₀ vh
    clear SE₀
    (repeat' (((conv => whnf); first | (show (_ : Option mg_V) = _ ∧ _; assumption) | (show K _ _ _ _ _; assumption) | (show mm_th _ _ _ _; assumption) | refine And.intro (by first | assumption | omega | (simp only [true_and, kd_si, gr_si]; first | done | assumption | omega)) ?_ | (refine And.intro (fun _ => ?_) (fun _ => ?_) <;> first | (exfalso; omega) | skip) | intro _ | fail)))
    all_goals ((conv => whnf); skip)
    refine Exists.intro _ (Exists.intro _ (And.intro (g₀) (And.intro ?_ (fun _ _ h₀ => h₀.elim))))
    rintro _ N9 ⟨rfl, Q1₀⟩
    have Q₀ := And.intro (Eq.refl (none : Option mg_V)) Q1₀
    (repeat' (((conv => whnf); first | (show (_ : Option mg_V) = _ ∧ _; assumption) | (show K _ _ _ _ _; assumption) | (show mm_th _ _ _ _; assumption) | refine And.intro (by first | assumption | omega | (simp only [true_and, kd_si, gr_si]; first | done | assumption | omega)) ?_ | (refine And.intro (fun _ => ?_) (fun _ => ?_) <;> first | (exfalso; omega) | skip) | intro _ | fail)))
  have LP₀ : K 2 [(0, Sum.inr (Sum.inl t₀)), (1, Sum.inl x₀), (2, Sum.inl 0)] [] M 0 := by
    refine mh_for (P := fun j₀ Z₀ => mm_f (fun a₀ k₀ => (t₀ + 6 ≤ a₀ ∧ a₀ < t₀ + 126) ∧ (k₀ = 1 ∨ k₀ = 3)) M Z₀ ∧ ∀ i₀ : Nat, i₀ < n0₀ → ((i₀ : Int) < j₀ → gi Z₀ (gr M (t₀ + 3 + 1) i₀) 1 = mh_vt x₀ (gi M (gr M (t₀ + 3 + 1) i₀) 1) ∧ gi Z₀ (gr M (t₀ + 3 + 1) i₀) 3 = mh_vh x₀ (gi M (gr M (t₀ + 3 + 1) i₀) 1) (gi M (gr M (t₀ + 3 + 1) i₀) 3)) ∧ (j₀ ≤ i₀ → gi Z₀ (gr M (t₀ + 3 + 1) i₀) 1 = gi M (gr M (t₀ + 3 + 1) i₀) 1 ∧ gi Z₀ (gr M (t₀ + 3 + 1) i₀) 3 = gi M (gr M (t₀ + 3 + 1) i₀) 3)) (G := fun j₀ Z₀ => K 2 [(0, Sum.inr (Sum.inl t₀)), (1, Sum.inl x₀), (2, Sum.inl j₀)] [] Z₀ 0) (lo := 0) (hi := n0₀) (by omega) ?_ ?_ M ⟨mm_f_rfl, fun i₀ hi => ⟨fun z₀ => by omega, fun _ => ⟨rfl, rfl⟩⟩⟩
    · rintro Z₀ ⟨f₀, v₀⟩
      exact IT Z₀ f₀ (fun i₀ hi => (v₀ i₀ hi).1 (by omega))
    · rintro j₀ Z₀ j0 j1 ⟨f₀, v₀⟩ nex
      have g1 : kd Z₀ t₀ = 5 := (f₀.1 t₀).trans tb₀.1.1
      have g5₀ : gr Z₀ t₀ 5 = t₀ + 3 := (f₀.2.2.1 t₀ 5).trans tb₀.1.2.2.2.1
      have g5n : gr Z₀ t₀ 5 ≠ 0 := by omega
      have sz3 := mm_f_gi f₀ (t₀ + 3) 0 (by omega)
      have clZ := mh_fr_cL cl₀ f₀.1 f₀.2.1 f₀.2.2.1 sz3
      have kc₀ : kd Z₀ (gr Z₀ t₀ 5) = 4 := by rw [g5₀]; exact clZ.1
      have sz₀ : gi Z₀ (gr Z₀ t₀ 5) 0 = n0₀ := by rw [g5₀, sz3]; exact hn
      have c₀ := ca j₀.toNat (by omega)
      have o := ok₀ j₀.toNat (by omega)
      have vj := (v₀ j₀.toNat (by omega)).2 (by omega)
      have ea : gr Z₀ (t₀ + 3 + 1) j₀.toNat = gr M (t₀ + 3 + 1) j₀.toNat := f₀.2.2.1 _ _
      have e1₀ := mm_f_gi f₀ (gr M (t₀ + 3 + 1) j₀.toNat) 0 (by omega)
      have e3₀ := mm_f_gi f₀ (gr M (t₀ + 3 + 1) j₀.toNat) 2 (by omega)
      have ka : kd Z₀ (gr M (t₀ + 3 + 1) j₀.toNat) = 3 := (f₀.1 _).trans c₀.1
      have inj : ∀ i₀ : Nat, i₀ < n0₀ → gr M (t₀ + 3 + 1) i₀ = gr M (t₀ + 3 + 1) j₀.toNat → i₀ = j₀.toNat := fun i₀ hi e₀ => ci i₀ j₀.toNat (by omega) (by omega) e₀
      unfold mh_ok at o
      have sm₀ : mg_sm Z₀ (gr M (t₀ + 3 + 1) j₀.toNat) := ⟨ka, by omega, by omega⟩
      have gt := @cX3_get D l hl Z₀ (t₀ + 3) j₀ clZ (by omega)
      rw [ea] at gt
      have mr := @cX2_loseColumn D l hl Z₀ (gr M (t₀ + 3 + 1) j₀.toNat) x₀ sm₀
      have w₀ : K 2 [(0, Sum.inr (Sum.inl t₀)), (1, Sum.inl x₀), (2, Sum.inl (j₀ + 1))] [] (if x₀ < gi Z₀ (gr M (t₀ + 3 + 1) j₀.toNat) 1 then si Z₀ (gr M (t₀ + 3 + 1) j₀.toNat) 1 (gi Z₀ (gr M (t₀ + 3 + 1) j₀.toNat) 1 - 1) else if x₀ ≤ gi Z₀ (gr M (t₀ + 3 + 1) j₀.toNat) 1 + gi Z₀ (gr M (t₀ + 3 + 1) j₀.toNat) 3 - 1 then si Z₀ (gr M (t₀ + 3 + 1) j₀.toNat) 3 (gi Z₀ (gr M (t₀ + 3 + 1) j₀.toNat) 3 - 1) else Z₀) 0 := by
        refine nex _ ⟨?_, fun i₀ hi => ⟨fun hj => ?_, fun hj => ?_⟩⟩
        · (repeat' split)
          · exact mm_f_si f₀ (by omega)
          · exact mm_f_si f₀ (by omega)
          · exact f₀
        · by_cases e₀ : i₀ = j₀.toNat
          · rw [e₀]
            unfold mh_vt mh_vh
            rw [vj.1, vj.2]
            (repeat' split) <;> first | (exfalso; omega) | (refine ⟨?_, ?_⟩ <;> first | omega | (simp [gi_si]; done) | (simp [gi_si]; omega))
          · have g₀ := (v₀ i₀ hi).1 (by omega)
            have ne₀ : ¬ (gr M (t₀ + 3 + 1) i₀ = gr M (t₀ + 3 + 1) j₀.toNat) := fun q₀ => e₀ (inj i₀ hi q₀)
            (repeat' split) <;> first | exact g₀ | (simp only [gi_si, ne₀, false_and, if_false]; exact g₀)
        · have g₀ := (v₀ i₀ hi).2 (by omega)
          have ne₀ : ¬ (gr M (t₀ + 3 + 1) i₀ = gr M (t₀ + 3 + 1) j₀.toNat) := fun q₀ => by have := inj i₀ hi q₀; omega
          (repeat' split) <;> first | exact g₀ | (simp only [gi_si, ne₀, false_and, if_false]; exact g₀)
      clear nex v₀ inj IT tl nb tb₀ cl₀ ok₀ own₀ ca ci clZ
      refine hK₀ _ _ _ _ _ ?_
      (repeat' (((conv => whnf); first | (show (_ : Option mg_V) = _ ∧ _; assumption) | (show K _ _ _ _ _; assumption) | (show mm_th _ _ _ _; assumption) | refine And.intro (by first | assumption | omega | (simp only [true_and, kd_si, gr_si]; first | done | assumption | omega)) ?_ | (refine And.intro (fun _ => ?_) (fun _ => ?_) <;> first | (exfalso; omega) | skip) | intro _ | fail)))
      all_goals ((conv => whnf); try rw [g5₀])
      (refine Exists.intro _ (Exists.intro _ (And.intro (gt) (And.intro ?_ (fun _ _ h₀ => h₀.elim)))); rintro _ _ ⟨rfl, e₀⟩; have e2₀ := e₀.symm; clear e₀; subst e2₀)
      (repeat' (((conv => whnf); first | (show (_ : Option mg_V) = _ ∧ _; assumption) | (show K _ _ _ _ _; assumption) | (show mm_th _ _ _ _; assumption) | refine And.intro (by first | assumption | omega | (simp only [true_and, kd_si, gr_si]; first | done | assumption | omega)) ?_ | (refine And.intro (fun _ => ?_) (fun _ => ?_) <;> first | (exfalso; omega) | skip) | intro _ | fail)))
      all_goals (try ((conv => whnf); (refine Exists.intro _ (Exists.intro _ (And.intro (mr) (And.intro ?_ (fun _ _ h₀ => h₀.elim)))); rintro _ _ ⟨rfl, e₀⟩; have e2₀ := e₀.symm; clear e₀; subst e2₀); (repeat' (((conv => whnf); first | (show (_ : Option mg_V) = _ ∧ _; assumption) | (show K _ _ _ _ _; assumption) | (show mm_th _ _ _ _; assumption) | refine And.intro (by first | assumption | omega | (simp only [true_and, kd_si, gr_si]; first | done | assumption | omega)) ?_ | (refine And.intro (fun _ => ?_) (fun _ => ?_) <;> first | (exfalso; omega) | skip) | intro _ | fail)))))
      all_goals ((conv => whnf); exact w₀)
  have k5₀ := tb₀.1.1
  clear IT tl nb cl₀ ok₀ own₀ ca ci
  refine hK₀ _ _ _ _ _ ?_
  (repeat' (((conv => whnf); first | (show (_ : Option mg_V) = _ ∧ _; assumption) | (show K _ _ _ _ _; assumption) | (show mm_th _ _ _ _; assumption) | refine And.intro (by first | assumption | omega | (simp only [true_and, kd_si, gr_si]; first | done | assumption | omega)) ?_ | (refine And.intro (fun _ => ?_) (fun _ => ?_) <;> first | (exfalso; omega) | skip) | intro _ | fail)))
