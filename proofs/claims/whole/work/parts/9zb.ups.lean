/-! a₀ change that selects the first square behind₀ it -/
theorem mh_UPS {M N1 N2 P : mg_M} {g₀ m₀ t₀ u₀ : Nat} {R C hd₀ : Int} {J₀ : Int → Int → Int} {cn sy wd ht : Int → Int} (I₀ : mh_INV M g₀ m₀ t₀ u₀) (r₀ : mh_rmb M N1 g₀ t₀ u₀) (fw : mh_chg N1 N2 g₀ m₀ t₀) (fm : ∀ a₀ k₀, m₀ ≤ a₀ → a₀ < m₀ + 18 → gi N2 a₀ k₀ = gi N1 a₀ k₀) (ff₀ : mh_far N1 N2 g₀) (tn₀ : mh_tl N2 t₀ ∧ mh_nb N2 t₀) (hs : mh_hs N2 P t₀ (g₀ + 259) 0 0 0 0) (hR : gi N2 t₀ 0 = R ∧ gi N2 t₀ 1 = C ∧ gi N2 t₀ 2 = hd₀) (hb₀ : (1 ≤ R ∧ 1 ≤ C) ∧ (0 ≤ hd₀ ∧ hd₀ ≤ R)) (hJ : ∀ p₀ q₀ p' q', mh_rg R C p₀ q₀ → mh_rg R C p' q' → (mh_at N2 t₀ p₀ q₀ = mh_at N2 t₀ p' q' ↔ J₀ p₀ q₀ = J₀ p' q')) (hc₀ : ∀ p₀ q₀, mh_rg R C p₀ q₀ → (gi N2 (mh_co N2 t₀ p₀ q₀) 4 = cn (J₀ p₀ q₀) ∧ gi N2 (mh_co N2 t₀ p₀ q₀) 5 = sy (J₀ p₀ q₀)) ∧ 0 ≤ cn (J₀ p₀ q₀) ∧ cn (J₀ p₀ q₀) ≤ 999) (hw : ∀ k₀, 0 ≤ k₀ → k₀ < C → gi N2 (t₀ + 2) k₀.toNat = wd k₀ ∧ 10 ≤ wd k₀ ∧ wd k₀ ≤ 200) (hh : ∀ k₀, 0 ≤ k₀ → k₀ < R → gi N2 (t₀ + 1) k₀.toNat = ht k₀ ∧ 5 ≤ ht k₀ ∧ ht k₀ ≤ 100) :
    mh_til R C J₀ (mh_fT P t₀ 0) (mh_fT P t₀ 1) (mh_fT P t₀ 2) (mh_fT P t₀ 3) ∧ (∀ a₀ k₀, m₀ ≤ a₀ → a₀ < m₀ + 18 → gi P a₀ k₀ = gi M a₀ k₀) ∧ mm_st P m₀ ∧ mh_far M P g₀ ∧ gi P (u₀ + 3) 0 = gi M (t₀ + 3) 0 ∧ ∀ o z₀ Q₀, mm_nw (sl P o 0 z₀) Q₀ m₀ R C hd₀ J₀ cn sy wd ht → mm_se Q₀ m₀ R C (mh_fT P t₀ 0) (mh_fT P t₀ 1) (mh_fT P t₀ 2) (mh_fT P t₀ 3) → gi Q₀ m₀ 4 = gi P (t₀ + 3) 0 ∧ gi Q₀ m₀ 0 = 0 ∧ mh_far (sl P o 0 z₀) Q₀ g₀ ∧ ∃ t₀ u₀, mh_INV Q₀ g₀ m₀ t₀ u₀ := by
  obtain ⟨tl2, nb2⟩ := tn₀
  have pm := I₀.2.2.1.2
  have pl := I₀.1.2.2.1
  obtain ⟨K1, E1₀, FR, h21⟩ := mh_rmb_K I₀.1 r₀
  have UR₀ := mh_rmb_u r₀ (by omega)
  have ka : kd N2 (g₀ + 259) = 1 := (fw.1 _).trans ((FR.1 _).trans I₀.1.2.1.1)
  obtain ⟨fx, ar, hu⟩ := hs
  obtain ⟨tlP, atP, coP, s0₀, s1₀, s3₀⟩ := mh_fx_tl fx ka tl2
  have nbP : mh_nb P t₀ := fun p₀ q₀ h1 h2 h3 h4 => by rw [atP]; exact nb2 p₀ q₀ h1 (by omega) h3 (by omega)
  have s2₀ : gi P t₀ 2 = gi N2 t₀ 2 := fx.2.2.2.2.2.2 t₀ 2 (by omega)
  have gP : ∀ a₀ k₀, a₀ ≠ g₀ + 259 → gi P a₀ k₀ = gi N2 a₀ k₀ := fun a₀ k₀ h₀ => fx.2.2.2.2.2.2 a₀ k₀ h₀
  have hJP : ∀ p₀ q₀ p' q', mh_rg R C p₀ q₀ → mh_rg R C p' q' → (J₀ p₀ q₀ = J₀ p' q' ↔ mh_at P t₀ p₀ q₀ = mh_at P t₀ p' q') := fun p₀ q₀ p' q' h₀ h' => by rw [atP, atP]; exact (hJ p₀ q₀ p' q' h₀ h').symm
  have til := mh_til_at tlP nbP
  rw [s0₀, s1₀, hR.1, hR.2.1] at til
  have cm : ∀ a₀ k₀, m₀ ≤ a₀ → a₀ < m₀ + 18 → gi P a₀ k₀ = gi M a₀ k₀ := fun a₀ k₀ h1 h2 => (gP a₀ k₀ (by omega)).trans ((fm a₀ k₀ h1 h2).trans (mm_f_gi FR a₀ k₀ (by omega)))
  have stP : mm_st P m₀ := mh_st_g I₀.2.2.1.1 (fun a₀ => (fx.1 a₀).trans ((fw.1 a₀).trans (FR.1 a₀))) (fun a₀ => (fx.2.1 a₀).trans ((fw.2.1 a₀).trans (FR.2.1 a₀))) (fun k₀ => (fx.2.2.1 m₀ k₀).trans (((fw.2.2.1 m₀ k₀).resolve_left (by omega)).trans (FR.2.2.1 m₀ k₀)))
  have ccP : mh_cc P t₀ = mh_cc N2 t₀ := mh_cc_fx fx ka tl2
  have cqP := mh_cc_cq tlP nbP
  rw [s0₀, s1₀, hR.1, hR.2.1] at cqP
  have coV : ∀ p₀ q₀, mh_rg R C p₀ q₀ → ∀ k₀, gi P (mh_co P t₀ p₀ q₀) k₀ = gi N2 (mh_co N2 t₀ p₀ q₀) k₀ := fun p₀ q₀ h₀ k₀ => by
    rw [coP]
    obtain ⟨i₀, hi, i1₀, w₀, e₀, ec⟩ := mh_sqc tl2 nb2 (p₀ := p₀) (q₀ := q₀) (by rw [hR.1, hR.2.1]; exact h₀)
    have a₀ := tl2.2.1.2.2.2.2.2.2.2.1 i₀ i1₀
    rw [ec]
    exact gP _ k₀ (by omega)
  refine ⟨mh_til_J til (fun p₀ q₀ p' q' h₀ h' => hJP p₀ q₀ p' q' h₀ h'), cm, stP, mh_far_tr (mh_far_tr (mh_far_f FR (fun a₀ k₀ w₀ => by omega)) ff₀) (mh_far_fx fx (by omega)), (gP _ 0 (by omega)).trans (((fw.2.2.2 _ 0).resolve_left (by omega)).trans UR₀.2.2.2), fun o z₀ Q₀ nw se => ?_⟩
  have cnt₀ : gi Q₀ m₀ 4 = gi P (t₀ + 3) 0 := by
    obtain ⟨f₀, _, kt, n4₀, n5₀, n6₀, n7, _⟩ := nw
    refine mh_tie_cnt (I₀ := mi Q₀ (m₀ + 1)) tlP nbP n4₀.1 (by rw [s0₀, s1₀, hR.1, hR.2.1]; exact n5₀) (by rw [s0₀, s1₀, hR.1, hR.2.1]; exact n6₀) (fun p₀ q₀ p' q' h₀ h' => ?_)
    rw [s0₀, s1₀, hR.1, hR.2.1] at h₀ h'
    rw [n7 p₀ q₀ p' q' h₀ h']
    exact hJP p₀ q₀ p' q' h₀ h'
  have hull := se.2
  rw [cqP, ccP] at hull
  have eq₀ := mh_hull1 hull hu
  refine ⟨cnt₀, mh_UPD I₀ r₀ (mh_chg_tr fw (mh_chg_fx fx (Or.inr (Or.inl rfl)))) cm tlP nbP ⟨s0₀.trans hR.1, s1₀.trans hR.2.1, s2₀.trans hR.2.2⟩ hb₀ (fun p₀ q₀ p' q' h₀ h' => (hJP p₀ q₀ p' q' h₀ h').symm) (fun p₀ q₀ h₀ => ?_) (fun k₀ k0₀ k1₀ => ?_) (fun k₀ k0₀ k1₀ => ?_) ar (by rw [ccP]; exact hu.2.1) nw eq₀⟩
  · rw [coV p₀ q₀ h₀, coV p₀ q₀ h₀]
    exact hc₀ p₀ q₀ h₀
  · rw [gP (t₀ + 2) _ (by omega)]
    exact hw k₀ k0₀ k1₀
  · rw [gP (t₀ + 1) _ (by omega)]
    exact hh k₀ k0₀ k1₀
/-- what remember leaves of the table₀: its numbers' contents -/
theorem mh_cn_at {M N : mg_M} {g₀ t₀ u₀ f₀ : Nat} {p₀ q₀ : Int} (K9 : mh_K M g₀ t₀ u₀) (r₀ : mh_rmb M N g₀ t₀ u₀) (h₀ : mh_rg (gi M t₀ 0) (gi M t₀ 1) p₀ q₀) : mh_cn N t₀ f₀ (mh_at N t₀ p₀ q₀) = gi M (mh_co M t₀ p₀ q₀) f₀ ∧ mh_at N t₀ p₀ q₀ = mh_at M t₀ p₀ q₀ ∧ 0 ≤ mh_at M t₀ p₀ q₀ ∧ mh_at M t₀ p₀ q₀ < 120 := by
  obtain ⟨K1, E1₀, FR, h21⟩ := mh_rmb_K K9 r₀
  obtain ⟨tl, nb⟩ := K9.2.2.2.1
  obtain ⟨i₀, hi, i1₀, w₀, e₀, ec⟩ := mh_sqc tl nb h₀
  obtain ⟨x1₀, x2₀⟩ := mh_eq_cells E1₀ tl.2.1 i1₀
  have ea : mh_at N t₀ p₀ q₀ = mh_at M t₀ p₀ q₀ := by rw [mh_eq_at E1₀]
  refine ⟨?_, ea, by omega, by omega⟩
  rw [ea, e₀]
  unfold mh_cn
  rw [if_pos (by omega), Int.toNat_natCast, x1₀, x2₀, ec]
theorem ti_insertRow0 {D : mg_D} {l : Launch} (hl : l.stackTraces = false) {M : mg_M} {g₀ m₀ t₀ u₀ : Nat} {x₀ : Int} (I₀ : mh_INV M g₀ m₀ t₀ u₀) (h₀ : 0 ≤ x₀ ∧ x₀ ≤ gi M t₀ 0) (h2 : gi M t₀ 0 < 12) : mh_opN D l 76 146 [.inl x₀] M g₀ m₀ := by
  obtain ⟨st₀, rc, h4, si9, rts, hid₀, cnt₀, hco, hw, hh, hb₀, hd₀⟩ := mh_INV_m I₀
  have K9 := I₀.1
  have V9 := I₀.2.1
  have zf := I₀.2.2.2.1
  have sq := I₀.2.2.2.2.1
  have pm := I₀.2.2.1.2
  have pl := I₀.1.2.2.1
  refine ⟨fun z₀ P => z₀ = gi P (t₀ + 3) 0 ∧ ∃ N1 N2, mh_rmb M N1 g₀ t₀ u₀ ∧ mh_nv N1 N2 t₀ (gi N1 t₀ 0 + 1) (gi N1 t₀ 1) (gi N1 t₀ 2 + (if x₀ < gi N1 t₀ 2 then 1 else 0)) (mh_irG (mh_at N1 t₀) (gi N1 t₀ 0) x₀) (mh_cn N1 t₀ 4) (mh_cn N1 t₀ 5) (fun k₀ => gi N1 (t₀ + 2) k₀.toNat) (mh_ih N1 (t₀ + 1) x₀ 20) ∧ mh_hs N2 P t₀ (g₀ + 259) 0 0 0 0, mg_MtN (cX5_insertRow0 hl K9 h₀ h2) (fun v₀ P h₀ => ⟨_, h₀.1, rfl, h₀.2⟩), ?_⟩
  rintro z9 P ⟨hz, N1, N2, r₀, nv, hs⟩
  obtain ⟨K1, E1₀, FR, h21⟩ := mh_rmb_K K9 r₀
  have v0₀ := (E1₀ t₀ (by omega) (by omega)).2.2.2
  have v1₀ := (E1₀ (t₀ + 1) (by omega) (by omega)).2.2.2
  have v2 := (E1₀ (t₀ + 2) (by omega) (by omega)).2.2.2
  obtain ⟨fw, tn₀, sz₀, hat, hct, hwd, hht⟩ := nv
  rw [v0₀, v0₀, v0₀] at sz₀
  rw [v0₀, v0₀] at hat hct
  rw [v0₀] at hht
  rw [v0₀] at hwd
  obtain ⟨q1₀, q2₀, q3₀, q4₀, q5₀⟩ := sq
  -- each₀ square of the new₀ table₀ comes from an old₀ one or is₀ new₀
  have lf₀ : ∀ p₀ q₀, mh_rg (gi M t₀ 0 + 1) (gi M t₀ 1) p₀ q₀ → (∃ a₀ b₀, mh_rg (gi M t₀ 0) (gi M t₀ 1) a₀ b₀ ∧ mi_ir M m₀ x₀ p₀ q₀ = mi M (m₀ + 1) a₀ b₀ ∧ mh_irG (mh_at N1 t₀) (gi M t₀ 0) x₀ p₀ q₀ = mh_at N1 t₀ a₀ b₀) ∨ (∃ k₀, 120 ≤ k₀ ∧ mi_ir M m₀ x₀ p₀ q₀ = k₀ ∧ mh_irG (mh_at N1 t₀) (gi M t₀ 0) x₀ p₀ q₀ = k₀) := by
    intro p₀ q₀ hr
    unfold mi_ir mh_irG
    by_cases c1₀ : p₀ < x₀
    · exact Or.inl ⟨p₀, q₀, by omega, by rw [if_pos c1₀], by rw [if_pos c1₀]⟩
    by_cases c2₀ : x₀ < p₀
    · exact Or.inl ⟨p₀ - 1, q₀, by omega, by rw [if_neg c1₀, if_pos c2₀], by rw [if_neg c1₀, if_pos c2₀]⟩
    rw [if_neg c1₀, if_neg c1₀, if_neg c2₀, if_neg c2₀, zf.1]
    by_cases c3₀ : 0 < x₀ ∧ x₀ < gi M t₀ 0
    · have e₀ := q2₀ (x₀ - 1) q₀ x₀ q₀ (by omega) (by omega)
      rw [mh_eq_at E1₀]
      by_cases c4₀ : mh_at M t₀ (x₀ - 1) q₀ = mh_at M t₀ x₀ q₀
      · exact Or.inl ⟨x₀, q₀, by omega, by rw [if_pos ⟨c3₀, e₀.2 c4₀⟩], by rw [if_pos ⟨c3₀, c4₀⟩]⟩
      · exact Or.inr ⟨120 + q₀, by omega, by rw [if_neg (fun w₀ => c4₀ (e₀.1 w₀.2))], by rw [if_neg (fun w₀ => c4₀ w₀.2)]⟩
    · exact Or.inr ⟨120 + q₀, by omega, by rw [if_neg (fun w₀ => c3₀ w₀.1)], by rw [if_neg (fun w₀ => c3₀ w₀.1)]⟩
  have part₀ := mh_lift (J1 := mi M (m₀ + 1)) (J2 := mh_at N1 t₀) (K1 := mi_ir M m₀ x₀) (K2 := mh_irG (mh_at N1 t₀) (gi M t₀ 0) x₀) (fun p₀ q₀ p' q' a₀ b₀ => by rw [mh_eq_at E1₀]; exact q2₀ p₀ q₀ p' q' a₀ b₀) (fun p₀ q₀ a₀ => (q1₀ p₀ q₀ a₀).2) (fun p₀ q₀ a₀ => by have := (@mh_cn_at M N1 g₀ t₀ u₀ 4 p₀ q₀ K9 r₀ a₀).2; omega) lf₀
  have hC : ∀ p₀ q₀, mh_rg (gi M t₀ 0 + 1) (gi M t₀ 1) p₀ q₀ → (gi N2 (mh_co N2 t₀ p₀ q₀) 4 = mm_c0 M (m₀ + 2) (mi_ir M m₀ x₀ p₀ q₀) ∧ gi N2 (mh_co N2 t₀ p₀ q₀) 5 = mm_c0 M (m₀ + 3) (mi_ir M m₀ x₀ p₀ q₀)) ∧ 0 ≤ mm_c0 M (m₀ + 2) (mi_ir M m₀ x₀ p₀ q₀) ∧ mm_c0 M (m₀ + 2) (mi_ir M m₀ x₀ p₀ q₀) ≤ 999 := by
    intro p₀ q₀ a₀
    have w₀ := hct p₀ q₀ a₀
    rcases lf₀ p₀ q₀ a₀ with ⟨a', b', hr, j1, j2₀⟩ | ⟨k₀, hk, j1, j2₀⟩
    · obtain ⟨c4₀, _, _, _⟩ := @mh_cn_at M N1 g₀ t₀ u₀ 4 a' b' K9 r₀ hr
      obtain ⟨c5₀, _, _, _⟩ := @mh_cn_at M N1 g₀ t₀ u₀ 5 a' b' K9 r₀ hr
      rw [j2₀, c4₀, c5₀] at w₀
      have y₀ := q3₀ a' b' hr
      have y1 := q1₀ a' b' hr
      obtain ⟨i₀, hi, _, _, _, ec⟩ := mh_sqc K9.2.2.2.1.1 K9.2.2.2.1.2 hr
      have v₀ := V9.1 i₀ hi
      rw [← ec] at v₀
      rw [j1]
      unfold mm_c0
      rw [if_pos y1.2, if_pos y1.2]
      have y' : gi M (m₀ + 2) (mi M (m₀ + 1) a' b').toNat = gi M (mh_co M t₀ a' b') 4 ∧ gi M (m₀ + 3) (mi M (m₀ + 1) a' b').toNat = gi M (mh_co M t₀ a' b') 5 := y₀
      rw [y'.1, y'.2]
      exact ⟨w₀, v₀⟩
    · rw [j2₀] at w₀
      rw [j1]
      unfold mh_cn at w₀
      unfold mm_c0
      rw [if_neg (by omega), if_neg (by omega)] at w₀
      rw [if_neg (by omega), if_neg (by omega)]
      exact ⟨w₀, by omega⟩
  have hW : ∀ k₀, 0 ≤ k₀ → k₀ < gi M t₀ 1 → gi N2 (t₀ + 2) k₀.toNat = gi M (m₀ + 4) k₀.toNat ∧ 10 ≤ gi M (m₀ + 4) k₀.toNat ∧ gi M (m₀ + 4) k₀.toNat ≤ 200 := by
    intro k₀ k0₀ k1₀
    have w₀ : gi N2 (t₀ + 2) k₀.toNat = gi M (t₀ + 2) k₀.toNat := (hwd k₀ k0₀ k1₀).trans (v2 _)
    have y₀ := q4₀ k₀ k0₀ k1₀
    have y' : gi M (m₀ + 4) k₀.toNat = gi M (t₀ + 2) k₀.toNat := y₀
    have v₀ := V9.2.1 k₀.toNat (by omega)
    rw [y']
    exact ⟨w₀, v₀⟩
  have hH : ∀ k₀, 0 ≤ k₀ → k₀ < gi M t₀ 0 + 1 → gi N2 (t₀ + 1) k₀.toNat = mi_ih M m₀ x₀ k₀ ∧ 5 ≤ mi_ih M m₀ x₀ k₀ ∧ mi_ih M m₀ x₀ k₀ ≤ 100 := by
    intro k₀ k0₀ k1₀
    have w₀ := hht k₀ k0₀ k1₀
    rw [w₀]
    have v₀ := fun j₀ (a₀ : 0 ≤ j₀) (b₀ : j₀ < gi M t₀ 0) => V9.2.2 j₀.toNat (by omega)
    have y₀ : ∀ j₀, 0 ≤ j₀ → j₀ < gi M t₀ 0 → gi M (m₀ + 5) j₀.toNat = gi M (t₀ + 1) j₀.toNat := q5₀
    unfold mh_ih mi_ih
    rw [v1₀, v1₀]
    by_cases c1₀ : k₀ < x₀
    · rw [if_pos c1₀, if_pos c1₀, y₀ k₀ k0₀ (by omega)]
      exact ⟨rfl, v₀ k₀ k0₀ (by omega)⟩
    · rw [if_neg c1₀, if_neg c1₀]
      by_cases c2₀ : x₀ < k₀
      · rw [if_pos c2₀, if_pos c2₀, y₀ (k₀ - 1) (by omega) (by omega)]
        exact ⟨rfl, v₀ (k₀ - 1) (by omega) (by omega)⟩
      · rw [if_neg c2₀, if_neg c2₀]
        omega
  obtain ⟨til, cm, stP, far₀, cu, US₀⟩ := mh_UPS (J₀ := mi_ir M m₀ x₀) (cn := mm_c0 M (m₀ + 2)) (sy := mm_c0 M (m₀ + 3)) (wd := fun k₀ => gi M (m₀ + 4) k₀.toNat) (ht := mi_ih M m₀ x₀) I₀ r₀ (mh_chg_fw fw) (fun a₀ k₀ a1₀ a2 => (fw.2.2.2.2.2.2 a₀ k₀).resolve_left (by omega)) (mh_far_fw fw (by omega)) tn₀ hs sz₀ (by omega) (fun p₀ q₀ p' q' a₀ b₀ => (hat p₀ q₀ p' q' a₀ b₀).trans (part₀ p₀ q₀ p' q' a₀ b₀).symm) hC hW hH
  refine ⟨far₀, fun o => ?_⟩
  have e0₀ : ∀ k₀, gi (sl P o 0 z9) m₀ k₀ = gi M m₀ k₀ := fun k₀ => cm m₀ k₀ (by omega) (by omega)
  have e1₀ : ∀ k₀, gi (sl P o 0 z9) (m₀ + 1) k₀ = gi M (m₀ + 1) k₀ := fun k₀ => cm (m₀ + 1) k₀ (by omega) (by omega)
  have e2₀ : ∀ k₀, gi (sl P o 0 z9) (m₀ + 2) k₀ = gi M (m₀ + 2) k₀ := fun k₀ => cm (m₀ + 2) k₀ (by omega) (by omega)
  have e3₀ : ∀ k₀, gi (sl P o 0 z9) (m₀ + 3) k₀ = gi M (m₀ + 3) k₀ := fun k₀ => cm (m₀ + 3) k₀ (by omega) (by omega)
  have e4₀ : ∀ k₀, gi (sl P o 0 z9) (m₀ + 4) k₀ = gi M (m₀ + 4) k₀ := fun k₀ => cm (m₀ + 4) k₀ (by omega) (by omega)
  have e5₀ : ∀ k₀, gi (sl P o 0 z9) (m₀ + 5) k₀ = gi M (m₀ + 5) k₀ := fun k₀ => cm (m₀ + 5) k₀ (by omega) (by omega)
  have eF : mi (sl P o 0 z9) (m₀ + 1) = mi M (m₀ + 1) := by funext p₀ q₀; exact e1₀ _
  have eJ : mi_ir (sl P o 0 z9) m₀ x₀ = mi_ir M m₀ x₀ := by funext p₀ q₀; unfold mi_ir; rw [eF, e0₀]
  have eC₀ : mm_c0 (sl P o 0 z9) (m₀ + 2) = mm_c0 M (m₀ + 2) := by funext k₀; simp only [mm_c0, e2₀]
  have eS : mm_c0 (sl P o 0 z9) (m₀ + 3) = mm_c0 M (m₀ + 3) := by funext k₀; simp only [mm_c0, e3₀]
  have eH : mi_ih (sl P o 0 z9) m₀ x₀ = mi_ih M m₀ x₀ := by funext k₀; simp only [mi_ih, e5₀]
  have R := @cX6_insertRow0 D l hl (sl P o 0 z9) m₀ x₀ (mh_fT P t₀ 0) (mh_fT P t₀ 1) (mh_fT P t₀ 2) (mh_fT P t₀ 3) stP (by unfold mm_rc; rw [e0₀, e0₀]; omega) (by rw [e0₀]; omega) (by rw [e0₀]; omega) (by rw [e0₀, e0₀]; omega) (by rw [e0₀, e0₀]; omega) (fun r₀ c₀ a₀ => by rw [e0₀, e0₀] at a₀; simp only [mi, e1₀]; exact hid₀ r₀ c₀ a₀) (by rw [eJ, e0₀, e0₀, zf.1, zf.2.1]; exact til)
  rw [eJ, eC₀, eS, eH] at R
  simp only [e0₀, e4₀] at R
  rw [zf.1, zf.2.1, zf.2.2] at R
  refine mg_MtN R ?_
  rintro w₀ Q₀ ⟨e₀, nw, se⟩
  obtain ⟨c4₀, rest₀⟩ := US₀ o z9 Q₀ nw se
  exact ⟨by rw [e₀, hz, c4₀], rest₀⟩
