/-! takeBack, merge tied₀ -/
theorem ti_takeBack0 {D : mg_D} {l : Launch} (hl : l.stackTraces = false) {M : mg_M} {g₀ m₀ t₀ u₀ : Nat} (I₀ : mh_INV M g₀ m₀ t₀ u₀) (h₀ : gi M g₀ 2 = 1) : mh_opN D l 109 202 [] M g₀ m₀ := by
  obtain ⟨st₀, rc, h4, si9, rts, hid₀, cnt₀, hco, hw, hh, hb₀, hd₀⟩ := mh_INV_m I₀
  have K9 := I₀.1
  have V9 := I₀.2.1
  have zf := I₀.2.2.2.1
  have sq := I₀.2.2.2.2.1
  have pm := I₀.2.2.1.2
  have pl := I₀.1.2.2.1
  have bb := K9.2.2.2.1.1.1.2.2
  obtain ⟨⟨tlu, nbu⟩, ob₀, oh, osq, oV⟩ := I₀.2.2.2.2.2.2.2.1.2 h₀
  have g10 := I₀.2.2.2.2.2.2.2.1.1.1
  have bkt := I₀.2.2.2.2.2.2.2.2
  have F9 := mh_gF_of K9
  have ckl := K9.2.1.2.2.2.2
  have rb := K9.2.2.2.2.2
  obtain ⟨tl, nb⟩ := K9.2.2.2.1
  have bu := tlu.1.2.2
  refine ⟨fun z₀ P => z₀ = (if gi M (u₀ + 3) 0 = gi M (t₀ + 3) 0 then (1 : Int) else 0) ∧ ∃ Y, Y = sr (sr M g₀ 1 t₀) g₀ 0 u₀ ∧ mh_hs Y P u₀ (g₀ + 259) 0 0 0 0, mg_MtN (cX5_takeBack0 hl K9 h₀ tlu nbu oh.1 rfl) (fun v₀ P h₀ => ⟨_, h₀.1, rfl, _, rfl, h₀.2⟩), ?_⟩
  rintro z9 P ⟨hz, Y, hY, hs⟩
  have rY : ∀ a₀ k₀, a₀ ≠ g₀ → gr Y a₀ k₀ = gr M a₀ k₀ := fun a₀ k₀ hn => by rw [hY, gr_sr, if_neg (fun w₀ => hn w₀.1), gr_sr, if_neg (fun w₀ => hn w₀.1)]
  have vY : ∀ a₀ k₀, gi Y a₀ k₀ = gi M a₀ k₀ := fun a₀ k₀ => by rw [hY]; rfl
  have kY : ∀ a₀, kd Y a₀ = kd M a₀ := fun a₀ => by rw [hY]; rfl
  have lY : ∀ a₀, ln Y a₀ = ln M a₀ := fun a₀ => by rw [hY]; rfl
  have glY : ∀ a₀ k₀, gl Y a₀ k₀ = gl M a₀ k₀ := fun a₀ k₀ => by rw [hY]; rfl
  have gdY : ∀ a₀ k₀, gd Y a₀ k₀ = gd M a₀ k₀ := fun a₀ k₀ => by rw [hY]; rfl
  have gY0 : gr Y g₀ 0 = u₀ := by rw [hY, gr_sr, if_pos ⟨rfl, rfl⟩]
  have gY1 : gr Y g₀ 1 = t₀ := by rw [hY, gr_sr, if_neg (by omega), gr_sr, if_pos ⟨rfl, rfl⟩]
  have gYk : ∀ k₀, k₀ ≠ 0 → k₀ ≠ 1 → gr Y g₀ k₀ = gr M g₀ k₀ := fun k₀ h0 h1 => by rw [hY, gr_sr, if_neg (fun w₀ => h0 w₀.2), gr_sr, if_neg (fun w₀ => h1 w₀.2)]
  clear hY
  have eu : mh_eq M Y u₀ := fun a₀ h1 h2 => ⟨kY a₀, lY a₀, fun k₀ => rY a₀ k₀ (by omega), fun k₀ => vY a₀ k₀⟩
  obtain ⟨tlY, nbY⟩ := mh_eq_tl eu tlu nbu
  obtain ⟨fx, ar, hu⟩ := hs
  have ccY : mh_cc Y u₀ = mh_cc M u₀ := mh_cc_eq eu tlu.2.1
  have euP : mh_eq M P u₀ := fun a₀ h1 h2 => ⟨(fx.1 a₀).trans (kY a₀), (fx.2.1 a₀).trans (lY a₀), fun k₀ => (fx.2.2.1 a₀ k₀).trans (rY a₀ k₀ (by omega)), fun k₀ => (fx.2.2.2.2.2.2 a₀ k₀ (by omega)).trans (vY a₀ k₀)⟩
  have etP : mh_eq M P t₀ := fun a₀ h1 h2 => ⟨(fx.1 a₀).trans (kY a₀), (fx.2.1 a₀).trans (lY a₀), fun k₀ => (fx.2.2.1 a₀ k₀).trans (rY a₀ k₀ (by omega)), fun k₀ => (fx.2.2.2.2.2.2 a₀ k₀ (by omega)).trans (vY a₀ k₀)⟩
  obtain ⟨tlP, nbP⟩ := mh_eq_tl euP tlu nbu
  have ccP : mh_cc P u₀ = mh_cc M u₀ := mh_cc_eq euP tlu.2.1
  have gP : ∀ a₀ k₀, a₀ ≠ g₀ + 259 → gi P a₀ k₀ = gi M a₀ k₀ := fun a₀ k₀ w₀ => (fx.2.2.2.2.2.2 a₀ k₀ w₀).trans (vY a₀ k₀)
  have cm : ∀ a₀ k₀, m₀ ≤ a₀ → a₀ < m₀ + 18 → gi P a₀ k₀ = gi M a₀ k₀ := fun a₀ k₀ h1 h2 => gP a₀ k₀ (by omega)
  have stP : mm_st P m₀ := mh_st_g st₀ (fun a₀ => (fx.1 a₀).trans (kY a₀)) (fun a₀ => (fx.2.1 a₀).trans (lY a₀)) (fun k₀ => (fx.2.2.1 m₀ k₀).trans (rY m₀ k₀ (by omega)))
  have u0 := (euP u₀ (by omega) (by omega)).2.2.2
  have far₀ : mh_far M P g₀ := mh_far_tr (show mh_far M Y g₀ from ⟨kY, lY, glY, gdY, fun a₀ k₀ _ => vY a₀ k₀⟩) (mh_far_fx fx (by omega))
  obtain ⟨q1₀, q2₀, q3₀, q4₀, q5₀⟩ := osq
  have til : mh_til (gi M u₀ 0) (gi M u₀ 1) (fun p₀ q₀ => mi M (m₀ + 6) p₀ q₀) (mh_fT P u₀ 0) (mh_fT P u₀ 1) (mh_fT P u₀ 2) (mh_fT P u₀ 3) := by
    have a₀ := mh_til_at tlP nbP
    rw [u0, u0] at a₀
    exact mh_til_J a₀ (fun p₀ q₀ p' q' h₀ h' => by rw [mh_eq_at euP]; exact q2₀ p₀ q₀ p' q' h₀ h')
  have cqP := mh_cc_cq tlP nbP
  rw [u0, u0, ccP] at cqP
  rw [ccY] at hu
  refine ⟨far₀, fun o => ?_⟩
  have e0₀ : ∀ k₀, gi (sl P o 0 z9) m₀ k₀ = gi M m₀ k₀ := fun k₀ => cm m₀ k₀ (by omega) (by omega)
  have e7₀ : ∀ k₀, gi (sl P o 0 z9) (m₀ + 7) k₀ = gi M (m₀ + 7) k₀ := fun k₀ => cm (m₀ + 7) k₀ (by omega) (by omega)
  have e8 : ∀ k₀, gi (sl P o 0 z9) (m₀ + 8) k₀ = gi M (m₀ + 8) k₀ := fun k₀ => cm (m₀ + 8) k₀ (by omega) (by omega)
  have e9₀ : ∀ k₀, gi (sl P o 0 z9) (m₀ + 9) k₀ = gi M (m₀ + 9) k₀ := fun k₀ => cm (m₀ + 9) k₀ (by omega) (by omega)
  have e10₀ : ∀ k₀, gi (sl P o 0 z9) (m₀ + 10) k₀ = gi M (m₀ + 10) k₀ := fun k₀ => cm (m₀ + 10) k₀ (by omega) (by omega)
  have eF : mi (sl P o 0 z9) (m₀ + 6) = mi M (m₀ + 6) := by funext p₀ q₀; exact cm (m₀ + 6) _ (by omega) (by omega)
  have R := @cX6_takeBack0 D l hl (sl P o 0 z9) m₀ (mh_fT P u₀ 0) (mh_fT P u₀ 1) (mh_fT P u₀ 2) (mh_fT P u₀ 3) stP (by rw [e0₀, g10]; exact h₀) (by rw [e0₀, e0₀]; omega) (fun r₀ c₀ a₀ => by rw [e0₀, e0₀, ob₀.1, ob₀.2.1] at a₀; rw [eF]; exact q1₀ r₀ c₀ a₀) (by rw [eF, e0₀, e0₀, ob₀.1, ob₀.2.1]; exact til)
  rw [eF] at R
  simp only [e0₀, e7₀, e8, e9₀, e10₀] at R
  rw [ob₀.1, ob₀.2.1, ob₀.2.2] at R
  refine mg_MtN R ?_
  rintro w₀ Q₀ ⟨e₀, nw, se⟩
  obtain ⟨f₀, ⟨n0₀, n1₀, n2₀, n3₀⟩, kt, n4₀, n5₀, n6₀, n7, n8, n9, n10⟩ := nw
  have f1₀ : ∀ a₀, kd Q₀ a₀ = kd M a₀ := fun a₀ => (f₀.1 a₀).trans ((fx.1 a₀).trans (kY a₀))
  have f2₀ : ∀ a₀, ln Q₀ a₀ = ln M a₀ := fun a₀ => (f₀.2.1 a₀).trans ((fx.2.1 a₀).trans (lY a₀))
  have f3₀ : ∀ a₀ k₀, gr Q₀ a₀ k₀ = gr Y a₀ k₀ := fun a₀ k₀ => (f₀.2.2.1 a₀ k₀).trans (fx.2.2.1 a₀ k₀)
  have f4₀ : ∀ a₀ k₀, (a₀ < m₀ ∨ m₀ + 18 ≤ a₀) → gi Q₀ a₀ k₀ = gi P a₀ k₀ := fun a₀ k₀ h₀ => (f₀.2.2.2.2.2.2 a₀ k₀).resolve_left (by omega)
  have euQ : mh_eq M Q₀ u₀ := fun a₀ h1 h2 => ⟨f1₀ a₀, f2₀ a₀, fun k₀ => (f3₀ a₀ k₀).trans (rY a₀ k₀ (by omega)), fun k₀ => (f4₀ a₀ k₀ (by omega)).trans (gP a₀ k₀ (by omega))⟩
  have etQ : mh_eq M Q₀ t₀ := fun a₀ h1 h2 => ⟨f1₀ a₀, f2₀ a₀, fun k₀ => (f3₀ a₀ k₀).trans (rY a₀ k₀ (by omega)), fun k₀ => (f4₀ a₀ k₀ (by omega)).trans (gP a₀ k₀ (by omega))⟩
  have AQ : ∀ a₀, g₀ + 261 ≤ a₀ → a₀ < g₀ + 385 → kd Q₀ a₀ = kd M a₀ ∧ ln Q₀ a₀ = ln M a₀ ∧ (∀ k₀, gr Q₀ a₀ k₀ = gr M a₀ k₀) ∧ ∀ k₀, gi Q₀ a₀ k₀ = gi M a₀ k₀ := fun a₀ h1 h2 => ⟨f1₀ a₀, f2₀ a₀, fun k₀ => (f3₀ a₀ k₀).trans (rY a₀ k₀ (by omega)), fun k₀ => (f4₀ a₀ k₀ (by omega)).trans (gP a₀ k₀ (by omega))⟩
  have x0₀ := (euQ u₀ (by omega) (by omega)).2.2.2
  have x1₀ := (euQ (u₀ + 1) (by omega) (by omega)).2.2.2
  have x2₀ := (euQ (u₀ + 2) (by omega) (by omega)).2.2.2
  have t0₀ := (etQ t₀ (by omega) (by omega)).2.2.2
  have t1₀ := (etQ (t₀ + 1) (by omega) (by omega)).2.2.2
  have t2₀ := (etQ (t₀ + 2) (by omega) (by omega)).2.2.2
  obtain ⟨tlQ, nbQ⟩ := mh_eq_tl euQ tlu nbu
  obtain ⟨tlQt, nbQt⟩ := mh_eq_tl etQ tl nb
  have cntQ : gi Q₀ m₀ 4 = gi M (u₀ + 3) 0 := mh_tie_cnt (I₀ := mi Q₀ (m₀ + 1)) tlu nbu n4₀.1 n5₀ n6₀ (fun p₀ q₀ p' q' h₀ h' => (n7 p₀ q₀ p' q' h₀ h').trans (q2₀ p₀ q₀ p' q' h₀ h'))
  have hull := se.2
  rw [cqP] at hull
  have eq9₀ := mh_hull1 hull hu
  have ktM : mm_kt M Q₀ m₀ := by
    obtain ⟨⟨k10, k11, k12, k13⟩, a6, a7, a9, a10⟩ := kt
    exact ⟨⟨k10, k11.trans (cm m₀ 1 (by omega) (by omega)), k12.trans (cm m₀ 2 (by omega) (by omega)), k13.trans (cm m₀ 3 (by omega) (by omega))⟩, fun k₀ hk => (a6 k₀ hk).trans (cm (m₀ + 1) k₀ (by omega) (by omega)), fun k₀ hk => ⟨(a7 k₀ hk).1.trans (cm (m₀ + 2) k₀ (by omega) (by omega)), (a7 k₀ hk).2.trans (cm (m₀ + 3) k₀ (by omega) (by omega))⟩, fun k₀ hk => (a9 k₀ hk).trans (cm (m₀ + 4) k₀ (by omega) (by omega)), fun k₀ hk => (a10 k₀ hk).trans (cm (m₀ + 5) k₀ (by omega) (by omega))⟩
  obtain ⟨⟨k10, k11, k12, k13⟩, a6, a7, a9, a10⟩ := ktM
  have v9 : ∀ k₀, gi Q₀ (g₀ + 259) k₀ = gi P (g₀ + 259) k₀ := fun k₀ => f4₀ _ k₀ (by omega)
  have arQ : mh_ar Q₀ u₀ (g₀ + 259) := by
    unfold mh_ar at *
    rw [x0₀, x0₀, v9, v9, v9, v9]
    rw [u0, u0] at ar
    exact ar
  have gq : gi Q₀ g₀ 2 = 1 := (f4₀ g₀ 2 (by omega)).trans ((gP g₀ 2 (by omega)).trans h₀)
  have E9 : (if gi M (t₀ + 3) 0 = gi M (u₀ + 3) 0 then (1 : Int) else 0) = (if gi M (u₀ + 3) 0 = gi M (t₀ + 3) 0 then (1 : Int) else 0) := by
    by_cases x₀ : gi M (u₀ + 3) 0 = gi M (t₀ + 3) 0
    · rw [if_pos x₀, if_pos x₀.symm]
    · rw [if_neg x₀, if_neg (fun w₀ => x₀ w₀.symm)]
  have ei : ∀ p₀ q₀, mh_rg (gi M t₀ 0) (gi M t₀ 1) p₀ q₀ → mi Q₀ (m₀ + 6) p₀ q₀ = mi M (m₀ + 1) p₀ q₀ := fun p₀ q₀ h₀ => a6 _ (by omega)
  have KQ : mh_K Q₀ g₀ u₀ t₀ := ⟨⟨⟨(f1₀ g₀).trans F9.1.1, (f3₀ g₀ 0).trans gY0, (f1₀ u₀).trans F9.2.2.1.1, by omega⟩, (f3₀ g₀ 1).trans gY1, ((f3₀ g₀ 3).trans (gYk 3 (by omega) (by omega))).trans F9.1.2.2.2.1, ((f3₀ g₀ 4).trans (gYk 4 (by omega) (by omega))).trans F9.1.2.2.2.2.1, ((f3₀ g₀ 5).trans (gYk 5 (by omega) (by omega))).trans F9.1.2.2.2.2.2⟩, ⟨(f1₀ _).trans F9.2.2.2.1.1, (f1₀ _).trans F9.2.2.2.1.2.1, (f1₀ _).trans F9.2.2.2.1.2.2.1, ((f3₀ _ 2).trans (rY _ 2 (by omega))).trans F9.2.2.2.1.2.2.2.1, mh_cL_lo ckl (fun a₀ h1 h2 => AQ a₀ (by omega) (by omega))⟩, by omega, ⟨tlQ, nbQ⟩, ⟨mh_eq_tb etQ tl.1, mh_eq_cL etQ tl.2.1⟩, by rw [x0₀, x0₀]; exact oh.1, by rw [x0₀, x0₀]; exact oh.2, arQ⟩
  have SQu : mh_SQ Q₀ u₀ (m₀ + 1) := by
    unfold mh_SQ
    rw [x0₀, x0₀, mh_eq_at euQ]
    refine ⟨fun p₀ q₀ h₀ => by have := n5₀ p₀ q₀ h₀; omega, fun p₀ q₀ p' q' h₀ h' => (n7 p₀ q₀ p' q' h₀ h').trans (q2₀ p₀ q₀ p' q' h₀ h'), fun p₀ q₀ h₀ => ?_, fun k₀ k0₀ k1₀ => ?_, fun k₀ k0₀ k1₀ => ?_⟩
    · rw [mh_eq_ct euQ tlu nbu h₀, mh_eq_ct euQ tlu nbu h₀]
      exact ⟨(n8 p₀ q₀ h₀).1.trans (q3₀ p₀ q₀ h₀).1, (n8 p₀ q₀ h₀).2.trans (q3₀ p₀ q₀ h₀).2⟩
    · rw [x2₀]; exact (n9 k₀ k0₀ k1₀).trans (q4₀ k₀ k0₀ k1₀)
    · rw [x1₀]; exact (n10 k₀ k0₀ k1₀).trans (q5₀ k₀ k0₀ k1₀)
  have SQt : mh_SQ Q₀ t₀ (m₀ + 6) := by
    unfold mh_SQ
    rw [t0₀, t0₀, mh_eq_at etQ]
    refine ⟨fun p₀ q₀ h₀ => by rw [ei p₀ q₀ h₀]; exact sq.1 p₀ q₀ h₀, fun p₀ q₀ p' q' h₀ h' => by rw [ei p₀ q₀ h₀, ei p' q' h']; exact sq.2.1 p₀ q₀ p' q' h₀ h', fun p₀ q₀ h₀ => ?_, fun k₀ k0₀ k1₀ => ?_, fun k₀ k0₀ k1₀ => ?_⟩
    · have w₀ := sq.1 p₀ q₀ h₀
      rw [ei p₀ q₀ h₀, mh_eq_ct etQ tl nb h₀, mh_eq_ct etQ tl nb h₀]
      have x₀ := a7 (mi M (m₀ + 1) p₀ q₀).toNat (by omega)
      have y₀ := sq.2.2.1 p₀ q₀ h₀
      exact ⟨x₀.1.trans y₀.1, x₀.2.trans y₀.2⟩
    · rw [t2₀]; exact (a9 k₀.toNat (by omega)).trans (sq.2.2.2.1 k₀ k0₀ k1₀)
    · rw [t1₀]; exact (a10 k₀.toNat (by omega)).trans (sq.2.2.2.2 k₀ k0₀ k1₀)
  refine ⟨by rw [e₀, hz, cnt₀, cntQ, E9], n0₀, mh_far_f f₀ (fun a₀ k₀ w₀ => by omega), u₀, t₀, KQ, mh_V_eq euQ tlu.2.1 oV, ⟨mh_st_g st₀ f1₀ f2₀ (fun k₀ => (f3₀ m₀ k₀).trans (rY m₀ k₀ (by omega))), pm⟩, by rw [n1₀, n2₀, n3₀, x0₀, x0₀, x0₀]; exact ⟨rfl, rfl, rfl⟩, SQu, ⟨n4₀, by rw [n1₀, n2₀]; exact n5₀, by rw [n1₀, n2₀]; exact n6₀⟩, ⟨by rw [v9, v9, v9, v9]; exact eq9₀, by rw [mh_cc_eq euQ tlu.2.1, v9, v9, v9, v9]; exact hu.2.1⟩, ⟨⟨by rw [k10, gq], Or.inr gq⟩, fun _ => ⟨⟨tlQt, nbQt⟩, by rw [k11, k12, k13, t0₀, t0₀, t0₀]; exact zf, by rw [t0₀, t0₀, t0₀]; exact ⟨rb.1, rb.2.1⟩, SQt, mh_V_eq etQ tl.2.1 V9⟩⟩, mh_bkt_of bkt AQ ?_ ?_ ?_ (fun k₀ => ?_) (fun k₀ => ?_) (fun k₀ => ?_)⟩
  · exact ((f₀.2.2.2.2.2.2 m₀ 25).resolve_left (by omega)).trans (cm m₀ 25 (by omega) (by omega))
  · exact ((f₀.2.2.2.2.2.2 m₀ 26).resolve_left (by omega)).trans (cm m₀ 26 (by omega) (by omega))
  · exact ((f₀.2.2.2.2.2.2 m₀ 27).resolve_left (by omega)).trans (cm m₀ 27 (by omega) (by omega))
  · exact ((f₀.2.2.2.2.2.2 (m₀ + 13) k₀).resolve_left (by omega)).trans (cm _ k₀ (by omega) (by omega))
  · exact ((f₀.2.2.2.2.2.2 (m₀ + 14) k₀).resolve_left (by omega)).trans (cm _ k₀ (by omega) (by omega))
  · exact ((f₀.2.2.2.2.2.2 (m₀ + 15) k₀).resolve_left (by omega)).trans (cm _ k₀ (by omega) (by omega))
theorem mh_at_TL {M : mg_M} {t₀ : Nat} {p₀ q₀ p' q' : Int} (tl : mh_tl M t₀) (nb : mh_nb M t₀) (h₀ : mh_rg (gi M t₀ 0) (gi M t₀ 1) p₀ q₀) (h' : mh_rg (gi M t₀ 0) (gi M t₀ 1) p' q') : mh_at M t₀ p₀ q₀ = mh_at M t₀ p' q' ↔ mh_fT M t₀ 0 p₀ q₀ = mh_fT M t₀ 0 p' q' ∧ mh_fT M t₀ 1 p₀ q₀ = mh_fT M t₀ 1 p' q' := by
  obtain ⟨i₀, hi, i1₀, w₀, e₀, ec⟩ := mh_sqc tl nb h₀
  obtain ⟨j₀, hj, j1, w', e', ec'⟩ := mh_sqc tl nb h'
  unfold mh_fT
  rw [e₀, e', ec, ec']
  constructor
  · intro x₀
    have ij : i₀ = j₀ := by omega
    rw [ij]
    exact ⟨rfl, rfl⟩
  · rintro ⟨x₀, y₀⟩
    have a₀ := tl.2.2.2.1 i₀ hi _ _ (mh_ok_cv (tl.2.2.1 i₀ hi))
    have b₀ := tl.2.2.2.1 j₀ hj _ _ (mh_ok_cv (tl.2.2.1 j₀ hj))
    rw [x₀, y₀] at a₀
    omega
theorem mh_mrg {M P : mg_M} {t₀ : Nat} {a₀ b₀ c₀ d₀ : Int} {J₀ : Int → Int → Int} (tl : mh_tl M t₀) (nb : mh_nb M t₀) (tlP : mh_tl P t₀) (nbP : mh_nb P t₀) (s0₀ : gi P t₀ 0 = gi M t₀ 0) (s1₀ : gi P t₀ 1 = gi M t₀ 1) (ar : (0 ≤ a₀ ∧ a₀ ≤ b₀ ∧ b₀ < gi M t₀ 0) ∧ (0 ≤ c₀ ∧ c₀ ≤ d₀ ∧ d₀ < gi M t₀ 1)) (cc : mh_cc M t₀ a₀ b₀ c₀ d₀) (hJ : ∀ p₀ q₀ p' q', mh_rg (gi M t₀ 0) (gi M t₀ 1) p₀ q₀ → mh_rg (gi M t₀ 0) (gi M t₀ 1) p' q' → (J₀ p₀ q₀ = J₀ p' q' ↔ mh_at M t₀ p₀ q₀ = mh_at M t₀ p' q')) (hp : ∀ p₀ q₀, mh_rg (gi M t₀ 0) (gi M t₀ 1) p₀ q₀ → mh_fT P t₀ 0 p₀ q₀ = (if (a₀ ≤ p₀ ∧ p₀ ≤ b₀) ∧ (c₀ ≤ q₀ ∧ q₀ ≤ d₀) then a₀ else mh_fT M t₀ 0 p₀ q₀) ∧ mh_fT P t₀ 1 p₀ q₀ = (if (a₀ ≤ p₀ ∧ p₀ ≤ b₀) ∧ (c₀ ≤ q₀ ∧ q₀ ≤ d₀) then c₀ else mh_fT M t₀ 1 p₀ q₀) ∧ mh_fT P t₀ 2 p₀ q₀ = (if (a₀ ≤ p₀ ∧ p₀ ≤ b₀) ∧ (c₀ ≤ q₀ ∧ q₀ ≤ d₀) then b₀ - a₀ + 1 else mh_fT M t₀ 2 p₀ q₀) ∧ mh_fT P t₀ 3 p₀ q₀ = (if (a₀ ≤ p₀ ∧ p₀ ≤ b₀) ∧ (c₀ ≤ q₀ ∧ q₀ ≤ d₀) then d₀ - c₀ + 1 else mh_fT M t₀ 3 p₀ q₀)) : (∀ p₀ q₀ p' q', mh_rg (gi M t₀ 0) (gi M t₀ 1) p₀ q₀ → mh_rg (gi M t₀ 0) (gi M t₀ 1) p' q' → (mh_at P t₀ p₀ q₀ = mh_at P t₀ p' q' ↔ (if (a₀ ≤ p₀ ∧ p₀ ≤ b₀) ∧ (c₀ ≤ q₀ ∧ q₀ ≤ d₀) then J₀ a₀ c₀ else J₀ p₀ q₀) = (if (a₀ ≤ p' ∧ p' ≤ b₀) ∧ (c₀ ≤ q' ∧ q' ≤ d₀) then J₀ a₀ c₀ else J₀ p' q'))) ∧ mh_cc P t₀ a₀ b₀ c₀ d₀ ∧ ∀ p₀ q₀, mh_rg (gi M t₀ 0) (gi M t₀ 1) p₀ q₀ → ¬ ((a₀ ≤ p₀ ∧ p₀ ≤ b₀) ∧ (c₀ ≤ q₀ ∧ q₀ ≤ d₀)) → J₀ p₀ q₀ ≠ J₀ a₀ c₀ := by
  have rA : mh_rg (gi M t₀ 0) (gi M t₀ 1) a₀ c₀ := by omega
  have cA₀ : mh_fT M t₀ 0 a₀ c₀ = a₀ ∧ mh_fT M t₀ 1 a₀ c₀ = c₀ := by
    obtain ⟨i₀, hi, i1₀, w₀, e₀, ec⟩ := mh_sqc tl nb rA
    unfold mh_cv at w₀
    have x₀ := cc i₀ hi (by omega)
    unfold mh_fT
    rw [ec]
    omega
  refine ⟨fun p₀ q₀ p' q' h₀ h' => ?_, fun i₀ hi mt₀ => ?_, fun p₀ q₀ h₀ n₀ e₀ => ?_⟩
  · have x₀ := mh_at_TL tlP nbP (p₀ := p₀) (q₀ := q₀) (p' := p') (q' := q') (by rw [s0₀, s1₀]; exact h₀) (by rw [s0₀, s1₀]; exact h')
    rw [(hp p₀ q₀ h₀).1, (hp p₀ q₀ h₀).2.1, (hp p' q' h').1, (hp p' q' h').2.1] at x₀
    refine x₀.trans ?_
    by_cases z₀ : (a₀ ≤ p₀ ∧ p₀ ≤ b₀) ∧ (c₀ ≤ q₀ ∧ q₀ ≤ d₀)
    · by_cases z' : (a₀ ≤ p' ∧ p' ≤ b₀) ∧ (c₀ ≤ q' ∧ q' ≤ d₀)
      · rw [if_pos z₀, if_pos z₀, if_pos z₀, if_pos z', if_pos z', if_pos z']
        exact ⟨fun _ => rfl, fun _ => ⟨rfl, rfl⟩⟩
      · rw [if_pos z₀, if_pos z₀, if_pos z₀, if_neg z', if_neg z', if_neg z', hJ _ _ _ _ rA h', mh_at_TL tl nb rA h', cA₀.1, cA₀.2]
    · by_cases z' : (a₀ ≤ p' ∧ p' ≤ b₀) ∧ (c₀ ≤ q' ∧ q' ≤ d₀)
      · rw [if_neg z₀, if_neg z₀, if_neg z₀, if_pos z', if_pos z', if_pos z', hJ _ _ _ _ h₀ rA, mh_at_TL tl nb h₀ rA, cA₀.1, cA₀.2]
      · rw [if_neg z₀, if_neg z₀, if_neg z₀, if_neg z', if_neg z', if_neg z', hJ _ _ _ _ h₀ h', mh_at_TL tl nb h₀ h']
  · have o := tlP.2.2.1 i₀ hi
    have v₀ := mh_ok_cv o
    unfold mh_ok at o
    rw [s0₀, s1₀] at o
    have r₀ : mh_rg (gi M t₀ 0) (gi M t₀ 1) (gi P (gr P (t₀ + 3 + 1) i₀) 0) (gi P (gr P (t₀ + 3 + 1) i₀) 1) := by omega
    have x₀ := hp _ _ r₀
    have co := mh_co_at (by rw [s0₀, s1₀]; exact r₀) (tlP.2.2.2.1 i₀ hi _ _ v₀)
    unfold mh_fT at x₀
    rw [co] at x₀
    by_cases z₀ : (a₀ ≤ gi P (gr P (t₀ + 3 + 1) i₀) 0 ∧ gi P (gr P (t₀ + 3 + 1) i₀) 0 ≤ b₀) ∧ (c₀ ≤ gi P (gr P (t₀ + 3 + 1) i₀) 1 ∧ gi P (gr P (t₀ + 3 + 1) i₀) 1 ≤ d₀)
    · rw [if_pos z₀, if_pos z₀, if_pos z₀, if_pos z₀] at x₀
      omega
    · rw [if_neg z₀, if_neg z₀, if_neg z₀, if_neg z₀] at x₀
      obtain ⟨j₀, hj, j1, w₀, e₀, ec⟩ := mh_sqc tl nb r₀
      rw [ec] at x₀
      have y₀ := cc j₀ hj (by omega)
      omega
  · have e2₀ := (hJ _ _ _ _ h₀ rA).1 e₀
    obtain ⟨i₀, hi, i1₀, w₀, ei, _⟩ := mh_sqc tl nb h₀
    obtain ⟨j₀, hj, j1, w', ej, _⟩ := mh_sqc tl nb rA
    have ij : j₀ = i₀ := by omega
    rw [ij] at w'
    unfold mh_cv at w₀ w'
    have y₀ := cc i₀ hi (by omega)
    exact n₀ (by omega)
theorem mh_su9 {f₀ g₀ : Nat → Int} (n₀ : Nat) (h₀ : ∀ i₀, i₀ < n₀ → 0 ≤ f₀ i₀ ∧ f₀ i₀ ≤ 999 * g₀ i₀) : 0 ≤ mh_sum f₀ n₀ ∧ mh_sum f₀ n₀ ≤ 999 * mh_sum g₀ n₀ := by
  induction n₀ with
  | zero => exact ⟨Int.le_refl _, Int.le_refl _⟩
  | succ n₀ ih₀ =>
    have a₀ := ih₀ (fun i₀ hi => h₀ i₀ (by omega))
    have b₀ := h₀ n₀ (by omega)
    show 0 ≤ mh_sum f₀ n₀ + f₀ n₀ ∧ mh_sum f₀ n₀ + f₀ n₀ ≤ 999 * (mh_sum g₀ n₀ + g₀ n₀)
    omega
theorem ti_merge0 {D : mg_D} {l : Launch} (hl : l.stackTraces = false) {M : mg_M} {g₀ m₀ t₀ u₀ : Nat} (I₀ : mh_INV M g₀ m₀ t₀ u₀) (ha9 : 1 < mh_sum (fun i₀ => mh_bi (mh_in M (gr M (t₀ + 3 + 1) i₀) (g₀ + 259))) (gi M (t₀ + 3) 0).toNat) (hb9 : mh_sum (fun i₀ => (if mh_bi (mh_in M (gr M (t₀ + 3 + 1) i₀) (g₀ + 259)) = 0 then (0 : Int) else if gi M (gr M (t₀ + 3 + 1) i₀) 4 = 0 then (0 : Int) else 1)) (gi M (t₀ + 3) 0).toNat ≤ 1) (hh9 : gi M (g₀ + 259) 0 < gi M t₀ 2 ↔ gi M (g₀ + 259) 2 < gi M t₀ 2) : mh_opN D l 93 174 [] M g₀ m₀ := by
  obtain ⟨st₀, rc, h4, si9, rts, hid₀, cnt₀, hco, hw, hh, hb₀, hd₀⟩ := mh_INV_m I₀
  have K9 := I₀.1
  have V9 := I₀.2.1
  have zf := I₀.2.2.2.1
  have sq := I₀.2.2.2.2.1
  have pm := I₀.2.2.1.2
  have pl := I₀.1.2.2.1
  have bb := K9.2.2.2.1.1.1.2.2
  obtain ⟨tl, nb⟩ := K9.2.2.2.1
  obtain ⟨⟨s1₀, s2₀, s3₀, s4₀⟩, cc⟩ := I₀.2.2.2.2.2.2.1
  have ar := K9.2.2.2.2.2.2.2
  obtain ⟨tp, lf₀, hg, wd, rt, ch₀, _⟩ := mh_INV_ch I₀
  have sm₀ := mh_INV_cnt I₀ ch₀
  refine ⟨fun z₀ P => z₀ = mh_sum (fun i₀ => mh_bi (mh_in M (gr M (t₀ + 3 + 1) i₀) (g₀ + 259))) (gi M (t₀ + 3) 0).toNat ∧ ∃ N1, mh_rmb M N1 g₀ t₀ u₀ ∧ mh_np N1 P t₀ (gi N1 t₀ 0) (gi N1 t₀ 1) (gi N1 t₀ 2) (fun p₀ q₀ => if (gi M (g₀ + 259) 0 ≤ p₀ ∧ p₀ ≤ gi M (g₀ + 259) 2) ∧ (gi M (g₀ + 259) 1 ≤ q₀ ∧ q₀ ≤ gi M (g₀ + 259) 3) then gi M (g₀ + 259) 0 else gi N1 (mh_co N1 t₀ p₀ q₀) 0) (fun p₀ q₀ => if (gi M (g₀ + 259) 0 ≤ p₀ ∧ p₀ ≤ gi M (g₀ + 259) 2) ∧ (gi M (g₀ + 259) 1 ≤ q₀ ∧ q₀ ≤ gi M (g₀ + 259) 3) then gi M (g₀ + 259) 1 else gi N1 (mh_co N1 t₀ p₀ q₀) 1) (fun p₀ q₀ => if (gi M (g₀ + 259) 0 ≤ p₀ ∧ p₀ ≤ gi M (g₀ + 259) 2) ∧ (gi M (g₀ + 259) 1 ≤ q₀ ∧ q₀ ≤ gi M (g₀ + 259) 3) then gi M (g₀ + 259) 2 - gi M (g₀ + 259) 0 + 1 else gi N1 (mh_co N1 t₀ p₀ q₀) 2) (fun p₀ q₀ => if (gi M (g₀ + 259) 0 ≤ p₀ ∧ p₀ ≤ gi M (g₀ + 259) 2) ∧ (gi M (g₀ + 259) 1 ≤ q₀ ∧ q₀ ≤ gi M (g₀ + 259) 3) then gi M (g₀ + 259) 3 - gi M (g₀ + 259) 1 + 1 else gi N1 (mh_co N1 t₀ p₀ q₀) 3) (fun p₀ q₀ => if (gi M (g₀ + 259) 0 ≤ p₀ ∧ p₀ ≤ gi M (g₀ + 259) 2) ∧ (gi M (g₀ + 259) 1 ≤ q₀ ∧ q₀ ≤ gi M (g₀ + 259) 3) then mh_sum (fun i₀ => (if mh_bi (mh_in M (gr M (t₀ + 3 + 1) i₀) (g₀ + 259)) = 0 then (0 : Int) else gi M (gr M (t₀ + 3 + 1) i₀) 4)) (gi M (t₀ + 3) 0).toNat else gi N1 (mh_co N1 t₀ p₀ q₀) 4) (fun p₀ q₀ => if (gi M (g₀ + 259) 0 ≤ p₀ ∧ p₀ ≤ gi M (g₀ + 259) 2) ∧ (gi M (g₀ + 259) 1 ≤ q₀ ∧ q₀ ≤ gi M (g₀ + 259) 3) then gi N1 (mh_co N1 t₀ (gi M (g₀ + 259) 0) (gi M (g₀ + 259) 1)) 5 else gi N1 (mh_co N1 t₀ p₀ q₀) 5) (fun k₀ => gi N1 (t₀ + 2) k₀.toNat) (fun k₀ => gi N1 (t₀ + 1) k₀.toNat), mg_MtN (cX5_merge0 hl K9 V9 rfl rfl rfl cc ha9 hb9 hh9) (fun v₀ P h₀ => ⟨_, h₀.1, rfl, h₀.2⟩), ?_⟩
  rintro z9 P ⟨hz, N1, r₀, np⟩
  obtain ⟨K1, E1₀, FR, h21⟩ := mh_rmb_K K9 r₀
  have v0₀ := (E1₀ t₀ (by omega) (by omega)).2.2.2
  have v1₀ := (E1₀ (t₀ + 1) (by omega) (by omega)).2.2.2
  have v2 := (E1₀ (t₀ + 2) (by omega) (by omega)).2.2.2
  obtain ⟨fw, ⟨tlP, nbP⟩, sz₀, hsq, hwd, hht⟩ := np
  rw [v0₀, v0₀, v0₀] at sz₀
  rw [v0₀, v0₀] at hsq
  rw [v0₀] at hwd hht
  obtain ⟨q1₀, q2₀, q3₀, q4₀, q5₀⟩ := sq
  have z12 : 0 ≤ mh_sum (fun i₀ => (if mh_bi (mh_in M (gr M (t₀ + 3 + 1) i₀) (g₀ + 259)) = 0 then (0 : Int) else gi M (gr M (t₀ + 3 + 1) i₀) 4)) (gi M (t₀ + 3) 0).toNat ∧ mh_sum (fun i₀ => (if mh_bi (mh_in M (gr M (t₀ + 3 + 1) i₀) (g₀ + 259)) = 0 then (0 : Int) else gi M (gr M (t₀ + 3 + 1) i₀) 4)) (gi M (t₀ + 3) 0).toNat ≤ 999 := by
    have x₀ := @mh_su9 (fun i₀ => (if mh_bi (mh_in M (gr M (t₀ + 3 + 1) i₀) (g₀ + 259)) = 0 then (0 : Int) else gi M (gr M (t₀ + 3 + 1) i₀) 4)) (fun i₀ => (if mh_bi (mh_in M (gr M (t₀ + 3 + 1) i₀) (g₀ + 259)) = 0 then (0 : Int) else if gi M (gr M (t₀ + 3 + 1) i₀) 4 = 0 then (0 : Int) else 1)) (gi M (t₀ + 3) 0).toNat (fun i₀ hi => by
      have v₀ := V9.1 i₀ (by omega)
      (try dsimp only)
      (repeat' split) <;> omega)
    omega
  have hsq' : ∀ p₀ q₀, mh_rg (gi M t₀ 0) (gi M t₀ 1) p₀ q₀ → (mh_fT P t₀ 0 p₀ q₀ = (if (gi M (g₀ + 259) 0 ≤ p₀ ∧ p₀ ≤ gi M (g₀ + 259) 2) ∧ (gi M (g₀ + 259) 1 ≤ q₀ ∧ q₀ ≤ gi M (g₀ + 259) 3) then gi M (g₀ + 259) 0 else mh_fT M t₀ 0 p₀ q₀) ∧ mh_fT P t₀ 1 p₀ q₀ = (if (gi M (g₀ + 259) 0 ≤ p₀ ∧ p₀ ≤ gi M (g₀ + 259) 2) ∧ (gi M (g₀ + 259) 1 ≤ q₀ ∧ q₀ ≤ gi M (g₀ + 259) 3) then gi M (g₀ + 259) 1 else mh_fT M t₀ 1 p₀ q₀) ∧ mh_fT P t₀ 2 p₀ q₀ = (if (gi M (g₀ + 259) 0 ≤ p₀ ∧ p₀ ≤ gi M (g₀ + 259) 2) ∧ (gi M (g₀ + 259) 1 ≤ q₀ ∧ q₀ ≤ gi M (g₀ + 259) 3) then gi M (g₀ + 259) 2 - gi M (g₀ + 259) 0 + 1 else mh_fT M t₀ 2 p₀ q₀) ∧ mh_fT P t₀ 3 p₀ q₀ = (if (gi M (g₀ + 259) 0 ≤ p₀ ∧ p₀ ≤ gi M (g₀ + 259) 2) ∧ (gi M (g₀ + 259) 1 ≤ q₀ ∧ q₀ ≤ gi M (g₀ + 259) 3) then gi M (g₀ + 259) 3 - gi M (g₀ + 259) 1 + 1 else mh_fT M t₀ 3 p₀ q₀)) ∧ gi P (mh_co P t₀ p₀ q₀) 4 = (if (gi M (g₀ + 259) 0 ≤ p₀ ∧ p₀ ≤ gi M (g₀ + 259) 2) ∧ (gi M (g₀ + 259) 1 ≤ q₀ ∧ q₀ ≤ gi M (g₀ + 259) 3) then mh_sum (fun i₀ => (if mh_bi (mh_in M (gr M (t₀ + 3 + 1) i₀) (g₀ + 259)) = 0 then (0 : Int) else gi M (gr M (t₀ + 3 + 1) i₀) 4)) (gi M (t₀ + 3) 0).toNat else gi M (mh_co M t₀ p₀ q₀) 4) ∧ gi P (mh_co P t₀ p₀ q₀) 5 = (if (gi M (g₀ + 259) 0 ≤ p₀ ∧ p₀ ≤ gi M (g₀ + 259) 2) ∧ (gi M (g₀ + 259) 1 ≤ q₀ ∧ q₀ ≤ gi M (g₀ + 259) 3) then gi M (mh_co M t₀ (gi M (g₀ + 259) 0) (gi M (g₀ + 259) 1)) 5 else gi M (mh_co M t₀ p₀ q₀) 5) := fun p₀ q₀ a₀ => by
    have w₀ := hsq p₀ q₀ a₀
    unfold mh_ar at ar
    have rA : mh_rg (gi M t₀ 0) (gi M t₀ 1) (gi M (g₀ + 259) 0) (gi M (g₀ + 259) 1) := by omega
    unfold mh_fT
    rw [← mh_rm_ct K9 r₀ a₀ 0, ← mh_rm_ct K9 r₀ a₀ 1, ← mh_rm_ct K9 r₀ a₀ 2, ← mh_rm_ct K9 r₀ a₀ 3, ← mh_rm_ct K9 r₀ a₀ 4, ← mh_rm_ct K9 r₀ a₀ 5, ← mh_rm_ct K9 r₀ rA 5, ← mh_eq_co E1₀]
    exact w₀
  have mg := mh_mrg (J₀ := mi M (m₀ + 1)) tl nb tlP nbP sz₀.1 sz₀.2.1 (by unfold mh_ar at ar; exact ar) cc q2₀ (fun p₀ q₀ a₀ => (hsq' p₀ q₀ a₀).1)
  have emr : ∀ p₀ q₀, mi_mr M m₀ p₀ q₀ = if (gi M (g₀ + 259) 0 ≤ p₀ ∧ p₀ ≤ gi M (g₀ + 259) 2) ∧ (gi M (g₀ + 259) 1 ≤ q₀ ∧ q₀ ≤ gi M (g₀ + 259) 3) then mi M (m₀ + 1) (gi M (g₀ + 259) 0) (gi M (g₀ + 259) 1) else mi M (m₀ + 1) p₀ q₀ := fun p₀ q₀ => by unfold mi_mr; rw [s1₀, s2₀, s3₀, s4₀]
  have hC : ∀ p₀ q₀, mh_rg (gi M t₀ 0) (gi M t₀ 1) p₀ q₀ → (gi P (mh_co P t₀ p₀ q₀) 4 = (fun k₀ => if k₀ = mi M (m₀ + 1) (gi M (g₀ + 259) 0) (gi M (g₀ + 259) 1) then mh_sum (fun i₀ => (if mh_bi (mh_in M (gr M (t₀ + 3 + 1) i₀) (g₀ + 259)) = 0 then (0 : Int) else gi M (gr M (t₀ + 3 + 1) i₀) 4)) (gi M (t₀ + 3) 0).toNat else gi M (m₀ + 2) k₀.toNat) (mi_mr M m₀ p₀ q₀) ∧ gi P (mh_co P t₀ p₀ q₀) 5 = (fun k₀ : Int => gi M (m₀ + 3) k₀.toNat) (mi_mr M m₀ p₀ q₀)) ∧ 0 ≤ (fun k₀ => if k₀ = mi M (m₀ + 1) (gi M (g₀ + 259) 0) (gi M (g₀ + 259) 1) then mh_sum (fun i₀ => (if mh_bi (mh_in M (gr M (t₀ + 3 + 1) i₀) (g₀ + 259)) = 0 then (0 : Int) else gi M (gr M (t₀ + 3 + 1) i₀) 4)) (gi M (t₀ + 3) 0).toNat else gi M (m₀ + 2) k₀.toNat) (mi_mr M m₀ p₀ q₀) ∧ (fun k₀ => if k₀ = mi M (m₀ + 1) (gi M (g₀ + 259) 0) (gi M (g₀ + 259) 1) then mh_sum (fun i₀ => (if mh_bi (mh_in M (gr M (t₀ + 3 + 1) i₀) (g₀ + 259)) = 0 then (0 : Int) else gi M (gr M (t₀ + 3 + 1) i₀) 4)) (gi M (t₀ + 3) 0).toNat else gi M (m₀ + 2) k₀.toNat) (mi_mr M m₀ p₀ q₀) ≤ 999 := fun p₀ q₀ a₀ => by
    have w₀ := (hsq' p₀ q₀ a₀).2
    unfold mh_ar at ar
    have rA : mh_rg (gi M t₀ 0) (gi M t₀ 1) (gi M (g₀ + 259) 0) (gi M (g₀ + 259) 1) := by omega
    (try dsimp only)
    rw [emr]
    by_cases c₀ : (gi M (g₀ + 259) 0 ≤ p₀ ∧ p₀ ≤ gi M (g₀ + 259) 2) ∧ (gi M (g₀ + 259) 1 ≤ q₀ ∧ q₀ ≤ gi M (g₀ + 259) 3)
    · rw [if_pos c₀, if_pos c₀] at w₀
      rw [if_pos c₀, if_pos rfl]
      have y' : gi M (m₀ + 3) (mi M (m₀ + 1) (gi M (g₀ + 259) 0) (gi M (g₀ + 259) 1)).toNat = gi M (mh_co M t₀ (gi M (g₀ + 259) 0) (gi M (g₀ + 259) 1)) 5 := (q3₀ _ _ rA).2
      rw [y']
      exact ⟨w₀, z12⟩
    · rw [if_neg c₀, if_neg c₀] at w₀
      rw [if_neg c₀, if_neg (mg.2.2 p₀ q₀ a₀ c₀)]
      have y' : gi M (m₀ + 2) (mi M (m₀ + 1) p₀ q₀).toNat = gi M (mh_co M t₀ p₀ q₀) 4 ∧ gi M (m₀ + 3) (mi M (m₀ + 1) p₀ q₀).toNat = gi M (mh_co M t₀ p₀ q₀) 5 := q3₀ _ _ a₀
      have v₀ := mh_V_sq V9 tl nb a₀
      rw [y'.1, y'.2]
      exact ⟨w₀, v₀⟩
  have hW : ∀ k₀, 0 ≤ k₀ → k₀ < gi M t₀ 1 → gi P (t₀ + 2) k₀.toNat = gi M (m₀ + 4) k₀.toNat ∧ 10 ≤ gi M (m₀ + 4) k₀.toNat ∧ gi M (m₀ + 4) k₀.toNat ≤ 200 := by
    intro k₀ k0₀ k1₀
    have w₀ : gi P (t₀ + 2) k₀.toNat = gi M (t₀ + 2) k₀.toNat := (hwd k₀ k0₀ k1₀).trans (v2 _)
    have y' : gi M (m₀ + 4) k₀.toNat = gi M (t₀ + 2) k₀.toNat := q4₀ k₀ k0₀ k1₀
    have v₀ := V9.2.1 k₀.toNat (by omega)
    rw [y']
    exact ⟨w₀, v₀⟩
  have hH : ∀ k₀, 0 ≤ k₀ → k₀ < gi M t₀ 0 → gi P (t₀ + 1) k₀.toNat = gi M (m₀ + 5) k₀.toNat ∧ 5 ≤ gi M (m₀ + 5) k₀.toNat ∧ gi M (m₀ + 5) k₀.toNat ≤ 100 := by
    intro k₀ k0₀ k1₀
    have w₀ : gi P (t₀ + 1) k₀.toNat = gi M (t₀ + 1) k₀.toNat := (hht k₀ k0₀ k1₀).trans (v1₀ _)
    have y' : gi M (m₀ + 5) k₀.toNat = gi M (t₀ + 1) k₀.toNat := q5₀ k₀ k0₀ k1₀
    have v₀ := V9.2.2 k₀.toNat (by omega)
    rw [y']
    exact ⟨w₀, v₀⟩
  have vg : ∀ k₀, gi P (g₀ + 259) k₀ = gi M (g₀ + 259) k₀ := fun k₀ => ((fw.2.2.2.2.2.2 _ k₀).resolve_left (by omega)).trans (mm_f_gi FR _ k₀ (by omega))
  have cm : ∀ a₀ k₀, m₀ ≤ a₀ → a₀ < m₀ + 18 → gi P a₀ k₀ = gi M a₀ k₀ := fun a₀ k₀ h1 h2 => ((fw.2.2.2.2.2.2 a₀ k₀).resolve_left (by omega)).trans (mm_f_gi FR a₀ k₀ (by omega))
  have stP : mm_st P m₀ := mh_st_g st₀ (fun a₀ => (fw.1 a₀).trans (FR.1 a₀)) (fun a₀ => (fw.2.1 a₀).trans (FR.2.1 a₀)) (fun k₀ => ((fw.2.2.1 m₀ k₀).resolve_left (by omega)).trans (FR.2.2.1 m₀ k₀))
  have eRT : ∀ Y, (∀ k₀, gi Y m₀ k₀ = gi M m₀ k₀) → (∀ k₀, gi Y (m₀ + 1) k₀ = gi M (m₀ + 1) k₀) → mm_RT Y m₀ tp lf₀ hg wd := fun Y y0 y1 => by
    intro k₀ k0₀ k1₀
    rw [y0] at k1₀
    exact mm_rect_f (y0 1) (y0 2) y1 (rt k₀ k0₀ k1₀)
  refine ⟨mh_far_tr (mh_far_f FR (fun a₀ k₀ w₀ => by omega)) (mh_far_fw fw (by omega)), fun o => ?_⟩
  have e0₀ : ∀ k₀, gi (sl P o 0 z9) m₀ k₀ = gi M m₀ k₀ := fun k₀ => cm m₀ k₀ (by omega) (by omega)
  have e1₀ : ∀ k₀, gi (sl P o 0 z9) (m₀ + 1) k₀ = gi M (m₀ + 1) k₀ := fun k₀ => cm (m₀ + 1) k₀ (by omega) (by omega)
  have e2₀ : ∀ k₀, gi (sl P o 0 z9) (m₀ + 2) k₀ = gi M (m₀ + 2) k₀ := fun k₀ => cm (m₀ + 2) k₀ (by omega) (by omega)
  have e3₀ : ∀ k₀, gi (sl P o 0 z9) (m₀ + 3) k₀ = gi M (m₀ + 3) k₀ := fun k₀ => cm (m₀ + 3) k₀ (by omega) (by omega)
  have e4₀ : ∀ k₀, gi (sl P o 0 z9) (m₀ + 4) k₀ = gi M (m₀ + 4) k₀ := fun k₀ => cm (m₀ + 4) k₀ (by omega) (by omega)
  have e5₀ : ∀ k₀, gi (sl P o 0 z9) (m₀ + 5) k₀ = gi M (m₀ + 5) k₀ := fun k₀ => cm (m₀ + 5) k₀ (by omega) (by omega)
  have eF : mi (sl P o 0 z9) (m₀ + 1) = mi M (m₀ + 1) := by funext p₀ q₀; exact e1₀ _
  have eMR : mi_mr (sl P o 0 z9) m₀ = mi_mr M m₀ := by funext p₀ q₀; unfold mi_mr; rw [eF, e0₀, e0₀, e0₀, e0₀]
  have nh : ¬ (1 < mh_sum (fun i₀ => (if mh_bi (mh_in M (gr M (t₀ + 3 + 1) i₀) (g₀ + 259)) = 0 then (0 : Int) else if gi M (gr M (t₀ + 3 + 1) i₀) 4 = 0 then (0 : Int) else 1)) (gi M (t₀ + 3) 0).toNat ∨ (gi M (g₀ + 259) 0 < gi M t₀ 2 ∧ gi M t₀ 2 ≤ gi M (g₀ + 259) 2)) := by omega
  have R := @cX6_merge0 D l hl (sl P o 0 z9) m₀ tp lf₀ hg wd stP (by unfold mm_rc; rw [e0₀, e0₀]; omega) (by rw [e0₀]; exact h4) (by unfold mm_si; simp only [e0₀]; exact si9) (eRT _ e0₀ e1₀) (fun k₀ hk => by rw [e0₀] at hk; rw [e2₀]; exact hco k₀ hk) (fun r₀ c₀ a₀ => by rw [e0₀, e0₀] at a₀; simp only [mi, e1₀]; exact hid₀ r₀ c₀ a₀) (mh_sum (fun i₀ => mh_bi (mh_in M (gr M (t₀ + 3 + 1) i₀) (g₀ + 259))) (gi M (t₀ + 3) 0).toNat) (mh_sum (fun i₀ => (if mh_bi (mh_in M (gr M (t₀ + 3 + 1) i₀) (g₀ + 259)) = 0 then (0 : Int) else if gi M (gr M (t₀ + 3 + 1) i₀) 4 = 0 then (0 : Int) else 1)) (gi M (t₀ + 3) 0).toNat) (mh_sum (fun i₀ => (if mh_bi (mh_in M (gr M (t₀ + 3 + 1) i₀) (g₀ + 259)) = 0 then (0 : Int) else gi M (gr M (t₀ + 3 + 1) i₀) 4)) (gi M (t₀ + 3) 0).toNat) (by simp only [mm_ch, e0₀]; exact sm₀.1) (by simp only [mm_ch, e0₀, e2₀]; exact sm₀.2.2) (by simp only [mm_ch, e0₀, e2₀]; exact sm₀.2.1) (by omega) (by rw [e0₀, e0₀, e0₀, s1₀, s2₀, zf.2.2]; exact nh)
  rw [eMR, eF] at R
  simp only [e0₀, e2₀, e3₀, e4₀, e5₀] at R
  rw [zf.1, zf.2.1, zf.2.2, s1₀, s2₀, s3₀, s4₀] at R
  refine mg_MtN R ?_
  rintro w₀ Q₀ ⟨e₀, nw, se⟩
  exact ⟨by rw [e₀, hz], mh_UPD I₀ r₀ (mh_chg_fw fw) cm tlP nbP sz₀ (by omega) (fun p₀ q₀ p' q' a₀ b₀ => by rw [emr, emr]; exact mg.1 p₀ q₀ p' q' a₀ b₀) hC hW hH (by unfold mh_ar at *; rw [sz₀.1, sz₀.2.1, vg, vg, vg, vg]; exact ar) (by rw [vg, vg, vg, vg]; exact mg.2.1) nw (by rw [vg, vg, vg, vg]; exact ⟨se.1, se.2.1, se.2.2.1, se.2.2.2⟩)⟩
