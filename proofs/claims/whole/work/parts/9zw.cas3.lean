/-! the law's cases takeBack, mean, mergedShare -/
def mh_opB (D : mg_D) (l : Launch) (yc ym : Nat) (as₀ : List mg_V) (M : mg_M) (g₀ m₀ : Nat) : Prop := ∃ N : Int → mg_M → Prop, mg_Mt D l yc (.inr (.inl g₀) :: as₀) M (fun v₀ P => ∃ z₀, v₀ = some (.inl z₀) ∧ N z₀ P) mg_no ∧ ∀ z₀ P, N z₀ P → (z₀ = 0 ∨ z₀ = 1) ∧ mh_far M P g₀ ∧ ∀ o, mg_Mt D l ym (.inr (.inl m₀) :: as₀) (sl P o 0 z₀) (fun w₀ Q₀ => w₀ = some (.inl z₀) ∧ gi Q₀ m₀ 0 = 0 ∧ mh_far (sl P o 0 z₀) Q₀ g₀ ∧ ∃ t₀ u₀, mh_INV Q₀ g₀ m₀ t₀ u₀) mg_no
theorem tj_takeBack0 {D : mg_D} {l : Launch} (hl : l.stackTraces = false) {M : mg_M} {g₀ m₀ t₀ u₀ : Nat} (I₀ : mh_INV M g₀ m₀ t₀ u₀) (h₀ : gi M g₀ 2 = 1) : mh_opB D l 109 202 [] M g₀ m₀ := by
  obtain ⟨st₀, rc, h4, si9, rts, hid₀, cnt₀, hco, hw, hh, hb₀, hd₀⟩ := mh_INV_m I₀
  have K9 := I₀.1
  have V9 := I₀.2.1
  have zf := I₀.2.2.2.1
  have sq := I₀.2.2.2.2.1
  have pm := I₀.2.2.1.2
  have pl := I₀.1.2.2.1
  have bb := K9.2.2.2.1.1.1.2.2
  obtain ⟨⟨tlu, nbu⟩, ob₀, oh, osq, oV⟩ := I₀.2.2.2.2.2.2.2.1.2 h₀
  have g10 := I₀.2.2.2.2.2.2.2.1.1.1
  have bkt := I₀.2.2.2.2.2.2.2.2
  have F9 := mh_gF_of K9
  have ckl := K9.2.1.2.2.2.2
  have rb := K9.2.2.2.2.2
  obtain ⟨tl, nb⟩ := K9.2.2.2.1
  have bu := tlu.1.2.2
  refine ⟨fun z₀ P => z₀ = (if gi M (u₀ + 3) 0 = gi M (t₀ + 3) 0 then (1 : Int) else 0) ∧ ∃ Y, Y = sr (sr M g₀ 1 t₀) g₀ 0 u₀ ∧ mh_hs Y P u₀ (g₀ + 259) 0 0 0 0, mg_MtN (cX5_takeBack0 hl K9 h₀ tlu nbu oh.1 rfl) (fun v₀ P h₀ => ⟨_, h₀.1, rfl, _, rfl, h₀.2⟩), ?_⟩
  rintro z9 P ⟨hz, Y, hY, hs⟩
  have rY : ∀ a₀ k₀, a₀ ≠ g₀ → gr Y a₀ k₀ = gr M a₀ k₀ := fun a₀ k₀ hn => by rw [hY, gr_sr, if_neg (fun w₀ => hn w₀.1), gr_sr, if_neg (fun w₀ => hn w₀.1)]
  have vY : ∀ a₀ k₀, gi Y a₀ k₀ = gi M a₀ k₀ := fun a₀ k₀ => by rw [hY]; rfl
  have kY : ∀ a₀, kd Y a₀ = kd M a₀ := fun a₀ => by rw [hY]; rfl
  have lY : ∀ a₀, ln Y a₀ = ln M a₀ := fun a₀ => by rw [hY]; rfl
  have glY : ∀ a₀ k₀, gl Y a₀ k₀ = gl M a₀ k₀ := fun a₀ k₀ => by rw [hY]; rfl
  have gdY : ∀ a₀ k₀, gd Y a₀ k₀ = gd M a₀ k₀ := fun a₀ k₀ => by rw [hY]; rfl
  have gY0 : gr Y g₀ 0 = u₀ := by rw [hY, gr_sr, if_pos ⟨rfl, rfl⟩]
  have gY1 : gr Y g₀ 1 = t₀ := by rw [hY, gr_sr, if_neg (by omega), gr_sr, if_pos ⟨rfl, rfl⟩]
  have gYk : ∀ k₀, k₀ ≠ 0 → k₀ ≠ 1 → gr Y g₀ k₀ = gr M g₀ k₀ := fun k₀ h0 h1 => by rw [hY, gr_sr, if_neg (fun w₀ => h0 w₀.2), gr_sr, if_neg (fun w₀ => h1 w₀.2)]
  clear hY
  have eu : mh_eq M Y u₀ := fun a₀ h1 h2 => ⟨kY a₀, lY a₀, fun k₀ => rY a₀ k₀ (by omega), fun k₀ => vY a₀ k₀⟩
  obtain ⟨tlY, nbY⟩ := mh_eq_tl eu tlu nbu
  obtain ⟨fx, ar, hu⟩ := hs
  have ccY : mh_cc Y u₀ = mh_cc M u₀ := mh_cc_eq eu tlu.2.1
  have euP : mh_eq M P u₀ := fun a₀ h1 h2 => ⟨(fx.1 a₀).trans (kY a₀), (fx.2.1 a₀).trans (lY a₀), fun k₀ => (fx.2.2.1 a₀ k₀).trans (rY a₀ k₀ (by omega)), fun k₀ => (fx.2.2.2.2.2.2 a₀ k₀ (by omega)).trans (vY a₀ k₀)⟩
  have etP : mh_eq M P t₀ := fun a₀ h1 h2 => ⟨(fx.1 a₀).trans (kY a₀), (fx.2.1 a₀).trans (lY a₀), fun k₀ => (fx.2.2.1 a₀ k₀).trans (rY a₀ k₀ (by omega)), fun k₀ => (fx.2.2.2.2.2.2 a₀ k₀ (by omega)).trans (vY a₀ k₀)⟩
  obtain ⟨tlP, nbP⟩ := mh_eq_tl euP tlu nbu
  have ccP : mh_cc P u₀ = mh_cc M u₀ := mh_cc_eq euP tlu.2.1
  have gP : ∀ a₀ k₀, a₀ ≠ g₀ + 259 → gi P a₀ k₀ = gi M a₀ k₀ := fun a₀ k₀ w₀ => (fx.2.2.2.2.2.2 a₀ k₀ w₀).trans (vY a₀ k₀)
  have cm : ∀ a₀ k₀, m₀ ≤ a₀ → a₀ < m₀ + 18 → gi P a₀ k₀ = gi M a₀ k₀ := fun a₀ k₀ h1 h2 => gP a₀ k₀ (by omega)
  have stP : mm_st P m₀ := mh_st_g st₀ (fun a₀ => (fx.1 a₀).trans (kY a₀)) (fun a₀ => (fx.2.1 a₀).trans (lY a₀)) (fun k₀ => (fx.2.2.1 m₀ k₀).trans (rY m₀ k₀ (by omega)))
  have u0 := (euP u₀ (by omega) (by omega)).2.2.2
  have far₀ : mh_far M P g₀ := mh_far_tr (show mh_far M Y g₀ from ⟨kY, lY, glY, gdY, fun a₀ k₀ _ => vY a₀ k₀⟩) (mh_far_fx fx (by omega))
  obtain ⟨q1₀, q2₀, q3₀, q4₀, q5₀⟩ := osq
  have til : mh_til (gi M u₀ 0) (gi M u₀ 1) (fun p₀ q₀ => mi M (m₀ + 6) p₀ q₀) (mh_fT P u₀ 0) (mh_fT P u₀ 1) (mh_fT P u₀ 2) (mh_fT P u₀ 3) := by
    have a₀ := mh_til_at tlP nbP
    rw [u0, u0] at a₀
    exact mh_til_J a₀ (fun p₀ q₀ p' q' h₀ h' => by rw [mh_eq_at euP]; exact q2₀ p₀ q₀ p' q' h₀ h')
  have cqP := mh_cc_cq tlP nbP
  rw [u0, u0, ccP] at cqP
  rw [ccY] at hu
  have hz2 : z9 = 0 ∨ z9 = 1 := by
    rw [hz]
    by_cases c₀ : gi M (u₀ + 3) 0 = gi M (t₀ + 3) 0
    · rw [if_pos c₀]; exact Or.inr rfl
    · rw [if_neg c₀]; exact Or.inl rfl
  refine ⟨hz2, far₀, fun o => ?_⟩
  have e0₀ : ∀ k₀, gi (sl P o 0 z9) m₀ k₀ = gi M m₀ k₀ := fun k₀ => cm m₀ k₀ (by omega) (by omega)
  have e7₀ : ∀ k₀, gi (sl P o 0 z9) (m₀ + 7) k₀ = gi M (m₀ + 7) k₀ := fun k₀ => cm (m₀ + 7) k₀ (by omega) (by omega)
  have e8 : ∀ k₀, gi (sl P o 0 z9) (m₀ + 8) k₀ = gi M (m₀ + 8) k₀ := fun k₀ => cm (m₀ + 8) k₀ (by omega) (by omega)
  have e9₀ : ∀ k₀, gi (sl P o 0 z9) (m₀ + 9) k₀ = gi M (m₀ + 9) k₀ := fun k₀ => cm (m₀ + 9) k₀ (by omega) (by omega)
  have e10₀ : ∀ k₀, gi (sl P o 0 z9) (m₀ + 10) k₀ = gi M (m₀ + 10) k₀ := fun k₀ => cm (m₀ + 10) k₀ (by omega) (by omega)
  have eF : mi (sl P o 0 z9) (m₀ + 6) = mi M (m₀ + 6) := by funext p₀ q₀; exact cm (m₀ + 6) _ (by omega) (by omega)
  have R := @cX6_takeBack0 D l hl (sl P o 0 z9) m₀ (mh_fT P u₀ 0) (mh_fT P u₀ 1) (mh_fT P u₀ 2) (mh_fT P u₀ 3) stP (by rw [e0₀, g10]; exact h₀) (by rw [e0₀, e0₀]; omega) (fun r₀ c₀ a₀ => by rw [e0₀, e0₀, ob₀.1, ob₀.2.1] at a₀; rw [eF]; exact q1₀ r₀ c₀ a₀) (by rw [eF, e0₀, e0₀, ob₀.1, ob₀.2.1]; exact til)
  rw [eF] at R
  simp only [e0₀, e7₀, e8, e9₀, e10₀] at R
  rw [ob₀.1, ob₀.2.1, ob₀.2.2] at R
  refine mg_MtN R ?_
  rintro w₀ Q₀ ⟨e₀, nw, se⟩
  obtain ⟨f₀, ⟨n0₀, n1₀, n2₀, n3₀⟩, kt, n4₀, n5₀, n6₀, n7, n8, n9, n10⟩ := nw
  have f1₀ : ∀ a₀, kd Q₀ a₀ = kd M a₀ := fun a₀ => (f₀.1 a₀).trans ((fx.1 a₀).trans (kY a₀))
  have f2₀ : ∀ a₀, ln Q₀ a₀ = ln M a₀ := fun a₀ => (f₀.2.1 a₀).trans ((fx.2.1 a₀).trans (lY a₀))
  have f3₀ : ∀ a₀ k₀, gr Q₀ a₀ k₀ = gr Y a₀ k₀ := fun a₀ k₀ => (f₀.2.2.1 a₀ k₀).trans (fx.2.2.1 a₀ k₀)
  have f4₀ : ∀ a₀ k₀, (a₀ < m₀ ∨ m₀ + 18 ≤ a₀) → gi Q₀ a₀ k₀ = gi P a₀ k₀ := fun a₀ k₀ h₀ => (f₀.2.2.2.2.2.2 a₀ k₀).resolve_left (by omega)
  have euQ : mh_eq M Q₀ u₀ := fun a₀ h1 h2 => ⟨f1₀ a₀, f2₀ a₀, fun k₀ => (f3₀ a₀ k₀).trans (rY a₀ k₀ (by omega)), fun k₀ => (f4₀ a₀ k₀ (by omega)).trans (gP a₀ k₀ (by omega))⟩
  have etQ : mh_eq M Q₀ t₀ := fun a₀ h1 h2 => ⟨f1₀ a₀, f2₀ a₀, fun k₀ => (f3₀ a₀ k₀).trans (rY a₀ k₀ (by omega)), fun k₀ => (f4₀ a₀ k₀ (by omega)).trans (gP a₀ k₀ (by omega))⟩
  have AQ : ∀ a₀, g₀ + 261 ≤ a₀ → a₀ < g₀ + 385 → kd Q₀ a₀ = kd M a₀ ∧ ln Q₀ a₀ = ln M a₀ ∧ (∀ k₀, gr Q₀ a₀ k₀ = gr M a₀ k₀) ∧ ∀ k₀, gi Q₀ a₀ k₀ = gi M a₀ k₀ := fun a₀ h1 h2 => ⟨f1₀ a₀, f2₀ a₀, fun k₀ => (f3₀ a₀ k₀).trans (rY a₀ k₀ (by omega)), fun k₀ => (f4₀ a₀ k₀ (by omega)).trans (gP a₀ k₀ (by omega))⟩
  have x0₀ := (euQ u₀ (by omega) (by omega)).2.2.2
  have x1₀ := (euQ (u₀ + 1) (by omega) (by omega)).2.2.2
  have x2₀ := (euQ (u₀ + 2) (by omega) (by omega)).2.2.2
  have t0₀ := (etQ t₀ (by omega) (by omega)).2.2.2
  have t1₀ := (etQ (t₀ + 1) (by omega) (by omega)).2.2.2
  have t2₀ := (etQ (t₀ + 2) (by omega) (by omega)).2.2.2
  obtain ⟨tlQ, nbQ⟩ := mh_eq_tl euQ tlu nbu
  obtain ⟨tlQt, nbQt⟩ := mh_eq_tl etQ tl nb
  have cntQ : gi Q₀ m₀ 4 = gi M (u₀ + 3) 0 := mh_tie_cnt (I₀ := mi Q₀ (m₀ + 1)) tlu nbu n4₀.1 n5₀ n6₀ (fun p₀ q₀ p' q' h₀ h' => (n7 p₀ q₀ p' q' h₀ h').trans (q2₀ p₀ q₀ p' q' h₀ h'))
  have hull := se.2
  rw [cqP] at hull
  have eq9₀ := mh_hull1 hull hu
  have ktM : mm_kt M Q₀ m₀ := by
    obtain ⟨⟨k10, k11, k12, k13⟩, a6, a7, a9, a10⟩ := kt
    exact ⟨⟨k10, k11.trans (cm m₀ 1 (by omega) (by omega)), k12.trans (cm m₀ 2 (by omega) (by omega)), k13.trans (cm m₀ 3 (by omega) (by omega))⟩, fun k₀ hk => (a6 k₀ hk).trans (cm (m₀ + 1) k₀ (by omega) (by omega)), fun k₀ hk => ⟨(a7 k₀ hk).1.trans (cm (m₀ + 2) k₀ (by omega) (by omega)), (a7 k₀ hk).2.trans (cm (m₀ + 3) k₀ (by omega) (by omega))⟩, fun k₀ hk => (a9 k₀ hk).trans (cm (m₀ + 4) k₀ (by omega) (by omega)), fun k₀ hk => (a10 k₀ hk).trans (cm (m₀ + 5) k₀ (by omega) (by omega))⟩
  obtain ⟨⟨k10, k11, k12, k13⟩, a6, a7, a9, a10⟩ := ktM
  have v9 : ∀ k₀, gi Q₀ (g₀ + 259) k₀ = gi P (g₀ + 259) k₀ := fun k₀ => f4₀ _ k₀ (by omega)
  have arQ : mh_ar Q₀ u₀ (g₀ + 259) := by
    unfold mh_ar at *
    rw [x0₀, x0₀, v9, v9, v9, v9]
    rw [u0, u0] at ar
    exact ar
  have gq : gi Q₀ g₀ 2 = 1 := (f4₀ g₀ 2 (by omega)).trans ((gP g₀ 2 (by omega)).trans h₀)
  have E9 : (if gi M (t₀ + 3) 0 = gi M (u₀ + 3) 0 then (1 : Int) else 0) = (if gi M (u₀ + 3) 0 = gi M (t₀ + 3) 0 then (1 : Int) else 0) := by
    by_cases x₀ : gi M (u₀ + 3) 0 = gi M (t₀ + 3) 0
    · rw [if_pos x₀, if_pos x₀.symm]
    · rw [if_neg x₀, if_neg (fun w₀ => x₀ w₀.symm)]
  have ei : ∀ p₀ q₀, mh_rg (gi M t₀ 0) (gi M t₀ 1) p₀ q₀ → mi Q₀ (m₀ + 6) p₀ q₀ = mi M (m₀ + 1) p₀ q₀ := fun p₀ q₀ h₀ => a6 _ (by omega)
  have KQ : mh_K Q₀ g₀ u₀ t₀ := ⟨⟨⟨(f1₀ g₀).trans F9.1.1, (f3₀ g₀ 0).trans gY0, (f1₀ u₀).trans F9.2.2.1.1, by omega⟩, (f3₀ g₀ 1).trans gY1, ((f3₀ g₀ 3).trans (gYk 3 (by omega) (by omega))).trans F9.1.2.2.2.1, ((f3₀ g₀ 4).trans (gYk 4 (by omega) (by omega))).trans F9.1.2.2.2.2.1, ((f3₀ g₀ 5).trans (gYk 5 (by omega) (by omega))).trans F9.1.2.2.2.2.2⟩, ⟨(f1₀ _).trans F9.2.2.2.1.1, (f1₀ _).trans F9.2.2.2.1.2.1, (f1₀ _).trans F9.2.2.2.1.2.2.1, ((f3₀ _ 2).trans (rY _ 2 (by omega))).trans F9.2.2.2.1.2.2.2.1, mh_cL_lo ckl (fun a₀ h1 h2 => AQ a₀ (by omega) (by omega))⟩, by omega, ⟨tlQ, nbQ⟩, ⟨mh_eq_tb etQ tl.1, mh_eq_cL etQ tl.2.1⟩, by rw [x0₀, x0₀]; exact oh.1, by rw [x0₀, x0₀]; exact oh.2, arQ⟩
  have SQu : mh_SQ Q₀ u₀ (m₀ + 1) := by
    unfold mh_SQ
    rw [x0₀, x0₀, mh_eq_at euQ]
    refine ⟨fun p₀ q₀ h₀ => by have := n5₀ p₀ q₀ h₀; omega, fun p₀ q₀ p' q' h₀ h' => (n7 p₀ q₀ p' q' h₀ h').trans (q2₀ p₀ q₀ p' q' h₀ h'), fun p₀ q₀ h₀ => ?_, fun k₀ k0₀ k1₀ => ?_, fun k₀ k0₀ k1₀ => ?_⟩
    · rw [mh_eq_ct euQ tlu nbu h₀, mh_eq_ct euQ tlu nbu h₀]
      exact ⟨(n8 p₀ q₀ h₀).1.trans (q3₀ p₀ q₀ h₀).1, (n8 p₀ q₀ h₀).2.trans (q3₀ p₀ q₀ h₀).2⟩
    · rw [x2₀]; exact (n9 k₀ k0₀ k1₀).trans (q4₀ k₀ k0₀ k1₀)
    · rw [x1₀]; exact (n10 k₀ k0₀ k1₀).trans (q5₀ k₀ k0₀ k1₀)
  have SQt : mh_SQ Q₀ t₀ (m₀ + 6) := by
    unfold mh_SQ
    rw [t0₀, t0₀, mh_eq_at etQ]
    refine ⟨fun p₀ q₀ h₀ => by rw [ei p₀ q₀ h₀]; exact sq.1 p₀ q₀ h₀, fun p₀ q₀ p' q' h₀ h' => by rw [ei p₀ q₀ h₀, ei p' q' h']; exact sq.2.1 p₀ q₀ p' q' h₀ h', fun p₀ q₀ h₀ => ?_, fun k₀ k0₀ k1₀ => ?_, fun k₀ k0₀ k1₀ => ?_⟩
    · have w₀ := sq.1 p₀ q₀ h₀
      rw [ei p₀ q₀ h₀, mh_eq_ct etQ tl nb h₀, mh_eq_ct etQ tl nb h₀]
      have x₀ := a7 (mi M (m₀ + 1) p₀ q₀).toNat (by omega)
      have y₀ := sq.2.2.1 p₀ q₀ h₀
      exact ⟨x₀.1.trans y₀.1, x₀.2.trans y₀.2⟩
    · rw [t2₀]; exact (a9 k₀.toNat (by omega)).trans (sq.2.2.2.1 k₀ k0₀ k1₀)
    · rw [t1₀]; exact (a10 k₀.toNat (by omega)).trans (sq.2.2.2.2 k₀ k0₀ k1₀)
  refine ⟨by rw [e₀, hz, cnt₀, cntQ, E9], n0₀, mh_far_f f₀ (fun a₀ k₀ w₀ => by omega), u₀, t₀, KQ, mh_V_eq euQ tlu.2.1 oV, ⟨mh_st_g st₀ f1₀ f2₀ (fun k₀ => (f3₀ m₀ k₀).trans (rY m₀ k₀ (by omega))), pm⟩, by rw [n1₀, n2₀, n3₀, x0₀, x0₀, x0₀]; exact ⟨rfl, rfl, rfl⟩, SQu, ⟨n4₀, by rw [n1₀, n2₀]; exact n5₀, by rw [n1₀, n2₀]; exact n6₀⟩, ⟨by rw [v9, v9, v9, v9]; exact eq9₀, by rw [mh_cc_eq euQ tlu.2.1, v9, v9, v9, v9]; exact hu.2.1⟩, ⟨⟨by rw [k10, gq], Or.inr gq⟩, fun _ => ⟨⟨tlQt, nbQt⟩, by rw [k11, k12, k13, t0₀, t0₀, t0₀]; exact zf, by rw [t0₀, t0₀, t0₀]; exact ⟨rb.1, rb.2.1⟩, SQt, mh_V_eq etQ tl.2.1 V9⟩⟩, mh_bkt_of bkt AQ ?_ ?_ ?_ (fun k₀ => ?_) (fun k₀ => ?_) (fun k₀ => ?_)⟩
  · exact ((f₀.2.2.2.2.2.2 m₀ 25).resolve_left (by omega)).trans (cm m₀ 25 (by omega) (by omega))
  · exact ((f₀.2.2.2.2.2.2 m₀ 26).resolve_left (by omega)).trans (cm m₀ 26 (by omega) (by omega))
  · exact ((f₀.2.2.2.2.2.2 m₀ 27).resolve_left (by omega)).trans (cm m₀ 27 (by omega) (by omega))
  · exact ((f₀.2.2.2.2.2.2 (m₀ + 13) k₀).resolve_left (by omega)).trans (cm _ k₀ (by omega) (by omega))
  · exact ((f₀.2.2.2.2.2.2 (m₀ + 14) k₀).resolve_left (by omega)).trans (cm _ k₀ (by omega) (by omega))
  · exact ((f₀.2.2.2.2.2.2 (m₀ + 15) k₀).resolve_left (by omega)).trans (cm _ k₀ (by omega) (by omega))
set_option maxRecDepth 100000 in
theorem wr_takeBack0 {D : mg_D} {l : Launch} (hl : l.stackTraces = false) {M : mg_M} {g₀ : Nat} {o : Nat} {N : Int → mg_M → Prop} (c₀ : mg_Mt D l 109 [.inr (.inl g₀)] M (fun v₀ P => ∃ z₀, v₀ = some (.inl z₀) ∧ N z₀ P) mg_no) (kg : kd M g₀ = 6) (ho : ∀ z₀ P, N z₀ P → (z₀ = 0 ∨ z₀ = 1) ∧ kd P o = 10 ∧ ln P o = 1) : mg_Mt D l 237 [.inr (.inl g₀), .inr (.inl o)] M (fun v₀ Q₀ => v₀ = some (.inl 0) ∧ ∃ z₀ P, N z₀ P ∧ Q₀ = sl P o 0 z₀) mg_no := by
  refine mg_of2 hl ok_L_takeBack al_L_takeBack rfl (fun K hK₀ => ?_)
  refine hK₀ _ _ _ _ _ ?_
  (repeat' (((conv => whnf); first | (show (_ : Option mg_V) = _ ∧ _; assumption) | (show K _ _ _ _ _; assumption) | (show mm_th _ _ _ _; assumption) | refine And.intro (by first | assumption | omega | (simp only [true_and]; first | done | assumption | omega)) ?_ | (refine And.intro (fun _ => ?_) (fun _ => ?_) <;> first | (exfalso; omega) | skip) | intro _ | fail)))
  all_goals ((conv => whnf); skip)
  refine Exists.intro _ (Exists.intro _ (And.intro (c₀) (And.intro ?_ (fun _ _ h₀ => h₀.elim))))
  rintro _ P ⟨z₀, rfl, hz⟩
  obtain ⟨hb₀, ko, lo⟩ := ho z₀ P hz
  clear ho c₀
  rcases hb₀ with hb₀ | hb₀
  · subst hb₀
    (repeat' (((conv => whnf); first | (show (_ : Option mg_V) = _ ∧ _; assumption) | (show K _ _ _ _ _; assumption) | (show mm_th _ _ _ _; assumption) | refine And.intro (by first | assumption | omega | (simp only [true_and]; first | done | assumption | omega)) ?_ | (refine And.intro (fun _ => ?_) (fun _ => ?_) <;> first | (exfalso; omega) | skip) | intro _ | fail)))
    all_goals ((conv => whnf); first | exact ⟨rfl, 0, P, hz, rfl⟩ | exact ⟨0, P, hz, rfl⟩ | rfl | omega)
  · subst hb₀
    (repeat' (((conv => whnf); first | (show (_ : Option mg_V) = _ ∧ _; assumption) | (show K _ _ _ _ _; assumption) | (show mm_th _ _ _ _; assumption) | refine And.intro (by first | assumption | omega | (simp only [true_and]; first | done | assumption | omega)) ?_ | (refine And.intro (fun _ => ?_) (fun _ => ?_) <;> first | (exfalso; omega) | skip) | intro _ | fail)))
    all_goals ((conv => whnf); first | exact ⟨rfl, 1, P, hz, rfl⟩ | exact ⟨1, P, hz, rfl⟩ | rfl | omega)
set_option maxRecDepth 100000 in
theorem wr_takeBack1 {D : mg_D} {l : Launch} (hl : l.stackTraces = false) {M : mg_M} {g₀ : Nat} {o : Nat} {R : mg_M → Prop} (c₀ : mg_Mt D l 109 [.inr (.inl g₀)] M mh_nN (fun k₀ P => k₀ = 2 ∧ R P)) (kg : kd M g₀ = 6) : mg_Mt D l 237 [.inr (.inl g₀), .inr (.inl o)] M (fun v₀ Q₀ => v₀ = some (.inl 1) ∧ R Q₀) mg_no := by
  refine mg_of2 hl ok_L_takeBack al_L_takeBack rfl (fun K hK₀ => ?_)
  refine hK₀ _ _ _ _ _ ?_
  (repeat' (((conv => whnf); first | (show (_ : Option mg_V) = _ ∧ _; assumption) | (show K _ _ _ _ _; assumption) | (show mm_th _ _ _ _; assumption) | refine And.intro (by first | assumption | omega | (simp only [true_and]; first | done | assumption | omega)) ?_ | (refine And.intro (fun _ => ?_) (fun _ => ?_) <;> first | (exfalso; omega) | skip) | intro _ | fail)))
  all_goals ((conv => whnf); skip)
  refine Exists.intro _ (Exists.intro _ (And.intro (c₀) (And.intro (fun _ _ h₀ => h₀.elim) ?_)))
  rintro _ P ⟨rfl, hP⟩
  (repeat' (((conv => whnf); first | (show (_ : Option mg_V) = _ ∧ _; assumption) | (show K _ _ _ _ _; assumption) | (show mm_th _ _ _ _; assumption) | refine And.intro (by first | assumption | omega | (simp only [true_and]; first | done | assumption | omega)) ?_ | (refine And.intro (fun _ => ?_) (fun _ => ?_) <;> first | (exfalso; omega) | skip) | intro _ | fail)))
  all_goals ((conv => whnf); first | exact ⟨rfl, hP⟩ | exact hP | rfl | omega)
set_option maxRecDepth 100000 in
theorem wr_mean0 {D : mg_D} {l : Launch} (hl : l.stackTraces = false) {M : mg_M} {g₀ : Nat} {o : Nat} {N : UInt64 → mg_M → Prop} (c₀ : mg_Mt D l 111 [.inr (.inl g₀)] M (fun v₀ P => ∃ z₀, v₀ = some (.inr (.inr (.inr (.inl z₀)))) ∧ N z₀ P) mg_no) (kg : kd M g₀ = 6) (ho : ∀ z₀ P, N z₀ P → kd P o = 11 ∧ ln P o = 1) : mg_Mt D l 238 [.inr (.inl g₀), .inr (.inl o)] M (fun v₀ Q₀ => v₀ = some (.inl 0) ∧ ∃ z₀ P, N z₀ P ∧ Q₀ = sd P o 0 z₀) mg_no := by
  refine mg_of2 hl ok_L_mean al_L_mean rfl (fun K hK₀ => ?_)
  refine hK₀ _ _ _ _ _ ?_
  (repeat' (((conv => whnf); first | (show (_ : Option mg_V) = _ ∧ _; assumption) | (show K _ _ _ _ _; assumption) | (show mm_th _ _ _ _; assumption) | refine And.intro (by first | assumption | omega | (simp only [true_and]; first | done | assumption | omega)) ?_ | (refine And.intro (fun _ => ?_) (fun _ => ?_) <;> first | (exfalso; omega) | skip) | intro _ | fail)))
  all_goals ((conv => whnf); skip)
  refine Exists.intro _ (Exists.intro _ (And.intro (c₀) (And.intro ?_ (fun _ _ h₀ => h₀.elim))))
  rintro _ P ⟨z₀, rfl, hz⟩
  obtain ⟨ko, lo⟩ := ho z₀ P hz
  clear ho c₀
  (repeat' (((conv => whnf); first | (show (_ : Option mg_V) = _ ∧ _; assumption) | (show K _ _ _ _ _; assumption) | (show mm_th _ _ _ _; assumption) | refine And.intro (by first | assumption | omega | (simp only [true_and]; first | done | assumption | omega)) ?_ | (refine And.intro (fun _ => ?_) (fun _ => ?_) <;> first | (exfalso; omega) | skip) | intro _ | fail)))
  all_goals ((conv => whnf); first | exact ⟨rfl, z₀, P, hz, rfl⟩ | exact ⟨z₀, P, hz, rfl⟩ | rfl | omega)
set_option maxRecDepth 100000 in
theorem wr_mean1 {D : mg_D} {l : Launch} (hl : l.stackTraces = false) {M : mg_M} {g₀ : Nat} {o : Nat} {R : mg_M → Prop} (c₀ : mg_Mt D l 111 [.inr (.inl g₀)] M mh_nN (fun k₀ P => k₀ = 6 ∧ R P)) (kg : kd M g₀ = 6) : mg_Mt D l 238 [.inr (.inl g₀), .inr (.inl o)] M (fun v₀ Q₀ => v₀ = some (.inl 1) ∧ R Q₀) mg_no := by
  refine mg_of2 hl ok_L_mean al_L_mean rfl (fun K hK₀ => ?_)
  refine hK₀ _ _ _ _ _ ?_
  (repeat' (((conv => whnf); first | (show (_ : Option mg_V) = _ ∧ _; assumption) | (show K _ _ _ _ _; assumption) | (show mm_th _ _ _ _; assumption) | refine And.intro (by first | assumption | omega | (simp only [true_and]; first | done | assumption | omega)) ?_ | (refine And.intro (fun _ => ?_) (fun _ => ?_) <;> first | (exfalso; omega) | skip) | intro _ | fail)))
  all_goals ((conv => whnf); skip)
  refine Exists.intro _ (Exists.intro _ (And.intro (c₀) (And.intro (fun _ _ h₀ => h₀.elim) ?_)))
  rintro _ P ⟨rfl, hP⟩
  (repeat' (((conv => whnf); first | (show (_ : Option mg_V) = _ ∧ _; assumption) | (show K _ _ _ _ _; assumption) | (show mm_th _ _ _ _; assumption) | refine And.intro (by first | assumption | omega | (simp only [true_and]; first | done | assumption | omega)) ?_ | (refine And.intro (fun _ => ?_) (fun _ => ?_) <;> first | (exfalso; omega) | skip) | intro _ | fail)))
  all_goals ((conv => whnf); first | exact ⟨rfl, hP⟩ | exact hP | rfl | omega)
def mh_WB (D : mg_D) (l : Launch) (M : mg_M) (g₀ m₀ o : Nat) : Prop := ∃ R : Int → mg_M → Prop, mg_Mt D l 237 [.inr (.inl g₀), .inr (.inl o)] M (fun v₀ P => ∃ k₀, v₀ = some (.inl k₀) ∧ R k₀ P) mg_no ∧ ∀ k₀ P, R k₀ P → kd P m₀ = 7 ∧ mh_fa M P g₀ ∧ mg_Mt D l 202 [.inr (.inl m₀)] P (fun w₀ Q₀ => ∃ b₀, w₀ = some (.inl b₀) ∧ gi Q₀ m₀ 0 = k₀ ∧ (k₀ = 0 → gl Q₀ o 0 = b₀ ∧ (b₀ = 0 ∨ b₀ = 1)) ∧ mh_fa M Q₀ g₀ ∧ ∃ t₀ u₀, mh_INV Q₀ g₀ m₀ t₀ u₀) mg_no
theorem tw_takeBack {D : mg_D} {l : Launch} (hl : l.stackTraces = false) {M : mg_M} {g₀ m₀ t₀ u₀ o : Nat} (I₀ : mh_INV M g₀ m₀ t₀ u₀) (ho : kd M o = 10 ∧ ln M o = 1) : mh_WB D l M g₀ m₀ o := by
  have kg : kd M g₀ = 6 := (mh_gF_of I₀.1).1.1
  rcases I₀.2.2.2.2.2.2.2.1.1.2 with h₀ | h₀
  · obtain ⟨c₀, hh⟩ := ti_takeBack1 (D := D) hl I₀ h₀
    refine ⟨fun k₀ P => k₀ = 1 ∧ mh_same M P g₀ m₀ ∧ mh_far M P g₀, mg_MtN (wr_takeBack1 hl c₀ kg) (fun v₀ P h₀ => ⟨1, h₀.1, rfl, h₀.2⟩), ?_⟩
    rintro k₀ P ⟨rfl, s₀, far₀⟩
    refine ⟨(s₀.1 m₀).trans I₀.2.2.1.1.1, ⟨far₀.1, far₀.2.1, far₀.2.2.2.2⟩, mg_MtN (hh P s₀) ?_⟩
    rintro w₀ Q₀ ⟨⟨z₀, e₀⟩, q0, fq, inv₀⟩
    exact ⟨z₀, e₀, q0, fun x₀ => absurd x₀ (by decide), ⟨fun a₀ => (fq.1 a₀).trans (far₀.1 a₀), fun a₀ => (fq.2.1 a₀).trans (far₀.2.1 a₀), fun a₀ k₀ w₀ => (fq.2.2.2.2 a₀ k₀ w₀).trans (far₀.2.2.2.2 a₀ k₀ w₀)⟩, inv₀⟩
  · obtain ⟨N, c₀, hh⟩ := tj_takeBack0 (D := D) hl I₀ h₀
    refine ⟨fun k₀ P => k₀ = 0 ∧ ∃ z₀ P0₀, N z₀ P0₀ ∧ P = sl P0₀ o 0 z₀, mg_MtN (wr_takeBack0 hl c₀ kg (fun z₀ P hz => ⟨(hh z₀ P hz).1, ((hh z₀ P hz).2.1.1 o).trans ho.1, ((hh z₀ P hz).2.1.2.1 o).trans ho.2⟩)) (fun v₀ P h₀ => ⟨0, h₀.1, rfl, h₀.2⟩), ?_⟩
    rintro k₀ P ⟨rfl, z₀, P0₀, hz, rfl⟩
    obtain ⟨zb, far₀, mt₀⟩ := hh z₀ P0₀ hz
    refine ⟨(far₀.1 m₀).trans I₀.2.2.1.1.1, ⟨far₀.1, far₀.2.1, far₀.2.2.2.2⟩, mg_MtN (mt₀ o) ?_⟩
    rintro w₀ Q₀ ⟨e₀, q0, fq, inv₀⟩
    refine ⟨z₀, e₀, q0, fun _ => ⟨(fq.2.2.1 o 0).trans ?_, zb⟩, ⟨fun a₀ => (fq.1 a₀).trans (far₀.1 a₀), fun a₀ => (fq.2.1 a₀).trans (far₀.2.1 a₀), fun a₀ k₀ w₀ => (fq.2.2.2.2 a₀ k₀ w₀).trans (far₀.2.2.2.2 a₀ k₀ w₀)⟩, inv₀⟩
    show (if o = o ∧ (0 : Nat) = 0 then z₀ else _) = z₀
    rw [if_pos ⟨rfl, rfl⟩]
/-- what is₀ wanted₀ of floating numbers₀ -/
def mh_FL : Prop := (∀ a₀ b₀ : Int, 0 < b₀ ∧ b₀ < 2147483648 → vf_n64 (FP.ddiv (FP.i2d (Int32.ofInt a₀)) (FP.i2d (Int32.ofInt b₀)))) ∧ ∀ a₀ b₀ : Int, 0 < b₀ ∧ b₀ < 2147483648 → vf_n32 (FP.fdiv (FP.i2f (Int32.ofInt a₀)) (FP.i2f (Int32.ofInt b₀))) ∧ vf_n64 (FP.f2d (FP.fdiv (FP.i2f (Int32.ofInt a₀)) (FP.i2f (Int32.ofInt b₀))))
def mh_WE (D : mg_D) (l : Launch) (M : mg_M) (g₀ m₀ o : Nat) : Prop := ∃ R : Int → mg_M → Prop, mg_Mt D l 238 [.inr (.inl g₀), .inr (.inl o)] M (fun v₀ P => ∃ k₀, v₀ = some (.inl k₀) ∧ R k₀ P) mg_no ∧ ∀ k₀ P, R k₀ P → kd P m₀ = 7 ∧ mh_fa M P g₀ ∧ mg_Mt D l 204 [.inr (.inl m₀)] P (fun w₀ Q₀ => ∃ b₀ : UInt64, w₀ = some (.inr (.inr (.inr (.inl b₀)))) ∧ gi Q₀ m₀ 0 = k₀ ∧ (k₀ = 0 → gd Q₀ o (Int.toNat 0) = b₀) ∧ mh_fa M Q₀ g₀ ∧ ∃ t₀ u₀, mh_INV Q₀ g₀ m₀ t₀ u₀) mg_no
theorem tw_mean {D : mg_D} {l : Launch} (hl : l.stackTraces = false) (FL : mh_FL) {M : mg_M} {g₀ m₀ t₀ u₀ o : Nat} (I₀ : mh_INV M g₀ m₀ t₀ u₀) (ho : kd M o = 11 ∧ ln M o = 1) : mh_WE D l M g₀ m₀ o := by
  have kg : kd M g₀ = 6 := (mh_gF_of I₀.1).1.1
  by_cases h₀ : mh_sum (fun i₀ => (if mh_bi (mh_in M (gr M (t₀ + 3 + 1) i₀) (g₀ + 259)) = 0 then (0 : Int) else if gi M (gr M (t₀ + 3 + 1) i₀) 4 = 0 then (0 : Int) else 1)) (gi M (t₀ + 3) 0).toNat = 0
  · obtain ⟨c₀, hh⟩ := ti_mean1 (D := D) hl I₀ h₀
    refine ⟨fun k₀ P => k₀ = 1 ∧ mh_same M P g₀ m₀ ∧ mh_far M P g₀, mg_MtN (wr_mean1 hl c₀ kg) (fun v₀ P h₀ => ⟨1, h₀.1, rfl, h₀.2⟩), ?_⟩
    rintro k₀ P ⟨rfl, s₀, far₀⟩
    refine ⟨(s₀.1 m₀).trans I₀.2.2.1.1.1, ⟨far₀.1, far₀.2.1, far₀.2.2.2.2⟩, mg_MtN (hh P s₀) ?_⟩
    rintro w₀ Q₀ ⟨⟨z₀, e₀⟩, q0, fq, inv₀⟩
    exact ⟨z₀, e₀, q0, fun x₀ => absurd x₀ (by decide), ⟨fun a₀ => (fq.1 a₀).trans (far₀.1 a₀), fun a₀ => (fq.2.1 a₀).trans (far₀.2.1 a₀), fun a₀ k₀ w₀ => (fq.2.2.2.2 a₀ k₀ w₀).trans (far₀.2.2.2.2 a₀ k₀ w₀)⟩, inv₀⟩
  · have z9 := I₀.1.2.2.2.1.1.2.1.2.2.2.2.2.2.1
    have b9 := @mh_sum_le (fun i₀ => (if mh_bi (mh_in M (gr M (t₀ + 3 + 1) i₀) (g₀ + 259)) = 0 then (0 : Int) else if gi M (gr M (t₀ + 3 + 1) i₀) 4 = 0 then (0 : Int) else 1)) 1 (gi M (t₀ + 3) 0).toNat (fun i₀ _ => by (repeat' split) <;> omega)
    obtain ⟨N, c₀, hh⟩ := ti_mean0 (D := D) hl I₀ h₀ (FL.1 _ _ (by omega))
    refine ⟨fun k₀ P => k₀ = 0 ∧ ∃ z₀ P0₀, N z₀ P0₀ ∧ P = sd P0₀ o 0 z₀, mg_MtN (wr_mean0 hl c₀ kg (fun z₀ P hz => ⟨((hh z₀ P hz).2.1.1 o).trans ho.1, ((hh z₀ P hz).2.1.2.1 o).trans ho.2⟩)) (fun v₀ P h₀ => ⟨0, h₀.1, rfl, h₀.2⟩), ?_⟩
    rintro k₀ P ⟨rfl, z₀, P0₀, hz, rfl⟩
    obtain ⟨_, far₀, mt₀⟩ := hh z₀ P0₀ hz
    refine ⟨(far₀.1 m₀).trans I₀.2.2.1.1.1, ⟨far₀.1, far₀.2.1, far₀.2.2.2.2⟩, mg_MtN (mt₀ o) ?_⟩
    rintro w₀ Q₀ ⟨e₀, q0, fq, inv₀⟩
    refine ⟨z₀, e₀, q0, fun _ => (fq.2.2.2.1 o 0).trans ?_, ⟨fun a₀ => (fq.1 a₀).trans (far₀.1 a₀), fun a₀ => (fq.2.1 a₀).trans (far₀.2.1 a₀), fun a₀ k₀ w₀ => (fq.2.2.2.2 a₀ k₀ w₀).trans (far₀.2.2.2.2 a₀ k₀ w₀)⟩, inv₀⟩
    show (if o = o ∧ (0 : Nat) = 0 then z₀ else _) = z₀
    rw [if_pos ⟨rfl, rfl⟩]
def mh_opG (D : mg_D) (l : Launch) (yc ym : Nat) (as₀ : List mg_V) (M : mg_M) (g₀ m₀ : Nat) : Prop := ∃ z₀, vf_n64 (FP.f2d z₀) ∧ mg_Mt D l yc (.inr (.inl g₀) :: as₀) M (fun v₀ P => v₀ = some (.inr (.inr (.inr (.inr z₀)))) ∧ P = M) mg_no ∧ mg_Mt D l ym (.inr (.inl m₀) :: as₀) M (fun w₀ Q₀ => w₀ = some (.inr (.inr (.inr (.inr z₀)))) ∧ gi Q₀ m₀ 0 = 0 ∧ mh_far M Q₀ g₀ ∧ ∃ t₀ u₀, mh_INV Q₀ g₀ m₀ t₀ u₀) mg_no
theorem tj_mergedShare {D : mg_D} {l : Launch} (hl : l.stackTraces = false) {M : mg_M} {g₀ m₀ t₀ u₀ : Nat} (I₀ : mh_INV M g₀ m₀ t₀ u₀) (hq : vf_n32 (FP.fdiv (FP.i2f (Int32.ofInt (mh_sum (fun i₀ => (if gi M (gr M (t₀ + 3 + 1) i₀) 2 * gi M (gr M (t₀ + 3 + 1) i₀) 3 ≤ 1 then (0 : Int) else gi M (gr M (t₀ + 3 + 1) i₀) 2 * gi M (gr M (t₀ + 3 + 1) i₀) 3)) (gi M (t₀ + 3) 0).toNat))) (FP.i2f (Int32.ofInt (gi M t₀ 0 * gi M t₀ 1))))) (hf : vf_n64 (FP.f2d (FP.fdiv (FP.i2f (Int32.ofInt (mh_sum (fun i₀ => (if gi M (gr M (t₀ + 3 + 1) i₀) 2 * gi M (gr M (t₀ + 3 + 1) i₀) 3 ≤ 1 then (0 : Int) else gi M (gr M (t₀ + 3 + 1) i₀) 2 * gi M (gr M (t₀ + 3 + 1) i₀) 3)) (gi M (t₀ + 3) 0).toNat))) (FP.i2f (Int32.ofInt (gi M t₀ 0 * gi M t₀ 1)))))) : mh_opG D l 112 205 [] M g₀ m₀ := by
  obtain ⟨st₀, rc, h4, si9, rts, hid₀, cnt₀, hco, hw, hh, hb₀, hd₀⟩ := mh_INV_m I₀
  have K9 := I₀.1
  have V9 := I₀.2.1
  have zf := I₀.2.2.2.1
  have sq := I₀.2.2.2.2.1
  have pm := I₀.2.2.1.2
  have pl := I₀.1.2.2.1
  have bb := K9.2.2.2.1.1.1.2.2
  obtain ⟨tl, nb⟩ := K9.2.2.2.1
  refine ⟨_, hf, cX5_mergedShare hl K9 rfl hq, ?_⟩
  have en : mh_sum (fun r₀ => mh_sum (mh_ms (mh_fT M t₀ 2) (mh_fT M t₀ 3) r₀) (gi M m₀ 2).toNat) (gi M m₀ 1).toNat = mh_sum (fun i₀ => (if gi M (gr M (t₀ + 3 + 1) i₀) 2 * gi M (gr M (t₀ + 3 + 1) i₀) 3 ≤ 1 then (0 : Int) else gi M (gr M (t₀ + 3 + 1) i₀) 2 * gi M (gr M (t₀ + 3 + 1) i₀) 3)) (gi M (t₀ + 3) 0).toNat := by rw [zf.1, zf.2.1]; exact (mh_arM tl nb).symm
  have R := @cX6_mergedShare D l hl M m₀ (mh_fT M t₀ 0) (mh_fT M t₀ 1) (mh_fT M t₀ 2) (mh_fT M t₀ 3) _ st₀ rc (by omega) rts en (by rw [zf.1, zf.2.1]; exact hq)
  rw [zf.1, zf.2.1] at R
  refine mg_MtN R ?_
  rintro w₀ Q₀ ⟨e₀, hQ⟩
  exact ⟨e₀, mh_INV_q I₀ hQ⟩
set_option maxRecDepth 100000 in
theorem lw_takeBack {D : mg_D} {l : Launch} (hl : l.stackTraces = false) {N : mg_O} {X₀ : mg_X} {K : mg_K} {M : mg_M} {s₀ g₀ m₀ o od n₀ : Nat} {i₀ : Int} {B₀ : Nat} (L₀ : mh_L M s₀ g₀ m₀ o od n₀) (hi : 0 ≤ i₀ ∧ i₀ + 5 ≤ n₀) (hB₀ : 4 ≤ B₀) (nex : ∀ M' B', mh_L M' s₀ g₀ m₀ o od n₀ → B₀ ≤ B' + 4 → K 28 [(0, Sum.inr (Sum.inl s₀)), (1, Sum.inr (Sum.inl g₀)), (2, Sum.inr (Sum.inl m₀)), (3, Sum.inr (Sum.inl o)), (4, Sum.inr (Sum.inl od)), (5, Sum.inl (i₀ + 5))] [] M' B') : mg_ev mc_L_lawb (mg_Mt D l) N X₀ K 988 true 2319 [(0, Sum.inr (Sum.inl s₀)), (1, Sum.inr (Sum.inl g₀)), (2, Sum.inr (Sum.inl m₀)), (3, Sum.inr (Sum.inl o)), (4, Sum.inr (Sum.inl od)), (5, Sum.inl (i₀))] [] M B₀ := by
  -- refine hK₀ _ _ _ _ _ ?_
  obtain ⟨t₀, u₀, I₀⟩ := L₀.2.2.2.2
  have ks₀ := L₀.1.1
  have nn := L₀.1.2.2.2
  obtain ⟨R, c₀, h₀⟩ := @tw_takeBack D l hl M g₀ m₀ t₀ u₀ o I₀ L₀.2.2.1
  have kg : kd M g₀ = 6 := (mh_gF_of I₀.1).1.1
  (repeat' (((conv => whnf); first | (show (_ : Option mg_V) = _ ∧ _; assumption) | (show K _ _ _ _ _; assumption) | (show mm_th _ _ _ _; assumption) | refine And.intro (by first | assumption | omega | (simp only [true_and]; first | done | assumption | omega)) ?_ | (refine And.intro (fun _ => ?_) (fun _ => ?_) <;> first | (exfalso; omega) | skip) | intro _ | fail)))
  all_goals ((conv => whnf); skip)
  refine Exists.intro _ (Exists.intro _ (And.intro (c₀) (And.intro ?_ (fun _ _ h₀ => h₀.elim))))
  rintro _ P ⟨k₀, rfl, hR⟩
  obtain ⟨km, fa, mt₀⟩ := h₀ k₀ P hR
  clear h₀ c₀
  (repeat' (((conv => whnf); first | (show (_ : Option mg_V) = _ ∧ _; assumption) | (show K _ _ _ _ _; assumption) | (show mm_th _ _ _ _; assumption) | refine And.intro (by first | assumption | omega | (simp only [true_and]; first | done | assumption | omega)) ?_ | (refine And.intro (fun _ => ?_) (fun _ => ?_) <;> first | (exfalso; omega) | skip) | intro _ | fail)))
  all_goals ((conv => whnf); skip)
  refine Exists.intro _ (Exists.intro _ (And.intro (mt₀) (And.intro ?_ (fun _ _ h₀ => h₀.elim))))
  rintro _ Q₀ ⟨b₀, rfl, q0, qg, fq, inv₀⟩
  clear mt₀
  have kmQ := (fq.1 m₀).trans I₀.2.2.1.1.1
  have cT := cX6_thrown (D := D) hl kmQ
  have koQ := (fq.1 o).trans L₀.2.2.1.1
  have loQ := (fq.2.1 o).trans L₀.2.2.1.2
  have kdQ := (fq.1 od).trans L₀.2.2.2.1.1
  have ldQ := (fq.2.1 od).trans L₀.2.2.2.1.2
  have LQ := mh_L_fa L₀ fq inv₀
  have fin : ∀ B', B₀ ≤ B' + 4 → K 28 [(0, Sum.inr (Sum.inl s₀)), (1, Sum.inr (Sum.inl g₀)), (2, Sum.inr (Sum.inl m₀)), (3, Sum.inr (Sum.inl o)), (4, Sum.inr (Sum.inl od)), (5, Sum.inl (i₀ + 5))] [] Q₀ B' := fun B' hB' => nex Q₀ B' LQ hB'
  clear nex inv₀ L₀ I₀
  by_cases hk : k₀ = 0
  · obtain ⟨gz, b9⟩ := qg hk
    clear qg
    rcases b9 with b9 | b9
    · subst b9
      have gy : gl Q₀ o (Int.toNat 0) = 0 := gz
      have z9 : (if gl Q₀ o (Int.toNat 0) < ((0 : Nat) : Int) then (-1 : Int) else if gl Q₀ o (Int.toNat 0) = ((0 : Nat) : Int) then 0 else 1) = 0 := by rw [gy]; decide
      (repeat' (((conv => whnf); first | (show (_ : Option mg_V) = _ ∧ _; assumption) | (show K _ _ _ _ _; assumption) | (show mm_th _ _ _ _; assumption) | refine And.intro (by first | assumption | omega | (simp only [true_and]; first | done | assumption | omega)) ?_ | (refine And.intro (fun _ => ?_) (fun _ => ?_) <;> first | (exfalso; omega) | skip) | intro _ | fail)))
      all_goals (try ((conv => whnf); (refine Exists.intro _ (Exists.intro _ (And.intro (cT) (And.intro ?_ (fun _ _ h₀ => h₀.elim)))); rintro _ _ ⟨rfl, e₀⟩; have e2₀ := e₀.symm; clear e₀; subst e2₀); (repeat' (((conv => whnf); first | (show (_ : Option mg_V) = _ ∧ _; assumption) | (show K _ _ _ _ _; assumption) | (show mm_th _ _ _ _; assumption) | refine And.intro (by first | assumption | omega | (simp only [true_and]; first | done | assumption | omega)) ?_ | (refine And.intro (fun _ => ?_) (fun _ => ?_) <;> first | (exfalso; omega) | skip) | intro _ | fail)))))
      all_goals (first | (exfalso; contradiction) | (exfalso; omega) | ((conv => whnf); exact fin _ (by omega)) | skip)
    · subst b9
      have gy : gl Q₀ o (Int.toNat 0) = 1 := gz
      have z9 : (if gl Q₀ o (Int.toNat 0) < ((1 : Nat) : Int) then (-1 : Int) else if gl Q₀ o (Int.toNat 0) = ((1 : Nat) : Int) then 0 else 1) = 0 := by rw [gy]; decide
      (repeat' (((conv => whnf); first | (show (_ : Option mg_V) = _ ∧ _; assumption) | (show K _ _ _ _ _; assumption) | (show mm_th _ _ _ _; assumption) | refine And.intro (by first | assumption | omega | (simp only [true_and]; first | done | assumption | omega)) ?_ | (refine And.intro (fun _ => ?_) (fun _ => ?_) <;> first | (exfalso; omega) | skip) | intro _ | fail)))
      all_goals (try ((conv => whnf); (refine Exists.intro _ (Exists.intro _ (And.intro (cT) (And.intro ?_ (fun _ _ h₀ => h₀.elim)))); rintro _ _ ⟨rfl, e₀⟩; have e2₀ := e₀.symm; clear e₀; subst e2₀); (repeat' (((conv => whnf); first | (show (_ : Option mg_V) = _ ∧ _; assumption) | (show K _ _ _ _ _; assumption) | (show mm_th _ _ _ _; assumption) | refine And.intro (by first | assumption | omega | (simp only [true_and]; first | done | assumption | omega)) ?_ | (refine And.intro (fun _ => ?_) (fun _ => ?_) <;> first | (exfalso; omega) | skip) | intro _ | fail)))))
      all_goals (first | (exfalso; contradiction) | (exfalso; omega) | ((conv => whnf); exact fin _ (by omega)) | skip)
  · clear qg
    (repeat' (((conv => whnf); first | (show (_ : Option mg_V) = _ ∧ _; assumption) | (show K _ _ _ _ _; assumption) | (show mm_th _ _ _ _; assumption) | refine And.intro (by first | assumption | omega | (simp only [true_and]; first | done | assumption | omega)) ?_ | (refine And.intro (fun _ => ?_) (fun _ => ?_) <;> first | (exfalso; omega) | skip) | intro _ | fail)))
    all_goals (try ((conv => whnf); (refine Exists.intro _ (Exists.intro _ (And.intro (cT) (And.intro ?_ (fun _ _ h₀ => h₀.elim)))); rintro _ _ ⟨rfl, e₀⟩; have e2₀ := e₀.symm; clear e₀; subst e2₀); (repeat' (((conv => whnf); first | (show (_ : Option mg_V) = _ ∧ _; assumption) | (show K _ _ _ _ _; assumption) | (show mm_th _ _ _ _; assumption) | refine And.intro (by first | assumption | omega | (simp only [true_and]; first | done | assumption | omega)) ?_ | (refine And.intro (fun _ => ?_) (fun _ => ?_) <;> first | (exfalso; omega) | skip) | intro _ | fail)))))
    all_goals ((conv => whnf); first | exact fin _ (by omega) | skip)
set_option maxRecDepth 100000 in
theorem lw_mean (FL : mh_FL) {D : mg_D} {l : Launch} (hl : l.stackTraces = false) {N : mg_O} {X₀ : mg_X} {K : mg_K} {M : mg_M} {s₀ g₀ m₀ o od n₀ : Nat} {i₀ : Int} {B₀ : Nat} (L₀ : mh_L M s₀ g₀ m₀ o od n₀) (hi : 0 ≤ i₀ ∧ i₀ + 5 ≤ n₀) (hB₀ : 4 ≤ B₀) (nex : ∀ M' B', mh_L M' s₀ g₀ m₀ o od n₀ → B₀ ≤ B' + 4 → K 28 [(0, Sum.inr (Sum.inl s₀)), (1, Sum.inr (Sum.inl g₀)), (2, Sum.inr (Sum.inl m₀)), (3, Sum.inr (Sum.inl o)), (4, Sum.inr (Sum.inl od)), (5, Sum.inl (i₀ + 5))] [] M' B') : mg_ev mc_L_lawb (mg_Mt D l) N X₀ K 988 true 2384 [(0, Sum.inr (Sum.inl s₀)), (1, Sum.inr (Sum.inl g₀)), (2, Sum.inr (Sum.inl m₀)), (3, Sum.inr (Sum.inl o)), (4, Sum.inr (Sum.inl od)), (5, Sum.inl (i₀))] [] M B₀ := by
  -- refine hK₀ _ _ _ _ _ ?_
  obtain ⟨t₀, u₀, I₀⟩ := L₀.2.2.2.2
  have ks₀ := L₀.1.1
  have nn := L₀.1.2.2.2
  obtain ⟨R, c₀, h₀⟩ := @tw_mean D l hl FL M g₀ m₀ t₀ u₀ od I₀ L₀.2.2.2.1
  have kg : kd M g₀ = 6 := (mh_gF_of I₀.1).1.1
  (repeat' (((conv => whnf); first | (show (_ : Option mg_V) = _ ∧ _; assumption) | (show K _ _ _ _ _; assumption) | (show mm_th _ _ _ _; assumption) | refine And.intro (by first | assumption | omega | (simp only [true_and]; first | done | assumption | omega)) ?_ | (refine And.intro (fun _ => ?_) (fun _ => ?_) <;> first | (exfalso; omega) | skip) | intro _ | fail)))
  all_goals ((conv => whnf); skip)
  refine Exists.intro _ (Exists.intro _ (And.intro (c₀) (And.intro ?_ (fun _ _ h₀ => h₀.elim))))
  rintro _ P ⟨k₀, rfl, hR⟩
  obtain ⟨km, fa, mt₀⟩ := h₀ k₀ P hR
  clear h₀ c₀
  (repeat' (((conv => whnf); first | (show (_ : Option mg_V) = _ ∧ _; assumption) | (show K _ _ _ _ _; assumption) | (show mm_th _ _ _ _; assumption) | refine And.intro (by first | assumption | omega | (simp only [true_and]; first | done | assumption | omega)) ?_ | (refine And.intro (fun _ => ?_) (fun _ => ?_) <;> first | (exfalso; omega) | skip) | intro _ | fail)))
  all_goals ((conv => whnf); skip)
  refine Exists.intro _ (Exists.intro _ (And.intro (mt₀) (And.intro ?_ (fun _ _ h₀ => h₀.elim))))
  rintro _ Q₀ ⟨b₀, rfl, q0, qg, fq, inv₀⟩
  clear mt₀
  have kmQ := (fq.1 m₀).trans I₀.2.2.1.1.1
  have cT := cX6_thrown (D := D) hl kmQ
  have koQ := (fq.1 o).trans L₀.2.2.1.1
  have loQ := (fq.2.1 o).trans L₀.2.2.1.2
  have kdQ := (fq.1 od).trans L₀.2.2.2.1.1
  have ldQ := (fq.2.1 od).trans L₀.2.2.2.1.2
  have LQ := mh_L_fa L₀ fq inv₀
  have fin : ∀ B', B₀ ≤ B' + 4 → K 28 [(0, Sum.inr (Sum.inl s₀)), (1, Sum.inr (Sum.inl g₀)), (2, Sum.inr (Sum.inl m₀)), (3, Sum.inr (Sum.inl o)), (4, Sum.inr (Sum.inl od)), (5, Sum.inl (i₀ + 5))] [] Q₀ B' := fun B' hB' => nex Q₀ B' LQ hB'
  clear nex inv₀ L₀ I₀
  by_cases hk : k₀ = 0
  · have gz := qg hk
    clear qg
    subst gz
    (repeat' (((conv => whnf); first | (show (_ : Option mg_V) = _ ∧ _; assumption) | (show K _ _ _ _ _; assumption) | (show mm_th _ _ _ _; assumption) | refine And.intro (by first | assumption | omega | (simp only [true_and]; first | done | assumption | omega)) ?_ | (refine And.intro (fun _ => ?_) (fun _ => ?_) <;> first | (exfalso; omega) | skip) | intro _ | fail)))
    all_goals (try ((conv => whnf); (refine Exists.intro _ (Exists.intro _ (And.intro (cT) (And.intro ?_ (fun _ _ h₀ => h₀.elim)))); rintro _ _ ⟨rfl, e₀⟩; have e2₀ := e₀.symm; clear e₀; subst e2₀); (repeat' (((conv => whnf); first | (show (_ : Option mg_V) = _ ∧ _; assumption) | (show K _ _ _ _ _; assumption) | (show mm_th _ _ _ _; assumption) | refine And.intro (by first | assumption | omega | (simp only [true_and]; first | done | assumption | omega)) ?_ | (refine And.intro (fun _ => ?_) (fun _ => ?_) <;> first | (exfalso; omega) | skip) | intro _ | fail)))))
    all_goals (first | (exfalso; contradiction) | (exfalso; omega) | ((conv => whnf); exact fin _ (by omega)) | skip)
  · clear qg
    (repeat' (((conv => whnf); first | (show (_ : Option mg_V) = _ ∧ _; assumption) | (show K _ _ _ _ _; assumption) | (show mm_th _ _ _ _; assumption) | refine And.intro (by first | assumption | omega | (simp only [true_and]; first | done | assumption | omega)) ?_ | (refine And.intro (fun _ => ?_) (fun _ => ?_) <;> first | (exfalso; omega) | skip) | intro _ | fail)))
    all_goals (try ((conv => whnf); (refine Exists.intro _ (Exists.intro _ (And.intro (cT) (And.intro ?_ (fun _ _ h₀ => h₀.elim)))); rintro _ _ ⟨rfl, e₀⟩; have e2₀ := e₀.symm; clear e₀; subst e2₀); (repeat' (((conv => whnf); first | (show (_ : Option mg_V) = _ ∧ _; assumption) | (show K _ _ _ _ _; assumption) | (show mm_th _ _ _ _; assumption) | refine And.intro (by first | assumption | omega | (simp only [true_and]; first | done | assumption | omega)) ?_ | (refine And.intro (fun _ => ?_) (fun _ => ?_) <;> first | (exfalso; omega) | skip) | intro _ | fail)))))
    all_goals ((conv => whnf); first | exact fin _ (by omega) | skip)
set_option maxRecDepth 100000 in
theorem lw_mergedShare (FL : mh_FL) {D : mg_D} {l : Launch} (hl : l.stackTraces = false) {N : mg_O} {X₀ : mg_X} {K : mg_K} {M : mg_M} {s₀ g₀ m₀ o od n₀ : Nat} {i₀ : Int} {B₀ : Nat} (L₀ : mh_L M s₀ g₀ m₀ o od n₀) (hi : 0 ≤ i₀ ∧ i₀ + 5 ≤ n₀) (hB₀ : 4 ≤ B₀) (nex : ∀ M' B', mh_L M' s₀ g₀ m₀ o od n₀ → B₀ ≤ B' + 4 → K 28 [(0, Sum.inr (Sum.inl s₀)), (1, Sum.inr (Sum.inl g₀)), (2, Sum.inr (Sum.inl m₀)), (3, Sum.inr (Sum.inl o)), (4, Sum.inr (Sum.inl od)), (5, Sum.inl (i₀ + 5))] [] M' B') : mg_ev mc_L_lawb (mg_Mt D l) N X₀ K 988 true 2449 [(0, Sum.inr (Sum.inl s₀)), (1, Sum.inr (Sum.inl g₀)), (2, Sum.inr (Sum.inl m₀)), (3, Sum.inr (Sum.inl o)), (4, Sum.inr (Sum.inl od)), (5, Sum.inl (i₀))] [] M B₀ := by
  -- refine hK₀ _ _ _ _ _ ?_
  obtain ⟨t₀, u₀, I₀⟩ := L₀.2.2.2.2
  have ks₀ := L₀.1.1
  have nn := L₀.1.2.2.2
  have rb := I₀.1.2.2.2.2.2
  have bb := I₀.1.2.2.2.1.1.1.2.2
  have p9₀ := @mh_mulb (gi M t₀ 0) (gi M t₀ 1) (by omega) (by omega)
  have p0₀ := Int.mul_pos (show 0 < gi M t₀ 0 by omega) (show 0 < gi M t₀ 1 by omega)
  have F2 := fun a₀ => FL.2 a₀ (gi M t₀ 0 * gi M t₀ 1) ⟨p0₀, by omega⟩
  obtain ⟨z₀, h64, c₀, mt₀⟩ := tj_mergedShare (D := D) hl I₀ (F2 _).1 (F2 _).2
  have kg : kd M g₀ = 6 := (mh_gF_of I₀.1).1.1
  have km : kd M m₀ = 7 := I₀.2.2.1.1.1
  clear F2 p0₀ p9₀ rb bb
  (repeat' (((conv => whnf); first | (show (_ : Option mg_V) = _ ∧ _; assumption) | (show K _ _ _ _ _; assumption) | (show mm_th _ _ _ _; assumption) | refine And.intro (by first | assumption | omega | (simp only [true_and]; first | done | assumption | omega)) ?_ | (refine And.intro (fun _ => ?_) (fun _ => ?_) <;> first | (exfalso; omega) | skip) | intro _ | fail)))
  all_goals ((conv => whnf); skip)
  (refine Exists.intro _ (Exists.intro _ (And.intro (c₀) (And.intro ?_ (fun _ _ h₀ => h₀.elim)))); rintro _ _ ⟨rfl, e₀⟩; have e2₀ := e₀.symm; clear e₀; subst e2₀)
  (repeat' (((conv => whnf); first | (show (_ : Option mg_V) = _ ∧ _; assumption) | (show K _ _ _ _ _; assumption) | (show mm_th _ _ _ _; assumption) | refine And.intro (by first | assumption | omega | (simp only [true_and]; first | done | assumption | omega)) ?_ | (refine And.intro (fun _ => ?_) (fun _ => ?_) <;> first | (exfalso; omega) | skip) | intro _ | fail)))
  all_goals ((conv => whnf); skip)
  refine Exists.intro _ (Exists.intro _ (And.intro (mt₀) (And.intro ?_ (fun _ _ h₀ => h₀.elim))))
  rintro _ Q₀ ⟨rfl, q0, fq, inv₀⟩
  clear mt₀ c₀
  have LQ := mh_L_fa L₀ ⟨fq.1, fq.2.1, fq.2.2.2.2⟩ inv₀
  have fin : ∀ B', B₀ ≤ B' + 4 → K 28 [(0, Sum.inr (Sum.inl s₀)), (1, Sum.inr (Sum.inl g₀)), (2, Sum.inr (Sum.inl m₀)), (3, Sum.inr (Sum.inl o)), (4, Sum.inr (Sum.inl od)), (5, Sum.inl (i₀ + 5))] [] Q₀ B' := fun B' hB' => nex Q₀ B' LQ hB'
  clear nex inv₀ L₀ I₀ fq
  (repeat' (((conv => whnf); first | (show (_ : Option mg_V) = _ ∧ _; assumption) | (show K _ _ _ _ _; assumption) | (show mm_th _ _ _ _; assumption) | refine And.intro (by first | assumption | omega | (simp only [true_and]; first | done | assumption | omega)) ?_ | (refine And.intro (fun _ => ?_) (fun _ => ?_) <;> first | (exfalso; omega) | skip) | intro _ | fail)))
  all_goals (first | (exfalso; contradiction) | (exfalso; omega) | ((conv => whnf); exact fin _ (by omega)) | skip)
