/-! setContent, setStyle, clear, setHeader, selectedCells, sum₀, isTiled tied₀ -/
/-- sums over numbers₀ and over cells₀ -/
theorem mh_INV_sum {M : mg_M} {g₀ m₀ t₀ u₀ : Nat} {F₀ G : Nat → Int} (I₀ : mh_INV M g₀ m₀ t₀ u₀) (h₀ : ∀ p₀ q₀, mh_rg (gi M t₀ 0) (gi M t₀ 1) p₀ q₀ → ∀ i₀ : Nat, (i₀ : Int) < gi M (t₀ + 3) 0 → mh_at M t₀ p₀ q₀ = i₀ → mh_co M t₀ p₀ q₀ = gr M (t₀ + 3 + 1) i₀ → F₀ (mi M (m₀ + 1) p₀ q₀).toNat = G i₀) : mh_sum F₀ (gi M m₀ 4).toNat = mh_sum G (gi M (t₀ + 3) 0).toNat := by
  obtain ⟨tl, nb⟩ := I₀.1.2.2.2.1
  have z₀ := tl.2.1.2.2.2.2.2.2.1
  have zf := I₀.2.2.2.1
  obtain ⟨m1₀, m2₀, m3₀⟩ := I₀.2.2.2.2.2.1
  rw [zf.1, zf.2.1] at m2₀ m3₀
  refine mh_tie_sum (n₀ := (gi M (t₀ + 3) 0).toNat) tl nb (by omega) m2₀ m3₀ I₀.2.2.2.2.1.2.1 (fun p₀ q₀ hr => ?_)
  obtain ⟨i₀, hi, i1₀, w₀, e₀, ec⟩ := mh_sqc tl nb hr
  rw [e₀, Int.toNat_natCast]
  exact h₀ p₀ q₀ hr i₀ hi e₀ ec
/-- the chosen numbers₀ are the cells₀ within₀ the selection -/
theorem mh_INV_ch {M : mg_M} {g₀ m₀ t₀ u₀ : Nat} (I₀ : mh_INV M g₀ m₀ t₀ u₀) : ∃ tp lf₀ hg wd : Int → Int, mm_RT M m₀ tp lf₀ hg wd ∧ (∀ p₀ q₀, mh_rg (gi M t₀ 0) (gi M t₀ 1) p₀ q₀ → (mm_ch M m₀ tp lf₀ hg wd (mi M (m₀ + 1) p₀ q₀) ↔ mh_in M (mh_co M t₀ p₀ q₀) (g₀ + 259) = true)) ∧ mm_cl (gi M m₀ 4) tp lf₀ hg wd = mh_cc M t₀ := by
  obtain ⟨st₀, rc, h4, si9, rts, hid₀, cnt₀, hco, hw, hh, hb₀, hd₀⟩ := mh_INV_m I₀
  obtain ⟨tl, nb⟩ := I₀.1.2.2.2.1
  have zf := I₀.2.2.2.1
  obtain ⟨m1₀, m2₀, m3₀⟩ := I₀.2.2.2.2.2.1
  obtain ⟨tp, lf₀, hg, wd, rt, ev₀⟩ := mh_RT_of rts m3₀
  refine ⟨tp, lf₀, hg, wd, rt, fun p₀ q₀ h₀ => ?_, ?_⟩
  · obtain ⟨s1₀, s2₀, s3₀, s4₀⟩ := I₀.2.2.2.2.2.2.1.1
    have cc := I₀.2.2.2.2.2.2.1.2
    have h' : mh_rg (gi M m₀ 1) (gi M m₀ 2) p₀ q₀ := by omega
    have b₀ := m2₀ p₀ q₀ h'
    obtain ⟨e1₀, e2₀, e3₀, e4₀⟩ := ev₀ p₀ q₀ h' b₀.1 b₀.2
    obtain ⟨i₀, hi, i1₀, w₀, e₀, ec⟩ := mh_sqc tl nb h₀
    have ci := cc i₀ hi
    have o := tl.2.2.1 i₀ hi
    unfold mh_ok at o
    unfold mm_ch
    rw [e1₀, e2₀, e3₀, e4₀, s1₀, s2₀, s3₀, s4₀]
    unfold mh_fT mh_in
    rw [ec]
    constructor
    · intro x₀
      exact decide_eq_true (by have := ci (by omega); omega)
    · intro x₀
      have := of_decide_eq_true x₀
      have ar := I₀.1.2.2.2.2.2.2.2
      unfold mh_ar at ar
      omega
  · rw [mm_cl_cq2 m3₀ m2₀ ev₀, zf.1, zf.2.1]
    exact mh_cc_cq tl nb
set_option maxRecDepth 100000 in
theorem cX6_isTiledF {D : mg_D} {l : Launch} (hl : l.stackTraces = false) {M : mg_M} {m₀ : Nat} (st₀ : mm_st M m₀) (rc : mm_rc M m₀) (h₀ : (0 < gi M m₀ 3 ∧ gi M m₀ 3 < gi M m₀ 1) ∧ ∃ j₀, (0 ≤ j₀ ∧ j₀ < gi M m₀ 2) ∧ mi M (m₀ + 1) (gi M m₀ 3) j₀ = mi M (m₀ + 1) (gi M m₀ 3 - 1) j₀) : mg_Mt D l 206 [.inr (.inl m₀)] M (fun v₀ N => v₀ = some (.inl 0) ∧ N = si M m₀ 0 0) mg_no := by
  refine mg_of2 hl ok_X6_isTiled al_X6_isTiled rfl (fun K hK₀ => ?_)
  have k7₀ := st₀.1
  have f₀ : mm_f (fun b₀ k₀ => b₀ = m₀ ∧ k₀ = 0) M (si M m₀ 0 0) := mm_f0 rfl
  have t1₀ := mm_f_gi f₀ m₀ 1 (by omega)
  have t2₀ := mm_f_gi f₀ m₀ 2 (by omega)
  have t3₀ := mm_f_gi f₀ m₀ 3 (by omega)
  have tc₀ : ∀ r₀ c₀, mi (si M m₀ 0 0) (m₀ + 1) r₀ c₀ = mi M (m₀ + 1) r₀ c₀ := fun r₀ c₀ => mm_f_gi f₀ (m₀ + 1) _ (by omega)
  have c₀ := cX6_isTiedAt (D := D) (r₀ := gi (si M m₀ 0 0) m₀ 3) hl (mm_f_st f₀ st₀) (mm_rc_f f₀ (by omega) (by omega) rc)
  rw [mh_pr1 (by simp only [t1₀, t2₀, t3₀, tc₀]; exact h₀)] at c₀
  clear h₀
  refine hK₀ _ _ _ _ _ ?_
  (repeat' (((conv => whnf); first | (show (_ : Option mg_V) = _ ∧ _; assumption) | (show K _ _ _ _ _; assumption) | (show mm_th _ _ _ _; assumption) | refine And.intro (by first | assumption | omega | (simp only [true_and, kd_si]; first | done | assumption | omega)) ?_ | (refine And.intro (fun _ => ?_) (fun _ => ?_) <;> first | (exfalso; omega) | skip) | intro _ | fail)))
  all_goals (try ((conv => whnf); (refine Exists.intro _ (Exists.intro _ (And.intro (c₀) (And.intro ?_ (fun _ _ h₀ => h₀.elim)))); rintro _ _ ⟨rfl, e₀⟩; have e2₀ := e₀.symm; clear e₀; subst e2₀); (repeat' (((conv => whnf); first | (show (_ : Option mg_V) = _ ∧ _; assumption) | (show K _ _ _ _ _; assumption) | (show mm_th _ _ _ _; assumption) | refine And.intro (by first | assumption | omega | (simp only [true_and, kd_si]; first | done | assumption | omega)) ?_ | (refine And.intro (fun _ => ?_) (fun _ => ?_) <;> first | (exfalso; omega) | skip) | intro _ | fail)))))
  all_goals ((conv => whnf) <;> first | rfl | exact And.intro rfl rfl)
/-- a₀ cell₀ across a₀ row₀, told₀ by squares -/
theorem mh_acr_m {M : mg_M} {g₀ m₀ t₀ u₀ : Nat} {x₀ : Int} (I₀ : mh_INV M g₀ m₀ t₀ u₀) : (∃ i₀ : Nat, (i₀ : Int) < gi M (t₀ + 3) 0 ∧ gi M (gr M (t₀ + 3 + 1) i₀) 0 < x₀ ∧ x₀ ≤ gi M (gr M (t₀ + 3 + 1) i₀) 0 + gi M (gr M (t₀ + 3 + 1) i₀) 2 - 1) ↔ ((0 < x₀ ∧ x₀ < gi M t₀ 0) ∧ ∃ j₀, (0 ≤ j₀ ∧ j₀ < gi M t₀ 1) ∧ mi M (m₀ + 1) x₀ j₀ = mi M (m₀ + 1) (x₀ - 1) j₀) := by
  obtain ⟨tl, nb⟩ := I₀.1.2.2.2.1
  have sq := I₀.2.2.2.2.1.2.1
  constructor
  · rintro ⟨i₀, hi, h1, h2⟩
    have o := tl.2.2.1 i₀ hi
    unfold mh_ok at o
    refine ⟨by omega, gi M (gr M (t₀ + 3 + 1) i₀) 1, by omega, ?_⟩
    rw [sq x₀ _ (x₀ - 1) _ (by omega) (by omega)]
    have a1₀ := tl.2.2.2.1 i₀ hi x₀ (gi M (gr M (t₀ + 3 + 1) i₀) 1) (by unfold mh_cv; omega)
    have a2 := tl.2.2.2.1 i₀ hi (x₀ - 1) (gi M (gr M (t₀ + 3 + 1) i₀) 1) (by unfold mh_cv; omega)
    omega
  · rintro ⟨hx, j₀, hj, e₀⟩
    rw [sq x₀ j₀ (x₀ - 1) j₀ (by omega) (by omega)] at e₀
    obtain ⟨i₀, hi, i1₀, w₀, e1₀, _⟩ := mh_sqc tl nb (p₀ := x₀) (q₀ := j₀) (by omega)
    obtain ⟨i', hi', i1', w', e1', _⟩ := mh_sqc tl nb (p₀ := x₀ - 1) (q₀ := j₀) (by omega)
    have ii : i' = i₀ := by omega
    rw [ii] at w'
    unfold mh_cv at w₀ w'
    exact ⟨i₀, hi, by omega, by omega⟩
theorem mh_INV_cnt {M : mg_M} {g₀ m₀ t₀ u₀ : Nat} {tp lf₀ hg wd : Int → Int} (I₀ : mh_INV M g₀ m₀ t₀ u₀) (ch₀ : ∀ p₀ q₀, mh_rg (gi M t₀ 0) (gi M t₀ 1) p₀ q₀ → (mm_ch M m₀ tp lf₀ hg wd (mi M (m₀ + 1) p₀ q₀) ↔ mh_in M (mh_co M t₀ p₀ q₀) (g₀ + 259) = true)) : mh_sum (fun k₀ => if mm_ch M m₀ tp lf₀ hg wd k₀ then (1 : Int) else 0) (gi M m₀ 4).toNat = mh_sum (fun i₀ => mh_bi (mh_in M (gr M (t₀ + 3 + 1) i₀) (g₀ + 259))) (gi M (t₀ + 3) 0).toNat ∧ mh_sum (fun k₀ => if mm_ch M m₀ tp lf₀ hg wd k₀ then gi M (m₀ + 2) k₀ else 0) (gi M m₀ 4).toNat = mh_sum (fun i₀ => (if mh_bi (mh_in M (gr M (t₀ + 3 + 1) i₀) (g₀ + 259)) = 0 then (0 : Int) else gi M (gr M (t₀ + 3 + 1) i₀) 4)) (gi M (t₀ + 3) 0).toNat ∧ mh_sum (fun k₀ => if mm_ch M m₀ tp lf₀ hg wd k₀ ∧ 0 < gi M (m₀ + 2) k₀ then (1 : Int) else 0) (gi M m₀ 4).toNat = mh_sum (fun i₀ => (if mh_bi (mh_in M (gr M (t₀ + 3 + 1) i₀) (g₀ + 259)) = 0 then (0 : Int) else if gi M (gr M (t₀ + 3 + 1) i₀) 4 = 0 then (0 : Int) else 1)) (gi M (t₀ + 3) 0).toNat := by
  obtain ⟨tl, nb⟩ := I₀.1.2.2.2.1
  have sq := I₀.2.2.2.2.1
  have V9 := I₀.2.1
  have K : ∀ p₀ q₀, mh_rg (gi M t₀ 0) (gi M t₀ 1) p₀ q₀ → ((mi M (m₀ + 1) p₀ q₀).toNat : Int) = mi M (m₀ + 1) p₀ q₀ := fun p₀ q₀ h₀ => Int.toNat_of_nonneg (sq.1 p₀ q₀ h₀).1
  refine ⟨mh_INV_sum I₀ (fun p₀ q₀ h₀ i₀ hi e₀ ec => ?_), mh_INV_sum I₀ (fun p₀ q₀ h₀ i₀ hi e₀ ec => ?_), mh_INV_sum I₀ (fun p₀ q₀ h₀ i₀ hi e₀ ec => ?_)⟩
  · rw [K p₀ q₀ h₀, ← ec]
    have c₀ := ch₀ p₀ q₀ h₀
    cases hin : mh_in M (mh_co M t₀ p₀ q₀) (g₀ + 259) with
    | true => rw [if_pos (c₀.2 hin)]; rfl
    | false => rw [if_neg (fun w₀ => by rw [c₀.1 w₀] at hin; exact Bool.noConfusion hin)]; rfl
  · rw [K p₀ q₀ h₀, ← ec]
    have c₀ := ch₀ p₀ q₀ h₀
    have y₀ : gi M (m₀ + 2) (mi M (m₀ + 1) p₀ q₀).toNat = gi M (mh_co M t₀ p₀ q₀) 4 := (sq.2.2.1 p₀ q₀ h₀).1
    cases hin : mh_in M (mh_co M t₀ p₀ q₀) (g₀ + 259) with
    | true => rw [if_pos (c₀.2 hin), if_neg (by decide)]; exact y₀
    | false => rw [if_neg (fun w₀ => by rw [c₀.1 w₀] at hin; exact Bool.noConfusion hin), if_pos (by rfl)]
  · rw [K p₀ q₀ h₀, ← ec]
    have c₀ := ch₀ p₀ q₀ h₀
    have y₀ : gi M (m₀ + 2) (mi M (m₀ + 1) p₀ q₀).toNat = gi M (mh_co M t₀ p₀ q₀) 4 := (sq.2.2.1 p₀ q₀ h₀).1
    have v₀ := V9.1 i₀ hi
    rw [← ec] at v₀
    rw [y₀]
    cases hin : mh_in M (mh_co M t₀ p₀ q₀) (g₀ + 259) with
    | true =>
      rw [if_neg (by decide : ¬ mh_bi true = 0)]
      by_cases z₀ : gi M (mh_co M t₀ p₀ q₀) 4 = 0
      · rw [if_pos z₀, if_neg (by omega)]
      · rw [if_neg z₀, if_pos ⟨c₀.2 hin, by omega⟩]
    | false => rw [if_neg (fun w₀ => by rw [c₀.1 w₀.1] at hin; exact Bool.noConfusion hin), if_pos (by rfl)]
theorem ti_selectedCells {D : mg_D} {l : Launch} (hl : l.stackTraces = false) {M : mg_M} {g₀ m₀ t₀ u₀ : Nat} (I₀ : mh_INV M g₀ m₀ t₀ u₀) : mh_opD D l 91 170 [] M g₀ m₀ := by
  obtain ⟨st₀, rc, h4, si9, rts, hid₀, cnt₀, hco, hw, hh, hb₀, hd₀⟩ := mh_INV_m I₀
  have K9 := I₀.1
  have V9 := I₀.2.1
  have zf := I₀.2.2.2.1
  have sq := I₀.2.2.2.2.1
  have pm := I₀.2.2.1.2
  have pl := I₀.1.2.2.1
  have bb := K9.2.2.2.1.1.1.2.2
  obtain ⟨tp, lf₀, hg, wd, rt, ch₀, _⟩ := mh_INV_ch I₀
  have sm₀ := mh_INV_cnt I₀ ch₀
  refine ⟨fun z₀ P => z₀ = .inl (mh_sum (fun i₀ => mh_bi (mh_in M (gr M (t₀ + 3 + 1) i₀) (g₀ + 259))) (gi M (t₀ + 3) 0).toNat) ∧ P = M, mg_MtN (cX5_selectedCells hl K9) (fun v₀ P h₀ => ⟨_, h₀.1, rfl, h₀.2⟩), ?_⟩
  rintro _ P ⟨rfl, rfl⟩
  refine ⟨mh_far_rfl, mg_MtN (cX6_selectedCells hl st₀ rc h4 si9 rt) ?_⟩
  rintro w₀ Q₀ ⟨e₀, hQ⟩
  exact ⟨by rw [e₀, ← sm₀.1], mh_INV_q I₀ hQ⟩
theorem ti_sum {D : mg_D} {l : Launch} (hl : l.stackTraces = false) {M : mg_M} {g₀ m₀ t₀ u₀ : Nat} (I₀ : mh_INV M g₀ m₀ t₀ u₀) : mh_opD D l 110 203 [] M g₀ m₀ := by
  obtain ⟨st₀, rc, h4, si9, rts, hid₀, cnt₀, hco, hw, hh, hb₀, hd₀⟩ := mh_INV_m I₀
  have K9 := I₀.1
  have V9 := I₀.2.1
  have zf := I₀.2.2.2.1
  have sq := I₀.2.2.2.2.1
  have pm := I₀.2.2.1.2
  have pl := I₀.1.2.2.1
  have bb := K9.2.2.2.1.1.1.2.2
  obtain ⟨tp, lf₀, hg, wd, rt, ch₀, _⟩ := mh_INV_ch I₀
  have sm₀ := mh_INV_cnt I₀ ch₀
  refine ⟨fun z₀ P => z₀ = .inr (.inr (.inl (mh_sum (fun i₀ => (if mh_bi (mh_in M (gr M (t₀ + 3 + 1) i₀) (g₀ + 259)) = 0 then (0 : Int) else gi M (gr M (t₀ + 3 + 1) i₀) 4)) (gi M (t₀ + 3) 0).toNat))) ∧ P = M, mg_MtN (cX5_sum hl K9 V9) (fun v₀ P h₀ => ⟨_, h₀.1, rfl, h₀.2⟩), ?_⟩
  rintro _ P ⟨rfl, rfl⟩
  refine ⟨mh_far_rfl, mg_MtN (cX6_sum hl st₀ rc h4 si9 rt hco) ?_⟩
  rintro w₀ Q₀ ⟨e₀, hQ⟩
  exact ⟨by rw [e₀, ← sm₀.2.1], mh_INV_q I₀ hQ⟩
theorem ti_isTiled {D : mg_D} {l : Launch} (hl : l.stackTraces = false) {M : mg_M} {g₀ m₀ t₀ u₀ : Nat} (I₀ : mh_INV M g₀ m₀ t₀ u₀) : mh_opD D l 113 206 [] M g₀ m₀ := by
  obtain ⟨st₀, rc, h4, si9, rts, hid₀, cnt₀, hco, hw, hh, hb₀, hd₀⟩ := mh_INV_m I₀
  have K9 := I₀.1
  have V9 := I₀.2.1
  have zf := I₀.2.2.2.1
  have sq := I₀.2.2.2.2.1
  have pm := I₀.2.2.1.2
  have pl := I₀.1.2.2.1
  have bb := K9.2.2.2.1.1.1.2.2
  have am := @mh_acr_m M g₀ m₀ t₀ u₀ (gi M t₀ 2) I₀
  refine ⟨fun z₀ P => z₀ = .inl (mh_pr (¬ ∃ i₀ : Nat, (i₀ : Int) < gi M (t₀ + 3) 0 ∧ gi M (gr M (t₀ + 3 + 1) i₀) 0 < gi M t₀ 2 ∧ gi M t₀ 2 ≤ gi M (gr M (t₀ + 3 + 1) i₀) 0 + gi M (gr M (t₀ + 3 + 1) i₀) 2 - 1)) ∧ P = M, mg_MtN (cX5_isTiled hl K9) (fun v₀ P h₀ => ⟨_, h₀.1, rfl, h₀.2⟩), ?_⟩
  rintro _ P ⟨rfl, rfl⟩
  refine ⟨mh_far_rfl, ?_⟩
  by_cases c₀ : ∃ i₀ : Nat, (i₀ : Int) < gi P (t₀ + 3) 0 ∧ gi P (gr P (t₀ + 3 + 1) i₀) 0 < gi P t₀ 2 ∧ gi P t₀ 2 ≤ gi P (gr P (t₀ + 3 + 1) i₀) 0 + gi P (gr P (t₀ + 3 + 1) i₀) 2 - 1
  · refine mg_MtN (cX6_isTiledF hl st₀ rc (by rw [zf.1, zf.2.1, zf.2.2]; exact am.1 c₀)) ?_
    rintro w₀ Q₀ ⟨e₀, hQ⟩
    exact ⟨by rw [e₀, mh_pr0 (fun w₀ => w₀ c₀)], mh_INV_q I₀ hQ⟩
  · refine mg_MtN (cX6_isTiled hl st₀ rc (by rw [zf.1, zf.2.1, zf.2.2]; exact fun w₀ => c₀ (am.2 w₀))) ?_
    rintro w₀ Q₀ ⟨e₀, hQ⟩
    exact ⟨by rw [e₀, mh_pr1 c₀], mh_INV_q I₀ hQ⟩
theorem ti_setHeader0 {D : mg_D} {l : Launch} (hl : l.stackTraces = false) {M : mg_M} {g₀ m₀ t₀ u₀ : Nat} {x₀ : Int} (I₀ : mh_INV M g₀ m₀ t₀ u₀) (h₀ : 0 ≤ x₀ ∧ x₀ ≤ gi M t₀ 0) (hn : ¬ ∃ i₀ : Nat, (i₀ : Int) < gi M (t₀ + 3) 0 ∧ gi M (gr M (t₀ + 3 + 1) i₀) 0 < x₀ ∧ x₀ ≤ gi M (gr M (t₀ + 3 + 1) i₀) 0 + gi M (gr M (t₀ + 3 + 1) i₀) 2 - 1) : mh_opN D l 98 189 [.inl x₀] M g₀ m₀ := by
  obtain ⟨st₀, rc, h4, si9, rts, hid₀, cnt₀, hco, hw, hh, hb₀, hd₀⟩ := mh_INV_m I₀
  have K9 := I₀.1
  have V9 := I₀.2.1
  have zf := I₀.2.2.2.1
  have sq := I₀.2.2.2.2.1
  have pm := I₀.2.2.1.2
  have pl := I₀.1.2.2.1
  have bb := K9.2.2.2.1.1.1.2.2
  obtain ⟨tlM, nbM⟩ := K9.2.2.2.1
  refine ⟨fun z₀ P => z₀ = gi M t₀ 2 ∧ ∃ N1, mh_rmb M N1 g₀ t₀ u₀ ∧ P = si N1 t₀ 2 x₀, mg_MtN (cX5_setHeader0 hl K9 h₀ hn) (fun v₀ P h₀ => ⟨_, h₀.1, rfl, h₀.2⟩), ?_⟩
  rintro z9 P ⟨hz, N1, r9, hP⟩
  obtain ⟨K1, E1₀, FR, h21⟩ := mh_rmb_K K9 r9
  have v0₀ := (E1₀ t₀ (by omega) (by omega)).2.2.2
  have v1₀ := (E1₀ (t₀ + 1) (by omega) (by omega)).2.2.2
  have v2 := (E1₀ (t₀ + 2) (by omega) (by omega)).2.2.2
  obtain ⟨q1₀, q2₀, q3₀, q4₀, q5₀⟩ := sq
  have sf : mm_f (mh_sft t₀) N1 P := by rw [hP]; exact mm_f_si mm_f_rfl (by unfold mh_sft; omega)
  have SAME : ∀ a₀ k₀, a₀ ≠ t₀ → gi P a₀ k₀ = gi N1 a₀ k₀ := fun a₀ k₀ w₀ => by rw [hP, gi_si, if_neg (fun x₀ => w₀ x₀.1)]
  have h2P : gi P t₀ 2 = x₀ := by rw [hP, gi_si, if_pos ⟨rfl, rfl⟩]
  have h29 : 0 ≤ gi P t₀ 2 ∧ gi P t₀ 2 ≤ 12 := by omega
  obtain ⟨⟨tlP, nbP⟩, ea, ec, ecc, s0₀, s1₀, s3₀⟩ := mh_soft sf K1.2.2.2.1.1 K1.2.2.2.1.2 h29
  rw [mh_eq_co E1₀] at ec
  rw [v0₀] at s0₀ s1₀
  have cm : ∀ a₀ k₀, m₀ ≤ a₀ → a₀ < m₀ + 18 → gi P a₀ k₀ = gi M a₀ k₀ := fun a₀ k₀ h1 h2 => (mm_f_gi sf a₀ k₀ (by unfold mh_sft; omega)).trans (mm_f_gi FR a₀ k₀ (by omega))
  have stP : mm_st P m₀ := mh_st_g st₀ (fun a₀ => (sf.1 a₀).trans (FR.1 a₀)) (fun a₀ => (sf.2.1 a₀).trans (FR.2.1 a₀)) (fun k₀ => (sf.2.2.1 m₀ k₀).trans (FR.2.2.1 m₀ k₀))
  have far₀ : mh_far M P g₀ := mh_far_tr (mh_far_f FR (fun a₀ k₀ w₀ => by omega)) (mh_far_f sf (fun a₀ k₀ w₀ => by unfold mh_sft at w₀; omega))
  have hC : ∀ p₀ q₀, mh_rg (gi M t₀ 0) (gi M t₀ 1) p₀ q₀ → gi P (mh_co M t₀ p₀ q₀) 4 = gi M (mh_co M t₀ p₀ q₀) 4 ∧ gi P (mh_co M t₀ p₀ q₀) 5 = gi M (mh_co M t₀ p₀ q₀) 5 := fun p₀ q₀ a₀ => by
    have cr := mh_cellr tlM nbM a₀
    exact ⟨(SAME _ 4 (by omega)).trans (mh_rm_ct K9 r9 a₀ 4), (SAME _ 5 (by omega)).trans (mh_rm_ct K9 r9 a₀ 5)⟩
  have hO1 : ∀ k₀, gi P (t₀ + 1) k₀ = gi M (t₀ + 1) k₀ := fun k₀ => (SAME _ k₀ (by omega)).trans (v1₀ k₀)
  have hO2 : ∀ k₀, gi P (t₀ + 2) k₀ = gi M (t₀ + 2) k₀ := fun k₀ => (SAME _ k₀ (by omega)).trans (v2 k₀)
  have VP : mh_V P t₀ := mh_V_of tlP (fun p₀ q₀ a₀ => by rw [s0₀, s1₀] at a₀; rw [ec, (hC p₀ q₀ a₀).1]; exact mh_V_sq V9 tlM nbM a₀) (fun k₀ k0₀ k1₀ => by
    rw [s1₀] at k1₀
    rw [hO2]; exact V9.2.1 _ (by omega)) (fun k₀ k0₀ k1₀ => by
    rw [s0₀] at k1₀
    rw [hO1]; exact V9.2.2 _ (by omega))
  refine ⟨far₀, fun o => ?_⟩
  have e0₀ : ∀ k₀, gi (sl P o 0 z9) m₀ k₀ = gi M m₀ k₀ := fun k₀ => cm m₀ k₀ (by omega) (by omega)
  have e1₀ : ∀ k₀, gi (sl P o 0 z9) (m₀ + 1) k₀ = gi M (m₀ + 1) k₀ := fun k₀ => cm (m₀ + 1) k₀ (by omega) (by omega)
  have e2₀ : ∀ k₀, gi (sl P o 0 z9) (m₀ + 2) k₀ = gi M (m₀ + 2) k₀ := fun k₀ => cm (m₀ + 2) k₀ (by omega) (by omega)
  have e3₀ : ∀ k₀, gi (sl P o 0 z9) (m₀ + 3) k₀ = gi M (m₀ + 3) k₀ := fun k₀ => cm (m₀ + 3) k₀ (by omega) (by omega)
  have e4₀ : ∀ k₀, gi (sl P o 0 z9) (m₀ + 4) k₀ = gi M (m₀ + 4) k₀ := fun k₀ => cm (m₀ + 4) k₀ (by omega) (by omega)
  have e5₀ : ∀ k₀, gi (sl P o 0 z9) (m₀ + 5) k₀ = gi M (m₀ + 5) k₀ := fun k₀ => cm (m₀ + 5) k₀ (by omega) (by omega)
  have eF : mi (sl P o 0 z9) (m₀ + 1) = mi M (m₀ + 1) := by funext p₀ q₀; exact e1₀ _
  have R := @cX6_setHeader0 D l hl (sl P o 0 z9) m₀ x₀ stP (by unfold mm_rc; rw [e0₀, e0₀]; omega) (by rw [e0₀]; omega) (by rw [e0₀, e0₀, eF, zf.1, zf.2.1]; exact fun w₀ => hn ((mh_acr_m I₀).2 w₀))
  simp only [e0₀] at R
  refine mg_MtN R ?_
  rintro w₀ Q₀ ⟨e₀, P2₀, kk, hQ⟩
  have f2₀ : mm_f (fun a₀ k₀ => (m₀ + 2 ≤ a₀ ∧ a₀ ≤ m₀ + 5) ∨ (a₀ = m₀ ∧ k₀ = 3)) P2₀ Q₀ := by rw [hQ]; exact mm_f_si mm_f_rfl (by omega)
  obtain ⟨kt, k0', fQ, eP, e3m⟩ := mh_kk_q kk f2₀
  have QS₀ : ∀ a₀ k₀, a₀ ≠ m₀ → gi Q₀ a₀ k₀ = gi P2₀ a₀ k₀ := fun a₀ k₀ w₀ => by rw [hQ, gi_si, if_neg (fun x₀ => w₀ x₀.1)]
  refine ⟨by rw [e₀, hz, zf.2.2], mh_UPK I₀ r9 sf (by omega) VP fQ (fun a₀ k₀ w₀ => w₀) k0' ?_ kt (fun p₀ q₀ a₀ => ?_) (fun k₀ k0₀ k1₀ => ?_) (fun k₀ k0₀ k1₀ => ?_)⟩
  · rw [hQ, gi_si, if_pos ⟨rfl, rfl⟩, h2P]
  · have y' : gi M (m₀ + 2) (mi M (m₀ + 1) p₀ q₀).toNat = gi M (mh_co M t₀ p₀ q₀) 4 ∧ gi M (m₀ + 3) (mi M (m₀ + 1) p₀ q₀).toNat = gi M (mh_co M t₀ p₀ q₀) 5 := q3₀ p₀ q₀ a₀
    rw [QS₀ _ _ (by omega), QS₀ _ _ (by omega), eP _ (by omega) (by omega), eP _ (by omega) (by omega), (hC p₀ q₀ a₀).1, (hC p₀ q₀ a₀).2, e2₀, e3₀]
    exact y'
  · rw [QS₀ _ _ (by omega), eP _ (by omega) (by omega), e4₀, hO2]; exact q4₀ k₀ k0₀ k1₀
  · rw [QS₀ _ _ (by omega), eP _ (by omega) (by omega), e5₀, hO1]; exact q5₀ k₀ k0₀ k1₀
theorem ti_setContent0 {D : mg_D} {l : Launch} (hl : l.stackTraces = false) {M : mg_M} {g₀ m₀ t₀ u₀ : Nat} {r₀ c₀ x₀ : Int} (I₀ : mh_INV M g₀ m₀ t₀ u₀) (h₀ : mh_rg (gi M t₀ 0) (gi M t₀ 1) r₀ c₀) (hx : 0 ≤ x₀ ∧ x₀ ≤ 999) : mh_opN D l 87 164 [.inl r₀, .inl c₀, .inl x₀] M g₀ m₀ := by
  obtain ⟨st₀, rc, h4, si9, rts, hid₀, cnt₀, hco, hw, hh, hb₀, hd₀⟩ := mh_INV_m I₀
  have K9 := I₀.1
  have V9 := I₀.2.1
  have zf := I₀.2.2.2.1
  have sq := I₀.2.2.2.2.1
  have pm := I₀.2.2.1.2
  have pl := I₀.1.2.2.1
  have bb := K9.2.2.2.1.1.1.2.2
  obtain ⟨tlM, nbM⟩ := K9.2.2.2.1
  refine ⟨fun z₀ P => z₀ = gi M (mh_co M t₀ r₀ c₀) 4 ∧ ∃ N1, mh_rmb M N1 g₀ t₀ u₀ ∧ P = si N1 (mh_co M t₀ r₀ c₀) 4 x₀, mg_MtN (cX5_setContent0 hl K9 h₀ hx) (fun v₀ P h₀ => ⟨_, h₀.1, rfl, h₀.2⟩), ?_⟩
  rintro z9 P ⟨hz, N1, r9, hP⟩
  obtain ⟨K1, E1₀, FR, h21⟩ := mh_rmb_K K9 r9
  have v0₀ := (E1₀ t₀ (by omega) (by omega)).2.2.2
  have v1₀ := (E1₀ (t₀ + 1) (by omega) (by omega)).2.2.2
  have v2 := (E1₀ (t₀ + 2) (by omega) (by omega)).2.2.2
  obtain ⟨q1₀, q2₀, q3₀, q4₀, q5₀⟩ := sq
  have ca := mh_cellr tlM nbM h₀
  have sf : mm_f (mh_sft t₀) N1 P := by rw [hP]; exact mm_f_si mm_f_rfl (by unfold mh_sft; omega)
  have SAME : ∀ a₀ k₀, k₀ ≠ 4 ∨ a₀ ≠ mh_co M t₀ r₀ c₀ → gi P a₀ k₀ = gi N1 a₀ k₀ := fun a₀ k₀ w₀ => by rw [hP, gi_si, if_neg (fun x₀ => w₀.elim (fun y₀ => y₀ x₀.2) (fun y₀ => y₀ x₀.1))]
  have h2P : gi P t₀ 2 = gi M t₀ 2 := (SAME t₀ 2 (by omega)).trans (v0₀ 2)
  have h29 : 0 ≤ gi P t₀ 2 ∧ gi P t₀ 2 ≤ 12 := by omega
  obtain ⟨⟨tlP, nbP⟩, ea, ec, ecc, s0₀, s1₀, s3₀⟩ := mh_soft sf K1.2.2.2.1.1 K1.2.2.2.1.2 h29
  rw [mh_eq_co E1₀] at ec
  rw [v0₀] at s0₀ s1₀
  have cm : ∀ a₀ k₀, m₀ ≤ a₀ → a₀ < m₀ + 18 → gi P a₀ k₀ = gi M a₀ k₀ := fun a₀ k₀ h1 h2 => (mm_f_gi sf a₀ k₀ (by unfold mh_sft; omega)).trans (mm_f_gi FR a₀ k₀ (by omega))
  have stP : mm_st P m₀ := mh_st_g st₀ (fun a₀ => (sf.1 a₀).trans (FR.1 a₀)) (fun a₀ => (sf.2.1 a₀).trans (FR.2.1 a₀)) (fun k₀ => (sf.2.2.1 m₀ k₀).trans (FR.2.2.1 m₀ k₀))
  have far₀ : mh_far M P g₀ := mh_far_tr (mh_far_f FR (fun a₀ k₀ w₀ => by omega)) (mh_far_f sf (fun a₀ k₀ w₀ => by unfold mh_sft at w₀; omega))
  have hO1 : ∀ k₀, gi P (t₀ + 1) k₀ = gi M (t₀ + 1) k₀ := fun k₀ => (SAME _ k₀ (by omega)).trans (v1₀ k₀)
  have hO2 : ∀ k₀, gi P (t₀ + 2) k₀ = gi M (t₀ + 2) k₀ := fun k₀ => (SAME _ k₀ (by omega)).trans (v2 k₀)
  have hC : ∀ p₀ q₀, mh_rg (gi M t₀ 0) (gi M t₀ 1) p₀ q₀ → gi P (mh_co M t₀ p₀ q₀) 4 = (if mi M (m₀ + 1) p₀ q₀ = mi M (m₀ + 1) r₀ c₀ then x₀ else gi M (mh_co M t₀ p₀ q₀) 4) ∧ gi P (mh_co M t₀ p₀ q₀) 5 = gi M (mh_co M t₀ p₀ q₀) 5 := fun p₀ q₀ a₀ => by
    refine ⟨?_, (SAME _ 5 (by omega)).trans (mh_rm_ct K9 r9 a₀ 5)⟩
    have ic := mh_id_co I₀ a₀ h₀
    by_cases y₀ : mi M (m₀ + 1) p₀ q₀ = mi M (m₀ + 1) r₀ c₀
    · rw [if_pos y₀, ic.1 y₀, hP, gi_si, if_pos ⟨rfl, rfl⟩]
    · rw [if_neg y₀]
      exact (SAME _ 4 (Or.inr (fun w₀ => y₀ (ic.2 w₀)))).trans (mh_rm_ct K9 r9 a₀ 4)
  have VP : mh_V P t₀ := mh_V_of tlP (fun p₀ q₀ a₀ => by rw [s0₀, s1₀] at a₀; rw [ec, (hC p₀ q₀ a₀).1]; have := mh_V_sq V9 tlM nbM a₀; split <;> omega) (fun k₀ k0₀ k1₀ => by
    rw [s1₀] at k1₀
    rw [hO2]; exact V9.2.1 _ (by omega)) (fun k₀ k0₀ k1₀ => by
    rw [s0₀] at k1₀
    rw [hO1]; exact V9.2.2 _ (by omega))
  refine ⟨far₀, fun o => ?_⟩
  have e0₀ : ∀ k₀, gi (sl P o 0 z9) m₀ k₀ = gi M m₀ k₀ := fun k₀ => cm m₀ k₀ (by omega) (by omega)
  have e1₀ : ∀ k₀, gi (sl P o 0 z9) (m₀ + 1) k₀ = gi M (m₀ + 1) k₀ := fun k₀ => cm (m₀ + 1) k₀ (by omega) (by omega)
  have e2₀ : ∀ k₀, gi (sl P o 0 z9) (m₀ + 2) k₀ = gi M (m₀ + 2) k₀ := fun k₀ => cm (m₀ + 2) k₀ (by omega) (by omega)
  have e3₀ : ∀ k₀, gi (sl P o 0 z9) (m₀ + 3) k₀ = gi M (m₀ + 3) k₀ := fun k₀ => cm (m₀ + 3) k₀ (by omega) (by omega)
  have e4₀ : ∀ k₀, gi (sl P o 0 z9) (m₀ + 4) k₀ = gi M (m₀ + 4) k₀ := fun k₀ => cm (m₀ + 4) k₀ (by omega) (by omega)
  have e5₀ : ∀ k₀, gi (sl P o 0 z9) (m₀ + 5) k₀ = gi M (m₀ + 5) k₀ := fun k₀ => cm (m₀ + 5) k₀ (by omega) (by omega)
  have eF : mi (sl P o 0 z9) (m₀ + 1) = mi M (m₀ + 1) := by funext p₀ q₀; exact e1₀ _
  have R := @cX6_setContent0 D l hl (sl P o 0 z9) m₀ r₀ c₀ x₀ stP (by unfold mm_rc; rw [e0₀, e0₀]; omega) (by rw [e0₀, e0₀]; omega) hx (by rw [eF]; have := q1₀ r₀ c₀ h₀; omega)
  simp only [eF, e2₀] at R
  refine mg_MtN R ?_
  rintro w₀ Q₀ ⟨e₀, P2₀, kk, hQ⟩
  have f2₀ : mm_f (fun a₀ k₀ => (m₀ + 2 ≤ a₀ ∧ a₀ ≤ m₀ + 5) ∨ (a₀ = m₀ ∧ k₀ = 3)) P2₀ Q₀ := by rw [hQ]; exact mm_f_si mm_f_rfl (by omega)
  obtain ⟨kt, k0', fQ, eP, e3m⟩ := mh_kk_q kk f2₀
  have QS₀ : ∀ a₀ k₀, a₀ ≠ m₀ + 2 → gi Q₀ a₀ k₀ = gi P2₀ a₀ k₀ := fun a₀ k₀ w₀ => by rw [hQ, gi_si, if_neg (fun x₀ => w₀ x₀.1)]
  refine ⟨by rw [e₀, hz]; congr 2; exact (q3₀ r₀ c₀ h₀).1, mh_UPK I₀ r9 sf (by omega) VP fQ (fun a₀ k₀ w₀ => w₀) k0' ?_ kt (fun p₀ q₀ a₀ => ?_) (fun k₀ k0₀ k1₀ => ?_) (fun k₀ k0₀ k1₀ => ?_)⟩
  · rw [QS₀ m₀ 3 (by omega), e3m, h2P, ← zf.2.2]; exact e0₀ 3
  · have y' : gi M (m₀ + 2) (mi M (m₀ + 1) p₀ q₀).toNat = gi M (mh_co M t₀ p₀ q₀) 4 ∧ gi M (m₀ + 3) (mi M (m₀ + 1) p₀ q₀).toNat = gi M (mh_co M t₀ p₀ q₀) 5 := q3₀ p₀ q₀ a₀
    have x1₀ := q1₀ p₀ q₀ a₀
    have x2₀ := q1₀ r₀ c₀ h₀
    rw [QS₀ (m₀ + 3) _ (by omega), eP (m₀ + 3) (by omega) (by omega), (hC p₀ q₀ a₀).1, (hC p₀ q₀ a₀).2, e3₀, hQ, gi_si]
    refine ⟨?_, y'.2⟩
    by_cases y₀ : mi M (m₀ + 1) p₀ q₀ = mi M (m₀ + 1) r₀ c₀
    · rw [if_pos y₀, if_pos ⟨rfl, by rw [y₀]⟩]
    · rw [if_neg y₀, if_neg (by omega), eP _ (by omega) (by omega), e2₀]
      exact y'.1
  · rw [QS₀ _ _ (by omega), eP _ (by omega) (by omega), e4₀, hO2]; exact q4₀ k₀ k0₀ k1₀
  · rw [QS₀ _ _ (by omega), eP _ (by omega) (by omega), e5₀, hO1]; exact q5₀ k₀ k0₀ k1₀
theorem mh_st_sum {M : mg_M} {g₀ m₀ t₀ u₀ : Nat} {x₀ : Int} {tp lf₀ hg wd : Int → Int} (I₀ : mh_INV M g₀ m₀ t₀ u₀) (ch₀ : ∀ p₀ q₀, mh_rg (gi M t₀ 0) (gi M t₀ 1) p₀ q₀ → (mm_ch M m₀ tp lf₀ hg wd (mi M (m₀ + 1) p₀ q₀) ↔ mh_in M (mh_co M t₀ p₀ q₀) (g₀ + 259) = true)) : mh_sum (fun k₀ => if mm_ch M m₀ tp lf₀ hg wd k₀ ∧ gi M (m₀ + 3) k₀ ≠ x₀ then (1 : Int) else 0) (gi M m₀ 4).toNat = mh_sum (fun i₀ => if mh_in M (gr M (t₀ + 3 + 1) i₀) (g₀ + 259) = true ∧ gi M (gr M (t₀ + 3 + 1) i₀) 5 ≠ x₀ then (1 : Int) else 0) (gi M (t₀ + 3) 0).toNat := by
  have sq := I₀.2.2.2.2.1
  refine mh_INV_sum I₀ (fun p₀ q₀ h₀ i₀ hi e₀ ec => ?_)
  rw [Int.toNat_of_nonneg (sq.1 p₀ q₀ h₀).1, ← ec]
  have c₀ := ch₀ p₀ q₀ h₀
  have y₀ : gi M (m₀ + 3) (mi M (m₀ + 1) p₀ q₀).toNat = gi M (mh_co M t₀ p₀ q₀) 5 := (sq.2.2.1 p₀ q₀ h₀).2
  rw [y₀]
  by_cases z₀ : mh_in M (mh_co M t₀ p₀ q₀) (g₀ + 259) = true ∧ gi M (mh_co M t₀ p₀ q₀) 5 ≠ x₀
  · rw [if_pos z₀, if_pos ⟨c₀.2 z₀.1, z₀.2⟩]
  · rw [if_neg z₀, if_neg (fun w₀ => z₀ ⟨c₀.1 w₀.1, w₀.2⟩)]
theorem ti_setStyle0 {D : mg_D} {l : Launch} (hl : l.stackTraces = false) {M : mg_M} {g₀ m₀ t₀ u₀ : Nat} {x₀ : Int} (I₀ : mh_INV M g₀ m₀ t₀ u₀) (hx : 0 ≤ x₀ ∧ x₀ ≤ 9) : mh_opN D l 88 165 [.inl x₀] M g₀ m₀ := by
  obtain ⟨st₀, rc, h4, si9, rts, hid₀, cnt₀, hco, hw, hh, hb₀, hd₀⟩ := mh_INV_m I₀
  have K9 := I₀.1
  have V9 := I₀.2.1
  have zf := I₀.2.2.2.1
  have sq := I₀.2.2.2.2.1
  have pm := I₀.2.2.1.2
  have pl := I₀.1.2.2.1
  have bb := K9.2.2.2.1.1.1.2.2
  obtain ⟨tlM, nbM⟩ := K9.2.2.2.1
  refine ⟨fun z₀ P => z₀ = mh_sum (fun i₀ => if mh_in M (gr M (t₀ + 3 + 1) i₀) (g₀ + 259) = true ∧ gi M (gr M (t₀ + 3 + 1) i₀) 5 ≠ x₀ then (1 : Int) else 0) (gi M (t₀ + 3) 0).toNat ∧ ∃ N1, mh_rmb M N1 g₀ t₀ u₀ ∧ mh_ce N1 P t₀ (g₀ + 259) 5 x₀, mg_MtN (cX5_setStyle0 hl K9 hx) (fun v₀ P h₀ => ⟨_, h₀.1, rfl, h₀.2⟩), ?_⟩
  rintro z9 P ⟨hz, N1, r9, fP, hX⟩
  obtain ⟨tp, lf₀, hg, wd, rt, ch₀, _⟩ := mh_INV_ch I₀
  have sm₀ := mh_INV_cnt I₀ ch₀
  obtain ⟨K1, E1₀, FR, h21⟩ := mh_rmb_K K9 r9
  have v0₀ := (E1₀ t₀ (by omega) (by omega)).2.2.2
  have v1₀ := (E1₀ (t₀ + 1) (by omega) (by omega)).2.2.2
  have v2 := (E1₀ (t₀ + 2) (by omega) (by omega)).2.2.2
  obtain ⟨q1₀, q2₀, q3₀, q4₀, q5₀⟩ := sq
  have v3 := (E1₀ (t₀ + 3) (by omega) (by omega)).2.2.2
  have sf : mm_f (mh_sft t₀) N1 P := mm_f_mono fP (fun a₀ k₀ w₀ => by unfold mh_sft; omega)
  have SAME : ∀ a₀ k₀, k₀ ≠ 5 ∨ (a₀ < t₀ + 6 ∨ t₀ + 126 ≤ a₀) → gi P a₀ k₀ = gi N1 a₀ k₀ := fun a₀ k₀ w₀ => mm_f_gi fP a₀ k₀ (by omega)
  have h2P : gi P t₀ 2 = gi M t₀ 2 := (SAME t₀ 2 (by omega)).trans (v0₀ 2)
  have h29 : 0 ≤ gi P t₀ 2 ∧ gi P t₀ 2 ≤ 12 := by omega
  obtain ⟨⟨tlP, nbP⟩, ea, ec, ecc, s0₀, s1₀, s3₀⟩ := mh_soft sf K1.2.2.2.1.1 K1.2.2.2.1.2 h29
  rw [mh_eq_co E1₀] at ec
  rw [v0₀] at s0₀ s1₀
  have cm : ∀ a₀ k₀, m₀ ≤ a₀ → a₀ < m₀ + 18 → gi P a₀ k₀ = gi M a₀ k₀ := fun a₀ k₀ h1 h2 => (mm_f_gi sf a₀ k₀ (by unfold mh_sft; omega)).trans (mm_f_gi FR a₀ k₀ (by omega))
  have stP : mm_st P m₀ := mh_st_g st₀ (fun a₀ => (sf.1 a₀).trans (FR.1 a₀)) (fun a₀ => (sf.2.1 a₀).trans (FR.2.1 a₀)) (fun k₀ => (sf.2.2.1 m₀ k₀).trans (FR.2.2.1 m₀ k₀))
  have far₀ : mh_far M P g₀ := mh_far_tr (mh_far_f FR (fun a₀ k₀ w₀ => by omega)) (mh_far_f sf (fun a₀ k₀ w₀ => by unfold mh_sft at w₀; omega))
  have hO1 : ∀ k₀, gi P (t₀ + 1) k₀ = gi M (t₀ + 1) k₀ := fun k₀ => (SAME _ k₀ (by omega)).trans (v1₀ k₀)
  have hO2 : ∀ k₀, gi P (t₀ + 2) k₀ = gi M (t₀ + 2) k₀ := fun k₀ => (SAME _ k₀ (by omega)).trans (v2 k₀)
  have hC : ∀ p₀ q₀, mh_rg (gi M t₀ 0) (gi M t₀ 1) p₀ q₀ → gi P (mh_co M t₀ p₀ q₀) 5 = (if mh_in M (mh_co M t₀ p₀ q₀) (g₀ + 259) = true then x₀ else gi M (mh_co M t₀ p₀ q₀) 5) ∧ gi P (mh_co M t₀ p₀ q₀) 4 = gi M (mh_co M t₀ p₀ q₀) 4 := fun p₀ q₀ a₀ => by
    refine ⟨?_, (SAME _ 4 (by omega)).trans (mh_rm_ct K9 r9 a₀ 4)⟩
    obtain ⟨i₀, hi, i1₀, w₀, e₀, ec9⟩ := mh_sqc tlM nbM a₀
    obtain ⟨x1₀, x2₀⟩ := mh_eq_cells E1₀ tlM.2.1 i1₀
    have y₀ := hX i₀ (by rw [v3]; exact hi)
    rw [mh_eq_in E1₀ (fun k₀ => mm_f_gi FR (g₀ + 259) k₀ (by omega)) tlM.2.1 i1₀, x1₀, x2₀, ← ec9] at y₀
    exact y₀
  have VP : mh_V P t₀ := mh_V_of tlP (fun p₀ q₀ a₀ => by rw [s0₀, s1₀] at a₀; rw [ec, (hC p₀ q₀ a₀).2]; have := mh_V_sq V9 tlM nbM a₀; exact this) (fun k₀ k0₀ k1₀ => by
    rw [s1₀] at k1₀
    rw [hO2]; exact V9.2.1 _ (by omega)) (fun k₀ k0₀ k1₀ => by
    rw [s0₀] at k1₀
    rw [hO1]; exact V9.2.2 _ (by omega))
  have eRT : ∀ Y, (∀ k₀, gi Y m₀ k₀ = gi M m₀ k₀) → (∀ k₀, gi Y (m₀ + 1) k₀ = gi M (m₀ + 1) k₀) → mm_RT Y m₀ tp lf₀ hg wd := fun Y y0 y1 => by
    intro k₀ k0₀ k1₀
    rw [y0] at k1₀
    exact mm_rect_f (y0 1) (y0 2) y1 (rt k₀ k0₀ k1₀)
  refine ⟨far₀, fun o => ?_⟩
  have e0₀ : ∀ k₀, gi (sl P o 0 z9) m₀ k₀ = gi M m₀ k₀ := fun k₀ => cm m₀ k₀ (by omega) (by omega)
  have e1₀ : ∀ k₀, gi (sl P o 0 z9) (m₀ + 1) k₀ = gi M (m₀ + 1) k₀ := fun k₀ => cm (m₀ + 1) k₀ (by omega) (by omega)
  have e2₀ : ∀ k₀, gi (sl P o 0 z9) (m₀ + 2) k₀ = gi M (m₀ + 2) k₀ := fun k₀ => cm (m₀ + 2) k₀ (by omega) (by omega)
  have e3₀ : ∀ k₀, gi (sl P o 0 z9) (m₀ + 3) k₀ = gi M (m₀ + 3) k₀ := fun k₀ => cm (m₀ + 3) k₀ (by omega) (by omega)
  have e4₀ : ∀ k₀, gi (sl P o 0 z9) (m₀ + 4) k₀ = gi M (m₀ + 4) k₀ := fun k₀ => cm (m₀ + 4) k₀ (by omega) (by omega)
  have e5₀ : ∀ k₀, gi (sl P o 0 z9) (m₀ + 5) k₀ = gi M (m₀ + 5) k₀ := fun k₀ => cm (m₀ + 5) k₀ (by omega) (by omega)
  have eF : mi (sl P o 0 z9) (m₀ + 1) = mi M (m₀ + 1) := by funext p₀ q₀; exact e1₀ _
  have R := @cX6_setStyle0 D l hl (sl P o 0 z9) m₀ x₀ tp lf₀ hg wd stP (by unfold mm_rc; rw [e0₀, e0₀]; omega) (by rw [e0₀]; exact h4) (by unfold mm_si; simp only [e0₀]; exact si9) (eRT _ e0₀ e1₀) hx
  simp only [mm_ch, e0₀, e3₀] at R
  refine mg_MtN R ?_
  rintro w₀ Q₀ ⟨e₀, P2₀, kk, fQ2, hQ⟩
  have f2₀ : mm_f (fun a₀ k₀ => (m₀ + 2 ≤ a₀ ∧ a₀ ≤ m₀ + 5) ∨ (a₀ = m₀ ∧ k₀ = 3)) P2₀ Q₀ := mm_f_mono fQ2 (fun a₀ k₀ w₀ => by omega)
  obtain ⟨kt, k0', fQ, eP, e3m⟩ := mh_kk_q kk f2₀
  have QS₀ : ∀ a₀ k₀, a₀ ≠ m₀ + 3 → gi Q₀ a₀ k₀ = gi P2₀ a₀ k₀ := fun a₀ k₀ w₀ => mm_f_gi fQ2 a₀ k₀ w₀
  refine ⟨?_, mh_UPK I₀ r9 sf (by omega) VP fQ (fun a₀ k₀ w₀ => w₀) k0' ?_ kt (fun p₀ q₀ a₀ => ?_) (fun k₀ k0₀ k1₀ => ?_) (fun k₀ k0₀ k1₀ => ?_)⟩
  · rw [e₀, hz]
    congr 2
    exact mh_st_sum I₀ ch₀
  · rw [QS₀ m₀ 3 (by omega), e3m, h2P, ← zf.2.2]; exact e0₀ 3
  · have y' : gi M (m₀ + 2) (mi M (m₀ + 1) p₀ q₀).toNat = gi M (mh_co M t₀ p₀ q₀) 4 ∧ gi M (m₀ + 3) (mi M (m₀ + 1) p₀ q₀).toNat = gi M (mh_co M t₀ p₀ q₀) 5 := q3₀ p₀ q₀ a₀
    have x1₀ := q1₀ p₀ q₀ a₀
    have x2₀ := I₀.2.2.2.2.2.1.2.1 p₀ q₀ (by omega)
    have cp₀ := ch₀ p₀ q₀ a₀
    have hq := hQ (mi M (m₀ + 1) p₀ q₀).toNat
    rw [Int.toNat_of_nonneg x1₀.1] at hq
    have hq2 : gi Q₀ (m₀ + 3) (mi M (m₀ + 1) p₀ q₀).toNat = if mh_in M (mh_co M t₀ p₀ q₀) (g₀ + 259) = true then x₀ else gi M (m₀ + 3) (mi M (m₀ + 1) p₀ q₀).toNat := by
      rw [hq]
      by_cases y₀ : mh_in M (mh_co M t₀ p₀ q₀) (g₀ + 259) = true
      · rw [if_pos y₀, if_pos ⟨x2₀.2, cp₀.2 y₀⟩]
      · rw [if_neg y₀, if_neg (fun w₀ => y₀ (cp₀.1 w₀.2))]
    rw [hq2, QS₀ (m₀ + 2) _ (by omega), eP (m₀ + 2) (by omega) (by omega), e2₀, (hC p₀ q₀ a₀).1, (hC p₀ q₀ a₀).2, y'.2]; exact ⟨y'.1, rfl⟩
  · rw [QS₀ _ _ (by omega), eP _ (by omega) (by omega), e4₀, hO2]; exact q4₀ k₀ k0₀ k1₀
  · rw [QS₀ _ _ (by omega), eP _ (by omega) (by omega), e5₀, hO1]; exact q5₀ k₀ k0₀ k1₀
theorem ti_clear0 {D : mg_D} {l : Launch} (hl : l.stackTraces = false) {M : mg_M} {g₀ m₀ t₀ u₀ : Nat} (I₀ : mh_INV M g₀ m₀ t₀ u₀) (hb9 : mh_sum (fun i₀ => (if mh_bi (mh_in M (gr M (t₀ + 3 + 1) i₀) (g₀ + 259)) = 0 then (0 : Int) else if gi M (gr M (t₀ + 3 + 1) i₀) 4 = 0 then (0 : Int) else 1)) (gi M (t₀ + 3) 0).toNat ≠ 0) : mh_opN D l 95 180 [] M g₀ m₀ := by
  obtain ⟨st₀, rc, h4, si9, rts, hid₀, cnt₀, hco, hw, hh, hb₀, hd₀⟩ := mh_INV_m I₀
  have K9 := I₀.1
  have V9 := I₀.2.1
  have zf := I₀.2.2.2.1
  have sq := I₀.2.2.2.2.1
  have pm := I₀.2.2.1.2
  have pl := I₀.1.2.2.1
  have bb := K9.2.2.2.1.1.1.2.2
  obtain ⟨tlM, nbM⟩ := K9.2.2.2.1
  refine ⟨fun z₀ P => z₀ = mh_sum (fun i₀ => (if mh_bi (mh_in M (gr M (t₀ + 3 + 1) i₀) (g₀ + 259)) = 0 then (0 : Int) else if gi M (gr M (t₀ + 3 + 1) i₀) 4 = 0 then (0 : Int) else 1)) (gi M (t₀ + 3) 0).toNat ∧ ∃ N1, mh_rmb M N1 g₀ t₀ u₀ ∧ mh_ce N1 P t₀ (g₀ + 259) 4 0, mg_MtN (cX5_clear0 hl K9 hb9) (fun v₀ P h₀ => ⟨_, h₀.1, rfl, h₀.2⟩), ?_⟩
  rintro z9 P ⟨hz, N1, r9, fP, hX⟩
  obtain ⟨tp, lf₀, hg, wd, rt, ch₀, _⟩ := mh_INV_ch I₀
  have sm₀ := mh_INV_cnt I₀ ch₀
  obtain ⟨K1, E1₀, FR, h21⟩ := mh_rmb_K K9 r9
  have v0₀ := (E1₀ t₀ (by omega) (by omega)).2.2.2
  have v1₀ := (E1₀ (t₀ + 1) (by omega) (by omega)).2.2.2
  have v2 := (E1₀ (t₀ + 2) (by omega) (by omega)).2.2.2
  obtain ⟨q1₀, q2₀, q3₀, q4₀, q5₀⟩ := sq
  have v3 := (E1₀ (t₀ + 3) (by omega) (by omega)).2.2.2
  have sf : mm_f (mh_sft t₀) N1 P := mm_f_mono fP (fun a₀ k₀ w₀ => by unfold mh_sft; omega)
  have SAME : ∀ a₀ k₀, k₀ ≠ 4 ∨ (a₀ < t₀ + 6 ∨ t₀ + 126 ≤ a₀) → gi P a₀ k₀ = gi N1 a₀ k₀ := fun a₀ k₀ w₀ => mm_f_gi fP a₀ k₀ (by omega)
  have h2P : gi P t₀ 2 = gi M t₀ 2 := (SAME t₀ 2 (by omega)).trans (v0₀ 2)
  have h29 : 0 ≤ gi P t₀ 2 ∧ gi P t₀ 2 ≤ 12 := by omega
  obtain ⟨⟨tlP, nbP⟩, ea, ec, ecc, s0₀, s1₀, s3₀⟩ := mh_soft sf K1.2.2.2.1.1 K1.2.2.2.1.2 h29
  rw [mh_eq_co E1₀] at ec
  rw [v0₀] at s0₀ s1₀
  have cm : ∀ a₀ k₀, m₀ ≤ a₀ → a₀ < m₀ + 18 → gi P a₀ k₀ = gi M a₀ k₀ := fun a₀ k₀ h1 h2 => (mm_f_gi sf a₀ k₀ (by unfold mh_sft; omega)).trans (mm_f_gi FR a₀ k₀ (by omega))
  have stP : mm_st P m₀ := mh_st_g st₀ (fun a₀ => (sf.1 a₀).trans (FR.1 a₀)) (fun a₀ => (sf.2.1 a₀).trans (FR.2.1 a₀)) (fun k₀ => (sf.2.2.1 m₀ k₀).trans (FR.2.2.1 m₀ k₀))
  have far₀ : mh_far M P g₀ := mh_far_tr (mh_far_f FR (fun a₀ k₀ w₀ => by omega)) (mh_far_f sf (fun a₀ k₀ w₀ => by unfold mh_sft at w₀; omega))
  have hO1 : ∀ k₀, gi P (t₀ + 1) k₀ = gi M (t₀ + 1) k₀ := fun k₀ => (SAME _ k₀ (by omega)).trans (v1₀ k₀)
  have hO2 : ∀ k₀, gi P (t₀ + 2) k₀ = gi M (t₀ + 2) k₀ := fun k₀ => (SAME _ k₀ (by omega)).trans (v2 k₀)
  have hC : ∀ p₀ q₀, mh_rg (gi M t₀ 0) (gi M t₀ 1) p₀ q₀ → gi P (mh_co M t₀ p₀ q₀) 4 = (if mh_in M (mh_co M t₀ p₀ q₀) (g₀ + 259) = true then 0 else gi M (mh_co M t₀ p₀ q₀) 4) ∧ gi P (mh_co M t₀ p₀ q₀) 5 = gi M (mh_co M t₀ p₀ q₀) 5 := fun p₀ q₀ a₀ => by
    refine ⟨?_, (SAME _ 5 (by omega)).trans (mh_rm_ct K9 r9 a₀ 5)⟩
    obtain ⟨i₀, hi, i1₀, w₀, e₀, ec9⟩ := mh_sqc tlM nbM a₀
    obtain ⟨x1₀, x2₀⟩ := mh_eq_cells E1₀ tlM.2.1 i1₀
    have y₀ := hX i₀ (by rw [v3]; exact hi)
    rw [mh_eq_in E1₀ (fun k₀ => mm_f_gi FR (g₀ + 259) k₀ (by omega)) tlM.2.1 i1₀, x1₀, x2₀, ← ec9] at y₀
    exact y₀
  have VP : mh_V P t₀ := mh_V_of tlP (fun p₀ q₀ a₀ => by rw [s0₀, s1₀] at a₀; rw [ec, (hC p₀ q₀ a₀).1]; have := mh_V_sq V9 tlM nbM a₀; split <;> omega) (fun k₀ k0₀ k1₀ => by
    rw [s1₀] at k1₀
    rw [hO2]; exact V9.2.1 _ (by omega)) (fun k₀ k0₀ k1₀ => by
    rw [s0₀] at k1₀
    rw [hO1]; exact V9.2.2 _ (by omega))
  have eRT : ∀ Y, (∀ k₀, gi Y m₀ k₀ = gi M m₀ k₀) → (∀ k₀, gi Y (m₀ + 1) k₀ = gi M (m₀ + 1) k₀) → mm_RT Y m₀ tp lf₀ hg wd := fun Y y0 y1 => by
    intro k₀ k0₀ k1₀
    rw [y0] at k1₀
    exact mm_rect_f (y0 1) (y0 2) y1 (rt k₀ k0₀ k1₀)
  refine ⟨far₀, fun o => ?_⟩
  have e0₀ : ∀ k₀, gi (sl P o 0 z9) m₀ k₀ = gi M m₀ k₀ := fun k₀ => cm m₀ k₀ (by omega) (by omega)
  have e1₀ : ∀ k₀, gi (sl P o 0 z9) (m₀ + 1) k₀ = gi M (m₀ + 1) k₀ := fun k₀ => cm (m₀ + 1) k₀ (by omega) (by omega)
  have e2₀ : ∀ k₀, gi (sl P o 0 z9) (m₀ + 2) k₀ = gi M (m₀ + 2) k₀ := fun k₀ => cm (m₀ + 2) k₀ (by omega) (by omega)
  have e3₀ : ∀ k₀, gi (sl P o 0 z9) (m₀ + 3) k₀ = gi M (m₀ + 3) k₀ := fun k₀ => cm (m₀ + 3) k₀ (by omega) (by omega)
  have e4₀ : ∀ k₀, gi (sl P o 0 z9) (m₀ + 4) k₀ = gi M (m₀ + 4) k₀ := fun k₀ => cm (m₀ + 4) k₀ (by omega) (by omega)
  have e5₀ : ∀ k₀, gi (sl P o 0 z9) (m₀ + 5) k₀ = gi M (m₀ + 5) k₀ := fun k₀ => cm (m₀ + 5) k₀ (by omega) (by omega)
  have eF : mi (sl P o 0 z9) (m₀ + 1) = mi M (m₀ + 1) := by funext p₀ q₀; exact e1₀ _
  have R := @cX6_clear0 D l hl (sl P o 0 z9) m₀ tp lf₀ hg wd stP (by unfold mm_rc; rw [e0₀, e0₀]; omega) (by rw [e0₀]; exact h4) (by unfold mm_si; simp only [e0₀]; exact si9) (eRT _ e0₀ e1₀) (by simp only [mm_ch, e0₀, e2₀]; rw [← sm₀.2.2] at hb9; exact hb9)
  simp only [mm_ch, e0₀, e2₀] at R
  refine mg_MtN R ?_
  rintro w₀ Q₀ ⟨e₀, P2₀, kk, fQ2, hQ⟩
  have f2₀ : mm_f (fun a₀ k₀ => (m₀ + 2 ≤ a₀ ∧ a₀ ≤ m₀ + 5) ∨ (a₀ = m₀ ∧ k₀ = 3)) P2₀ Q₀ := mm_f_mono fQ2 (fun a₀ k₀ w₀ => by omega)
  obtain ⟨kt, k0', fQ, eP, e3m⟩ := mh_kk_q kk f2₀
  have QS₀ : ∀ a₀ k₀, a₀ ≠ m₀ + 2 → gi Q₀ a₀ k₀ = gi P2₀ a₀ k₀ := fun a₀ k₀ w₀ => mm_f_gi fQ2 a₀ k₀ w₀
  refine ⟨?_, mh_UPK I₀ r9 sf (by omega) VP fQ (fun a₀ k₀ w₀ => w₀) k0' ?_ kt (fun p₀ q₀ a₀ => ?_) (fun k₀ k0₀ k1₀ => ?_) (fun k₀ k0₀ k1₀ => ?_)⟩
  · rw [e₀, hz]
    congr 2
    exact sm₀.2.2
  · rw [QS₀ m₀ 3 (by omega), e3m, h2P, ← zf.2.2]; exact e0₀ 3
  · have y' : gi M (m₀ + 2) (mi M (m₀ + 1) p₀ q₀).toNat = gi M (mh_co M t₀ p₀ q₀) 4 ∧ gi M (m₀ + 3) (mi M (m₀ + 1) p₀ q₀).toNat = gi M (mh_co M t₀ p₀ q₀) 5 := q3₀ p₀ q₀ a₀
    have x1₀ := q1₀ p₀ q₀ a₀
    have x2₀ := I₀.2.2.2.2.2.1.2.1 p₀ q₀ (by omega)
    have cp₀ := ch₀ p₀ q₀ a₀
    have hq := hQ (mi M (m₀ + 1) p₀ q₀).toNat
    rw [Int.toNat_of_nonneg x1₀.1] at hq
    have hq2 : gi Q₀ (m₀ + 2) (mi M (m₀ + 1) p₀ q₀).toNat = if mh_in M (mh_co M t₀ p₀ q₀) (g₀ + 259) = true then 0 else gi M (m₀ + 2) (mi M (m₀ + 1) p₀ q₀).toNat := by
      rw [hq]
      by_cases y₀ : mh_in M (mh_co M t₀ p₀ q₀) (g₀ + 259) = true
      · rw [if_pos y₀, if_pos ⟨x2₀.2, cp₀.2 y₀⟩]
      · rw [if_neg y₀, if_neg (fun w₀ => y₀ (cp₀.1 w₀.2))]
    rw [hq2, QS₀ (m₀ + 3) _ (by omega), eP (m₀ + 3) (by omega) (by omega), e3₀, (hC p₀ q₀ a₀).1, (hC p₀ q₀ a₀).2, y'.1]; exact ⟨rfl, y'.2⟩
  · rw [QS₀ _ _ (by omega), eP _ (by omega) (by omega), e4₀, hO2]; exact q4₀ k₀ k0₀ k1₀
  · rw [QS₀ _ _ (by omega), eP _ (by omega) (by omega), e5₀, hO1]; exact q5₀ k₀ k0₀ k1₀
