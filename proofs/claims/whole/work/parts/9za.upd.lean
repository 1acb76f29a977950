/-! the invariant behind₀ a₀ change -/
def mh_chg (N Q₀ : mg_M) (g₀ m₀ t₀ : Nat) : Prop := (∀ a₀, kd Q₀ a₀ = kd N a₀) ∧ (∀ a₀, ln Q₀ a₀ = ln N a₀) ∧ (∀ a₀ k₀, a₀ = t₀ + 3 + 1 ∨ gr Q₀ a₀ k₀ = gr N a₀ k₀) ∧ ∀ a₀ k₀, ((t₀ ≤ a₀ ∧ a₀ < t₀ + 129) ∨ a₀ = g₀ + 259 ∨ a₀ = g₀ + 260 ∨ (m₀ ≤ a₀ ∧ a₀ < m₀ + 18)) ∨ gi Q₀ a₀ k₀ = gi N a₀ k₀
theorem mh_chg_tr {N P Q₀ : mg_M} {g₀ m₀ t₀ : Nat} (h₀ : mh_chg N P g₀ m₀ t₀) (k₀ : mh_chg P Q₀ g₀ m₀ t₀) : mh_chg N Q₀ g₀ m₀ t₀ := by
  refine ⟨fun a₀ => (k₀.1 a₀).trans (h₀.1 a₀), fun a₀ => (k₀.2.1 a₀).trans (h₀.2.1 a₀), fun a₀ j₀ => ?_, fun a₀ j₀ => ?_⟩
  · rcases h₀.2.2.1 a₀ j₀ with w₀ | w₀
    · exact Or.inl w₀
    · exact (k₀.2.2.1 a₀ j₀).imp id (fun e₀ => e₀.trans w₀)
  · rcases h₀.2.2.2 a₀ j₀ with w₀ | w₀
    · exact Or.inl w₀
    · exact (k₀.2.2.2 a₀ j₀).imp id (fun e₀ => e₀.trans w₀)
theorem mh_chg_fw {N P : mg_M} {g₀ m₀ t₀ : Nat} (f₀ : mh_fw N P t₀) : mh_chg N P g₀ m₀ t₀ := ⟨f₀.1, f₀.2.1, f₀.2.2.1, fun a₀ k₀ => (f₀.2.2.2.2.2.2 a₀ k₀).imp Or.inl id⟩
theorem mh_chg_fx {N P : mg_M} {g₀ m₀ t₀ x₀ : Nat} (f₀ : mh_fx x₀ N P) (h₀ : (t₀ ≤ x₀ ∧ x₀ < t₀ + 129) ∨ x₀ = g₀ + 259 ∨ x₀ = g₀ + 260) : mh_chg N P g₀ m₀ t₀ := ⟨f₀.1, f₀.2.1, fun a₀ k₀ => Or.inr (f₀.2.2.1 a₀ k₀), fun a₀ k₀ => by
  by_cases c₀ : a₀ = x₀
  · exact Or.inl (by omega)
  · exact Or.inr (f₀.2.2.2.2.2.2 a₀ k₀ c₀)⟩
theorem mh_chg_f {S : Nat → Nat → Prop} {N P : mg_M} {g₀ m₀ t₀ : Nat} (f₀ : mm_f S N P) (h₀ : ∀ a₀ k₀, S a₀ k₀ → (t₀ ≤ a₀ ∧ a₀ < t₀ + 129) ∨ (m₀ ≤ a₀ ∧ a₀ < m₀ + 18)) : mh_chg N P g₀ m₀ t₀ := ⟨f₀.1, f₀.2.1, fun a₀ k₀ => Or.inr (f₀.2.2.1 a₀ k₀), fun a₀ k₀ => (f₀.2.2.2.2.2.2 a₀ k₀).imp (fun s₀ => by have := h₀ a₀ k₀ s₀; omega) id⟩
theorem mh_chg_sl {N : mg_M} {g₀ m₀ t₀ o : Nat} {z₀ : Int} : mh_chg N (sl N o 0 z₀) g₀ m₀ t₀ := ⟨fun _ => rfl, fun _ => rfl, fun _ _ => Or.inr rfl, fun _ _ => Or.inr rfl⟩
theorem mh_chg_rfl {N : mg_M} {g₀ m₀ t₀ : Nat} : mh_chg N N g₀ m₀ t₀ := ⟨fun _ => rfl, fun _ => rfl, fun _ _ => Or.inr rfl, fun _ _ => Or.inr rfl⟩
/-- the old₀ table₀ -/
theorem mh_old_of {M N Q₀ : mg_M} {g₀ m₀ t₀ u₀ : Nat} (I₀ : mh_INV M g₀ m₀ t₀ u₀) (r₀ : mh_rmb M N g₀ t₀ u₀) (c₀ : mh_chg N Q₀ g₀ m₀ t₀) (kt : mm_kt M Q₀ m₀) : mh_old Q₀ m₀ u₀ := by
  obtain ⟨K9, V9, ⟨st₀, pm⟩, ⟨z1, z2, z3⟩, sq, md, sl9, _, bk⟩ := I₀
  obtain ⟨⟨G, g1, g3₀, g4, g5₀⟩, ⟨ka, kb, kk, kg, ck⟩, pl, ⟨tl, nb⟩, ⟨tbu, clu⟩, rb⟩ := K9
  obtain ⟨P0₀, cp₀, rfl⟩ := r₀
  have bb := tl.1.2.2
  have cl₀ := tl.2.1
  have z₀ := cl₀.2.2.2.2.2.2.1
  obtain ⟨⟨tlu, nbu⟩, atc⟩ := mh_cp_tl cp₀ tbu clu tl nb
  have eu : mh_eq P0₀ Q₀ u₀ := fun a₀ h1 h2 => ⟨c₀.1 a₀, c₀.2.1 a₀, fun k₀ => (c₀.2.2.1 a₀ k₀).resolve_left (by omega), fun k₀ => ((c₀.2.2.2 a₀ k₀).resolve_left (by omega)).trans (by rw [gi_si, if_neg (by omega)])⟩
  obtain ⟨f₀, ⟨s0₀, s1₀, s2₀⟩, h1, h2, h3, h4, h5⟩ := cp₀
  have w0₀ := (eu u₀ (by omega) (by omega)).2.2.2
  have w1₀ := (eu (u₀ + 1) (by omega) (by omega)).2.2.2
  have w2₀ := (eu (u₀ + 2) (by omega) (by omega)).2.2.2
  have w3₀ := (eu (u₀ + 3) (by omega) (by omega)).2.2.2
  obtain ⟨⟨k10, k11, k12, k13⟩, a6, a7, a9, a10⟩ := kt
  obtain ⟨q1₀, q2₀, q3₀, q4₀, q5₀⟩ := sq
  have ei : ∀ p₀ q₀, mh_rg (gi M t₀ 0) (gi M t₀ 1) p₀ q₀ → mi Q₀ (m₀ + 6) p₀ q₀ = mi M (m₀ + 1) p₀ q₀ := fun p₀ q₀ h₀ => a6 _ (by omega)
  have ea : ∀ p₀ q₀, mh_rg (gi M t₀ 0) (gi M t₀ 1) p₀ q₀ → mh_at Q₀ u₀ p₀ q₀ = mh_at M t₀ p₀ q₀ := fun p₀ q₀ h₀ => by rw [mh_eq_at eu]; exact (atc p₀ q₀ h₀).1
  have ec : ∀ p₀ q₀, mh_rg (gi M t₀ 0) (gi M t₀ 1) p₀ q₀ → ∀ j₀ : Nat, j₀ < 6 → gi Q₀ (mh_co Q₀ u₀ p₀ q₀) j₀ = gi M (mh_co M t₀ p₀ q₀) j₀ := fun p₀ q₀ h₀ j₀ hj => by
    rw [mh_eq_ct eu tlu nbu (by rw [s0₀, s1₀]; exact h₀)]
    exact (atc p₀ q₀ h₀).2 j₀ hj
  refine ⟨mh_eq_tl eu tlu nbu, by rw [k11, k12, k13, w0₀, w0₀, w0₀, s0₀, s1₀, s2₀]; exact ⟨z1, z2, z3⟩, by rw [w0₀, w0₀, w0₀, s0₀, s1₀, s2₀]; exact ⟨rb.1, rb.2.1⟩, ?_, ?_⟩
  · unfold mh_SQ
    rw [w0₀, w0₀, s0₀, s1₀]
    refine ⟨fun p₀ q₀ h₀ => by rw [ei p₀ q₀ h₀]; exact q1₀ p₀ q₀ h₀, fun p₀ q₀ p' q' h₀ h' => by rw [ei p₀ q₀ h₀, ei p' q' h', ea p₀ q₀ h₀, ea p' q' h']; exact q2₀ p₀ q₀ p' q' h₀ h', fun p₀ q₀ h₀ => ?_, fun k₀ k0₀ k1₀ => ?_, fun k₀ k0₀ k1₀ => ?_⟩
    · have w₀ := q1₀ p₀ q₀ h₀
      rw [ei p₀ q₀ h₀, ec p₀ q₀ h₀ 4 (by omega), ec p₀ q₀ h₀ 5 (by omega)]
      have x₀ := a7 (mi M (m₀ + 1) p₀ q₀).toNat (by omega)
      have y₀ := q3₀ p₀ q₀ h₀
      exact ⟨x₀.1.trans y₀.1, x₀.2.trans y₀.2⟩
    · exact ((a9 k₀.toNat (by omega)).trans (q4₀ k₀ k0₀ k1₀)).trans ((w2₀ _).trans (h2 _ (by omega))).symm
    · exact ((a10 k₀.toNat (by omega)).trans (q5₀ k₀ k0₀ k1₀)).trans ((w1₀ _).trans (h1 _ (by omega))).symm
  · refine mh_V_eq eu tlu.2.1 ⟨fun i₀ hi => ?_, fun k₀ hk => ?_, fun k₀ hk => ?_⟩
    · rw [f₀.2.2.1, h5 i₀ (by omega) 4 (by omega)]
      exact V9.1 i₀ (by omega)
    · rw [h2 k₀ (by omega)]
      exact V9.2.1 k₀ (by omega)
    · rw [h1 k₀ (by omega)]
      exact V9.2.2 k₀ (by omega)
/-- the block₀ and its copy₀ -/
theorem mh_bkt_of {M Q₀ : mg_M} {g₀ m₀ : Nat} (h₀ : mh_bkt M g₀ m₀) (e₀ : ∀ a₀, g₀ + 261 ≤ a₀ → a₀ < g₀ + 385 → kd Q₀ a₀ = kd M a₀ ∧ ln Q₀ a₀ = ln M a₀ ∧ (∀ k₀, gr Q₀ a₀ k₀ = gr M a₀ k₀) ∧ ∀ k₀, gi Q₀ a₀ k₀ = gi M a₀ k₀) (c25₀ : gi Q₀ m₀ 25 = gi M m₀ 25) (c26 : gi Q₀ m₀ 26 = gi M m₀ 26) (c27₀ : gi Q₀ m₀ 27 = gi M m₀ 27) (c13₀ : ∀ k₀, gi Q₀ (m₀ + 13) k₀ = gi M (m₀ + 13) k₀) (c14₀ : ∀ k₀, gi Q₀ (m₀ + 14) k₀ = gi M (m₀ + 14) k₀) (c15₀ : ∀ k₀, gi Q₀ (m₀ + 15) k₀ = gi M (m₀ + 15) k₀) : mh_bkt Q₀ g₀ m₀ := by
  have b13 : mi Q₀ (m₀ + 13) = mi M (m₀ + 13) := by funext p₀ q₀; exact c13₀ _
  have vk := (e₀ (g₀ + 261) (by omega) (by omega)).2.2.2
  have vl := (e₀ (g₀ + 261 + 1) (by omega) (by omega)).2.2.2
  unfold mh_bkt at *
  rw [vk, vk, c25₀, c26, c27₀, vl, b13]
  refine h₀.imp id ?_
  rintro ⟨x1₀, x2₀, x3, x4₀, x5₀, x6⟩
  obtain ⟨y1, y2, y3, y4⟩ := mh_bl_lo x3 (fun a₀ h1 h2 => e₀ a₀ (by omega) (by omega))
  refine ⟨x1₀, x2₀, y1, x4₀, fun p₀ q₀ p' q' h1 h2 => ?_, fun i₀ hi p₀ q₀ w₀ => ?_⟩
  · rw [x5₀ p₀ q₀ p' q' h1 h2]
    constructor
    · rintro ⟨i₀, hi, w1₀, w2₀⟩
      exact ⟨i₀, hi, (y4 i₀ hi p₀ q₀).2 w1₀, (y4 i₀ hi p' q').2 w2₀⟩
    · rintro ⟨i₀, hi, w1₀, w2₀⟩
      exact ⟨i₀, hi, (y4 i₀ hi p₀ q₀).1 w1₀, (y4 i₀ hi p' q').1 w2₀⟩
  · obtain ⟨d1₀, d2₀⟩ := y3 i₀ hi
    rw [d1₀]
    simp only [d2₀, c14₀, c15₀]
    exact x6 i₀ hi p₀ q₀ ((y4 i₀ hi p₀ q₀).1 w₀)
/-- the class's object behind₀ remember and a₀ change of its table₀ -/
theorem mh_K_of {M N Q₀ : mg_M} {g₀ m₀ t₀ u₀ : Nat} (I₀ : mh_INV M g₀ m₀ t₀ u₀) (r₀ : mh_rmb M N g₀ t₀ u₀) (c₀ : mh_chg N Q₀ g₀ m₀ t₀) (tl : mh_tl Q₀ t₀) (nb : mh_nb Q₀ t₀) (hb₀ : (1 ≤ gi Q₀ t₀ 0 ∧ 1 ≤ gi Q₀ t₀ 1) ∧ (0 ≤ gi Q₀ t₀ 2 ∧ gi Q₀ t₀ 2 ≤ gi Q₀ t₀ 0)) (ar : mh_ar Q₀ t₀ (g₀ + 259)) : mh_K Q₀ g₀ t₀ u₀ ∧ gi Q₀ g₀ 2 = 1 ∧ ∀ a₀, g₀ + 261 ≤ a₀ → a₀ < g₀ + 385 → kd Q₀ a₀ = kd M a₀ ∧ ln Q₀ a₀ = ln M a₀ ∧ (∀ k₀, gr Q₀ a₀ k₀ = gr M a₀ k₀) ∧ ∀ k₀, gi Q₀ a₀ k₀ = gi M a₀ k₀ := by
  have pm := I₀.2.2.1.2
  obtain ⟨K1, E1₀, FR, h21⟩ := mh_rmb_K I₀.1 r₀
  have pl := I₀.1.2.2.1
  have F1₀ := mh_gF_of K1
  have FQ := mh_gF_fr F1₀ c₀.1 c₀.2.1 c₀.2.2.1
  have eu : mh_eq N Q₀ u₀ := fun a₀ h1 h2 => ⟨c₀.1 a₀, c₀.2.1 a₀, fun k₀ => (c₀.2.2.1 a₀ k₀).resolve_left (by omega), fun k₀ => (c₀.2.2.2 a₀ k₀).resolve_left (by omega)⟩
  have A₀ : ∀ a₀, g₀ + 261 ≤ a₀ → a₀ < g₀ + 385 → kd Q₀ a₀ = kd M a₀ ∧ ln Q₀ a₀ = ln M a₀ ∧ (∀ k₀, gr Q₀ a₀ k₀ = gr M a₀ k₀) ∧ ∀ k₀, gi Q₀ a₀ k₀ = gi M a₀ k₀ := fun a₀ h1 h2 => ⟨(c₀.1 a₀).trans (FR.1 a₀), (c₀.2.1 a₀).trans (FR.2.1 a₀), fun k₀ => ((c₀.2.2.1 a₀ k₀).resolve_left (by omega)).trans (FR.2.2.1 a₀ k₀), fun k₀ => ((c₀.2.2.2 a₀ k₀).resolve_left (by omega)).trans (mm_f_gi FR a₀ k₀ (by omega))⟩
  refine ⟨⟨⟨mh_gF_G0 FQ, FQ.1.2.2.1, FQ.1.2.2.2.1, FQ.1.2.2.2.2.1, FQ.1.2.2.2.2.2⟩, ⟨FQ.2.2.2.1.1, FQ.2.2.2.1.2.1, FQ.2.2.2.1.2.2.1, FQ.2.2.2.1.2.2.2.1, mh_cL_lo I₀.1.2.1.2.2.2.2 (fun a₀ h1 h2 => A₀ a₀ (by omega) (by omega))⟩, pl, ⟨tl, nb⟩, ⟨mh_eq_tb eu K1.2.2.2.2.1.1, mh_eq_cL eu K1.2.2.2.2.1.2⟩, hb₀.1, hb₀.2, ar⟩, ((c₀.2.2.2 g₀ 2).resolve_left (by omega)).trans h21, A₀⟩
theorem mh_st_g {M Q₀ : mg_M} {m₀ : Nat} (h₀ : mm_st M m₀) (k₀ : ∀ a₀, kd Q₀ a₀ = kd M a₀) (n₀ : ∀ a₀, ln Q₀ a₀ = ln M a₀) (r₀ : ∀ j₀, gr Q₀ m₀ j₀ = gr M m₀ j₀) : mm_st Q₀ m₀ := by
  unfold mm_st mm_ar at *
  simp only [k₀, n₀, r₀]
  exact h₀
/-- values₀ by squares are values₀ by cells₀ -/
theorem mh_V_of {M : mg_M} {t₀ : Nat} (tl : mh_tl M t₀) (h₀ : ∀ p₀ q₀, mh_rg (gi M t₀ 0) (gi M t₀ 1) p₀ q₀ → 0 ≤ gi M (mh_co M t₀ p₀ q₀) 4 ∧ gi M (mh_co M t₀ p₀ q₀) 4 ≤ 999) (hw : ∀ k₀, 0 ≤ k₀ → k₀ < gi M t₀ 1 → 10 ≤ gi M (t₀ + 2) k₀.toNat ∧ gi M (t₀ + 2) k₀.toNat ≤ 200) (hh : ∀ k₀, 0 ≤ k₀ → k₀ < gi M t₀ 0 → 5 ≤ gi M (t₀ + 1) k₀.toNat ∧ gi M (t₀ + 1) k₀.toNat ≤ 100) : mh_V M t₀ := by
  refine ⟨fun i₀ hi => ?_, fun k₀ hk => ?_, fun k₀ hk => ?_⟩
  · have o := tl.2.2.1 i₀ hi
    have v₀ := mh_ok_cv o
    unfold mh_ok at o
    have r₀ : mh_rg (gi M t₀ 0) (gi M t₀ 1) (gi M (gr M (t₀ + 3 + 1) i₀) 0) (gi M (gr M (t₀ + 3 + 1) i₀) 1) := by omega
    have := h₀ _ _ r₀
    rw [mh_co_at r₀ (tl.2.2.2.1 i₀ hi _ _ v₀)] at this
    exact this
  · have := hw k₀ (by omega) hk
    rw [Int.toNat_natCast] at this
    exact this
  · have := hh k₀ (by omega) hk
    rw [Int.toNat_natCast] at this
    exact this
/-- the invariant behind₀ a₀ change told₀ by J₀, the class's half₀ given in Q's predecessor P -/
theorem mh_UPD {M N P Q₀ : mg_M} {g₀ m₀ t₀ u₀ o : Nat} {z₀ R C hd₀ : Int} {J₀ : Int → Int → Int} {cn sy wd ht : Int → Int} (I₀ : mh_INV M g₀ m₀ t₀ u₀) (r₀ : mh_rmb M N g₀ t₀ u₀) (c₀ : mh_chg N P g₀ m₀ t₀) (cm : ∀ a₀ k₀, m₀ ≤ a₀ → a₀ < m₀ + 18 → gi P a₀ k₀ = gi M a₀ k₀) (tl : mh_tl P t₀) (nb : mh_nb P t₀) (hR : gi P t₀ 0 = R ∧ gi P t₀ 1 = C ∧ gi P t₀ 2 = hd₀) (hb₀ : (1 ≤ R ∧ 1 ≤ C) ∧ (0 ≤ hd₀ ∧ hd₀ ≤ R)) (hJ : ∀ p₀ q₀ p' q', mh_rg R C p₀ q₀ → mh_rg R C p' q' → (mh_at P t₀ p₀ q₀ = mh_at P t₀ p' q' ↔ J₀ p₀ q₀ = J₀ p' q')) (hc₀ : ∀ p₀ q₀, mh_rg R C p₀ q₀ → (gi P (mh_co P t₀ p₀ q₀) 4 = cn (J₀ p₀ q₀) ∧ gi P (mh_co P t₀ p₀ q₀) 5 = sy (J₀ p₀ q₀)) ∧ 0 ≤ cn (J₀ p₀ q₀) ∧ cn (J₀ p₀ q₀) ≤ 999) (hw : ∀ k₀, 0 ≤ k₀ → k₀ < C → gi P (t₀ + 2) k₀.toNat = wd k₀ ∧ 10 ≤ wd k₀ ∧ wd k₀ ≤ 200) (hh : ∀ k₀, 0 ≤ k₀ → k₀ < R → gi P (t₀ + 1) k₀.toNat = ht k₀ ∧ 5 ≤ ht k₀ ∧ ht k₀ ≤ 100) (ar : mh_ar P t₀ (g₀ + 259)) (cc : mh_cc P t₀ (gi P (g₀ + 259) 0) (gi P (g₀ + 259) 2) (gi P (g₀ + 259) 1) (gi P (g₀ + 259) 3)) (nw : mm_nw (sl P o 0 z₀) Q₀ m₀ R C hd₀ J₀ cn sy wd ht) (se : gi Q₀ m₀ 21 = gi P (g₀ + 259) 0 ∧ gi Q₀ m₀ 22 = gi P (g₀ + 259) 2 ∧ gi Q₀ m₀ 23 = gi P (g₀ + 259) 1 ∧ gi Q₀ m₀ 24 = gi P (g₀ + 259) 3) : gi Q₀ m₀ 0 = 0 ∧ mh_far (sl P o 0 z₀) Q₀ g₀ ∧ ∃ t₀ u₀, mh_INV Q₀ g₀ m₀ t₀ u₀ := by
  obtain ⟨f₀, ⟨n0₀, n1₀, n2₀, n3₀⟩, kt, n4₀, n5₀, n6₀, n7, n8, n9, n10⟩ := nw
  have pm := I₀.2.2.1.2
  have pl := I₀.1.2.2.1
  have bb := tl.1.2.2
  have bI := I₀.1.2.2.2.1.1.1.2.2
  have f1₀ : ∀ a₀, kd Q₀ a₀ = kd P a₀ := f₀.1
  have f2₀ : ∀ a₀, ln Q₀ a₀ = ln P a₀ := f₀.2.1
  have f3₀ : ∀ a₀ k₀, gr Q₀ a₀ k₀ = gr P a₀ k₀ := f₀.2.2.1
  have f4₀ : ∀ a₀ k₀, (a₀ < m₀ ∨ m₀ + 18 ≤ a₀) → gi Q₀ a₀ k₀ = gi P a₀ k₀ := fun a₀ k₀ h₀ => (f₀.2.2.2.2.2.2 a₀ k₀).resolve_left (by omega)
  have e₀ : mh_eq P Q₀ t₀ := fun a₀ h1 h2 => ⟨f1₀ a₀, f2₀ a₀, f3₀ a₀, fun k₀ => f4₀ a₀ k₀ (by omega)⟩
  have cQ : mh_chg N Q₀ g₀ m₀ t₀ := mh_chg_tr c₀ ⟨f1₀, f2₀, fun a₀ k₀ => Or.inr (f3₀ a₀ k₀), fun a₀ k₀ => by
    by_cases w₀ : m₀ ≤ a₀ ∧ a₀ < m₀ + 18
    · exact Or.inl (by omega)
    · exact Or.inr (f4₀ a₀ k₀ (by omega))⟩
  have ktM : mm_kt M Q₀ m₀ := by
    obtain ⟨⟨k10, k11, k12, k13⟩, a6, a7, a9, a10⟩ := kt
    exact ⟨⟨k10, k11.trans (cm m₀ 1 (by omega) (by omega)), k12.trans (cm m₀ 2 (by omega) (by omega)), k13.trans (cm m₀ 3 (by omega) (by omega))⟩, fun k₀ hk => (a6 k₀ hk).trans (cm (m₀ + 1) k₀ (by omega) (by omega)), fun k₀ hk => ⟨(a7 k₀ hk).1.trans (cm (m₀ + 2) k₀ (by omega) (by omega)), (a7 k₀ hk).2.trans (cm (m₀ + 3) k₀ (by omega) (by omega))⟩, fun k₀ hk => (a9 k₀ hk).trans (cm (m₀ + 4) k₀ (by omega) (by omega)), fun k₀ hk => (a10 k₀ hk).trans (cm (m₀ + 5) k₀ (by omega) (by omega))⟩
  have tlQ := mh_eq_tl e₀ tl nb
  have v0₀ := (e₀ t₀ (by omega) (by omega)).2.2.2
  have v1₀ := (e₀ (t₀ + 1) (by omega) (by omega)).2.2.2
  have v2 := (e₀ (t₀ + 2) (by omega) (by omega)).2.2.2
  have v9 : ∀ k₀, gi Q₀ (g₀ + 259) k₀ = gi P (g₀ + 259) k₀ := fun k₀ => f4₀ _ k₀ (by omega)
  have arQ : mh_ar Q₀ t₀ (g₀ + 259) := by
    unfold mh_ar at *
    rw [v0₀, v0₀, v9, v9, v9, v9]
    exact ar
  obtain ⟨KQ, gq, AQ⟩ := mh_K_of I₀ r₀ cQ tlQ.1 tlQ.2 (by rw [v0₀, v0₀, v0₀, hR.1, hR.2.1, hR.2.2]; exact hb₀) arQ
  refine ⟨n0₀, mh_far_f f₀ (fun a₀ k₀ w₀ => by omega), t₀, u₀, KQ, mh_V_of tlQ.1 (fun p₀ q₀ h₀ => ?_) (fun k₀ k0₀ k1₀ => ?_) (fun k₀ k0₀ k1₀ => ?_), ⟨mh_st_g I₀.2.2.1.1 (fun a₀ => (cQ.1 a₀).trans ((mh_rmb_K I₀.1 r₀).2.2.1.1 a₀)) (fun a₀ => (cQ.2.1 a₀).trans ((mh_rmb_K I₀.1 r₀).2.2.1.2.1 a₀)) (fun k₀ => ((cQ.2.2.1 m₀ k₀).resolve_left (by omega)).trans ((mh_rmb_K I₀.1 r₀).2.2.1.2.2.1 m₀ k₀)), pm⟩, by rw [n1₀, n2₀, n3₀, v0₀, v0₀, v0₀]; exact ⟨hR.1.symm, hR.2.1.symm, hR.2.2.symm⟩, ⟨fun p₀ q₀ h₀ => ?_, fun p₀ q₀ p' q' h₀ h' => ?_, fun p₀ q₀ h₀ => ?_, fun k₀ k0₀ k1₀ => ?_, fun k₀ k0₀ k1₀ => ?_⟩, ⟨n4₀, by rw [n1₀, n2₀]; exact n5₀, by rw [n1₀, n2₀]; exact n6₀⟩, ⟨by rw [v9, v9, v9, v9]; exact se, by rw [mh_cc_eq e₀ tl.2.1, v9, v9, v9, v9]; exact cc⟩, ⟨⟨by rw [ktM.1.1, gq], Or.inr gq⟩, fun _ => mh_old_of I₀ r₀ cQ ktM⟩, mh_bkt_of I₀.2.2.2.2.2.2.2.2 AQ ?_ ?_ ?_ (fun k₀ => ?_) (fun k₀ => ?_) (fun k₀ => ?_)⟩
  · rw [v0₀, v0₀, hR.1, hR.2.1] at h₀
    rw [mh_eq_ct e₀ tl nb (by rw [hR.1, hR.2.1]; exact h₀), (hc₀ p₀ q₀ h₀).1.1]
    exact (hc₀ p₀ q₀ h₀).2
  · rw [v0₀, hR.2.1] at k1₀
    rw [v2, (hw k₀ k0₀ k1₀).1]
    exact (hw k₀ k0₀ k1₀).2
  · rw [v0₀, hR.1] at k1₀
    rw [v1₀, (hh k₀ k0₀ k1₀).1]
    exact (hh k₀ k0₀ k1₀).2
  · rw [v0₀, v0₀, hR.1, hR.2.1] at h₀
    have := n5₀ p₀ q₀ h₀
    omega
  · rw [v0₀, v0₀, hR.1, hR.2.1] at h₀ h'
    rw [n7 p₀ q₀ p' q' h₀ h', mh_eq_at e₀]
    exact (hJ p₀ q₀ p' q' h₀ h').symm
  · rw [v0₀, v0₀, hR.1, hR.2.1] at h₀
    rw [mh_eq_ct e₀ tl nb (by rw [hR.1, hR.2.1]; exact h₀), mh_eq_ct e₀ tl nb (by rw [hR.1, hR.2.1]; exact h₀), (hc₀ p₀ q₀ h₀).1.1, (hc₀ p₀ q₀ h₀).1.2]
    exact n8 p₀ q₀ h₀
  · rw [v0₀, hR.2.1] at k1₀
    rw [v2, (hw k₀ k0₀ k1₀).1]
    exact n9 k₀ k0₀ k1₀
  · rw [v0₀, hR.1] at k1₀
    rw [v1₀, (hh k₀ k0₀ k1₀).1]
    exact n10 k₀ k0₀ k1₀
  · exact ((f₀.2.2.2.2.2.2 m₀ 25).resolve_left (by omega)).trans (cm m₀ 25 (by omega) (by omega))
  · exact ((f₀.2.2.2.2.2.2 m₀ 26).resolve_left (by omega)).trans (cm m₀ 26 (by omega) (by omega))
  · exact ((f₀.2.2.2.2.2.2 m₀ 27).resolve_left (by omega)).trans (cm m₀ 27 (by omega) (by omega))
  · exact ((f₀.2.2.2.2.2.2 (m₀ + 13) k₀).resolve_left (by omega)).trans (cm (m₀ + 13) k₀ (by omega) (by omega))
  · exact ((f₀.2.2.2.2.2.2 (m₀ + 14) k₀).resolve_left (by omega)).trans (cm (m₀ + 14) k₀ (by omega) (by omega))
  · exact ((f₀.2.2.2.2.2.2 (m₀ + 15) k₀).resolve_left (by omega)).trans (cm (m₀ + 15) k₀ (by omega) (by omega))
