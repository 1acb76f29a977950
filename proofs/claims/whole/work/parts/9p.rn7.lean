theorem cX4_settleJ7 {D : mg_D} {l : Launch} (hl : l.stackTraces = false) {M Z₀ : mg_M} {t₀ n0₀ : Nat} {R C hd₀ : Int} {J₀ : Int → Int → Int} {wd ht : Int → Int} (f₀ : mm_f (fun a₀ _ => t₀ ≤ a₀ ∧ a₀ < t₀ + 129) M Z₀) (tb₀ : mg_tb Z₀ t₀) (cl₀ : mg_cL M (t₀ + 3)) (hn : gi Z₀ (t₀ + 3) 0 = n0₀) (hR : gi Z₀ t₀ 0 = R ∧ gi Z₀ t₀ 1 = C ∧ gi Z₀ t₀ 2 = hd₀) (hb₀ : R ≤ 12 ∧ C ≤ 10) (hcs : ∀ i₀ : Nat, i₀ < n0₀ → gi Z₀ (gr M (t₀ + 3 + 1) i₀) 4 = gi M (gr M (t₀ + 3 + 1) i₀) 4 ∧ gi Z₀ (gr M (t₀ + 3 + 1) i₀) 5 = gi M (gr M (t₀ + 3 + 1) i₀) 5) (hok : ∀ i₀ : Nat, i₀ < n0₀ → mh_ok Z₀ t₀ i₀) (hdj : mh_dj Z₀ t₀) (hn0 : n0₀ ≤ 120) (hJ : ∀ p₀ q₀, mh_rg R C p₀ q₀ → (∃ i₀ : Nat, i₀ < n0₀ ∧ mh_cv Z₀ t₀ i₀ p₀ q₀ ∧ J₀ p₀ q₀ = i₀) ∨ ((∀ i₀ : Nat, i₀ < n0₀ → ¬ mh_cv Z₀ t₀ i₀ p₀ q₀) ∧ 120 ≤ J₀ p₀ q₀)) (hf : ∀ p₀ q₀ p' q', mh_rg R C p₀ q₀ → mh_rg R C p' q' → 120 ≤ J₀ p₀ q₀ → J₀ p₀ q₀ = J₀ p' q' → p₀ = p' ∧ q₀ = q') (hw : ∀ k₀, 0 ≤ k₀ → k₀ < C → gi Z₀ (t₀ + 2) k₀.toNat = wd k₀) (hh : ∀ k₀, 0 ≤ k₀ → k₀ < R → gi Z₀ (t₀ + 1) k₀.toNat = ht k₀) : mg_Mt D l 46 [.inr (.inl t₀)] Z₀ (fun v₀ N => v₀ = none ∧ mh_nw M N t₀ R C hd₀ J₀ (mh_cn M t₀ 4) (mh_cn M t₀ 5) wd ht ∧ ∀ k₀, gi N (t₀ + 127) k₀ = gi Z₀ (t₀ + 127) k₀) mg_no := by
  have e4₀ := f₀.2.2.1
  have clZ : mg_cL Z₀ (t₀ + 3) := by
    refine mh_fr_cL (h4 := rfl) (M := (Z₀.1, Z₀.2.1, M.2.2.1, Z₀.2.2.2)) ?_ (fun _ => rfl) (fun _ => rfl) (fun a₀ k₀ => e4₀ a₀ k₀)
    have z1 := f₀.1
    have z2 := f₀.2.1
    unfold mg_cL at *
    obtain ⟨c1₀, c2₀, c3₀, c4₀, c5₀, c6₀, c7₀, c8₀, c9₀⟩ := cl₀
    exact ⟨(z1 _).trans c1₀, c2₀, c3₀, (z1 _).trans c4₀, (z2 _).trans c5₀, (z1 _).trans c6₀, by show 0 ≤ gi Z₀ (t₀ + 3) 0 ∧ gi Z₀ (t₀ + 3) 0 ≤ 120; omega, fun i₀ hi => ⟨(z1 _).trans (c8₀ i₀ hi).1, (c8₀ i₀ hi).2⟩, c9₀⟩
  refine mg_MtN (cX4_settle hl tb₀ clZ hn (fun i₀ hi => hok i₀ (by omega)) hdj) ?_
  rintro v₀ N ⟨q₀, s₀, tl, nb⟩
  have s2₀ := s₀
  obtain ⟨⟨g1, g2, g3₀, g4, g5₀, g6⟩, g7, g8, g9⟩ := s₀
  have fr₀ : ∀ a₀ k₀, a₀ ≠ t₀ + 126 → (a₀ < t₀ + 6 ∨ t₀ + 126 ≤ a₀) → ¬ (a₀ = t₀ + 3 ∧ k₀ = 0) → gi N a₀ k₀ = gi Z₀ a₀ k₀ := by
    intro a₀ k₀ h1 h2 h3
    refine g7 a₀ k₀ h1 h3 (fun i₀ hi hi2 z₀ => ?_)
    have := clZ.2.2.2.2.2.2.2.1 i₀ hi2
    omega
  have r0 : gi N t₀ 0 = R := (fr₀ t₀ 0 (by omega) (by omega) (by omega)).trans hR.1
  have r1₀ : gi N t₀ 1 = C := (fr₀ t₀ 1 (by omega) (by omega) (by omega)).trans hR.2.1
  have r2 : gi N t₀ 2 = hd₀ := (fr₀ t₀ 2 (by omega) (by omega) (by omega)).trans hR.2.2
  have nbN : mh_nb N t₀ := fun p₀ q₀ h1 h2 h3 h4 => nb p₀ q₀ h1 (by omega) h3 (by omega)
  obtain ⟨p1₀, p2₀, p3₀⟩ := mh_sx_part (J₀ := J₀) clZ s2₀ tl nbN hn0 (by rw [r0, r1₀]; exact hJ) (by rw [r0, r1₀]; exact hf)
  rw [r0, r1₀] at p1₀ p2₀ p3₀
  refine ⟨q₀, ⟨mm_f_tr f₀ (mh_sx_f clZ s2₀), ⟨tl, nbN⟩, ⟨r0, r1₀, r2⟩, p1₀, fun p₀ q' h₀ => ?_, fun k₀ k0₀ k1₀ => ?_, fun k₀ k0₀ k1₀ => ?_⟩, fun k₀ => fr₀ (t₀ + 127) k₀ (by omega) (by omega) (by omega)⟩
  · unfold mh_cn
    by_cases c₀ : J₀ p₀ q' < 120
    · rw [if_pos c₀, if_pos c₀, p2₀ p₀ q' h₀ c₀, p2₀ p₀ q' h₀ c₀, e4₀]
      rcases hJ p₀ q' h₀ with ⟨i₀, hi, _, e₀⟩ | ⟨_, e₀⟩
      · rw [e₀, Int.toNat_natCast]
        exact hcs i₀ hi
      · omega
    · rw [if_neg c₀, if_neg c₀]
      obtain ⟨_, _, _, _, w4₀, w5⟩ := p3₀ p₀ q' h₀ (by omega)
      exact ⟨w4₀, w5⟩
  · rw [fr₀ (t₀ + 2) _ (by omega) (by omega) (by omega)]; exact hw k₀ k0₀ k1₀
  · rw [fr₀ (t₀ + 1) _ (by omega) (by omega) (by omega)]; exact hh k₀ k0₀ k1₀
set_option maxRecDepth 100000 in
theorem cX4_renumberRows7 {D : mg_D} {l : Launch} (hl : l.stackTraces = false) {M : mg_M} {t₀ : Nat} {iv₀ : Int → Int} (tl : mh_tl M t₀) (nb : mh_nb M t₀) (hp : ∀ r₀, 0 ≤ r₀ → r₀ < gi M t₀ 0 → (0 ≤ mh_pl M t₀ r₀ ∧ mh_pl M t₀ r₀ < gi M t₀ 0) ∧ iv₀ (mh_pl M t₀ r₀) = r₀) (hv : ∀ r₀, 0 ≤ r₀ → r₀ < gi M t₀ 0 → (0 ≤ iv₀ r₀ ∧ iv₀ r₀ < gi M t₀ 0) ∧ mh_pl M t₀ (iv₀ r₀) = r₀) (hfx : ∀ i₀ : Nat, (i₀ : Int) < gi M (t₀ + 3) 0 → 1 < gi M (gr M (t₀ + 3 + 1) i₀) 2 → ∀ r₀, gi M (gr M (t₀ + 3 + 1) i₀) 0 ≤ r₀ → r₀ < gi M (gr M (t₀ + 3 + 1) i₀) 0 + gi M (gr M (t₀ + 3 + 1) i₀) 2 → mh_pl M t₀ r₀ = r₀) : mg_Mt D l 59 [.inr (.inl t₀)] M (fun v₀ N => v₀ = none ∧ mh_nw M N t₀ (gi M t₀ 0) (gi M t₀ 1) (gi M t₀ 2) (fun p₀ q₀ => mh_at M t₀ (iv₀ p₀) q₀) (mh_cn M t₀ 4) (mh_cn M t₀ 5) (fun k₀ => gi M (t₀ + 2) k₀.toNat) (fun k₀ => gi M (t₀ + 1) (iv₀ k₀).toNat) ∧ ∀ k₀, gi N (t₀ + 127) k₀ = gi M (t₀ + 127) k₀) mg_no := by
  refine mg_of2 hl ok_X4_renumberRows al_X4_renumberRows rfl (fun K hK₀ => ?_)
  have tb₀ := tl.1
  have cl₀ := tl.2.1
  have ok₀ := tl.2.2.1
  have own₀ := tl.2.2.2.1
  have bb := tb₀.2.2
  have z₀ := cl₀.2.2.2.2.2.2.1
  obtain ⟨n0₀, hn⟩ : ∃ n0₀ : Nat, gi M (t₀ + 3) 0 = n0₀ := ⟨(gi M (t₀ + 3) 0).toNat, by omega⟩
  have ca : ∀ i₀ : Nat, i₀ < n0₀ → kd M (gr M (t₀ + 3 + 1) i₀) = 3 ∧ t₀ + 6 ≤ gr M (t₀ + 3 + 1) i₀ ∧ gr M (t₀ + 3 + 1) i₀ < t₀ + 126 := fun i₀ hi => by have := cl₀.2.2.2.2.2.2.2.1 i₀ (by omega); exact ⟨this.1, by omega, by omega⟩
  have ci := cl₀.2.2.2.2.2.2.2.2
  -- behind₀ the loops: settle₀
  have SE₀ : ∀ Z4, mm_f (fun a₀ k₀ => ((t₀ + 6 ≤ a₀ ∧ a₀ < t₀ + 126) ∧ k₀ = 0) ∨ a₀ = t₀ + 1 ∨ a₀ = t₀ + 128) M Z4 → (∀ i₀ : Nat, i₀ < n0₀ → gi Z4 (gr M (t₀ + 3 + 1) i₀) 0 = mh_pl M t₀ (gi M (gr M (t₀ + 3 + 1) i₀) 0)) → (∀ r₀, 0 ≤ r₀ → r₀ < gi M t₀ 0 → gi Z4 (t₀ + 1) (mh_pl M t₀ r₀).toNat = gi M (t₀ + 1) r₀.toNat) → mg_Mt D l 46 [.inr (.inl t₀)] Z4 (fun v₀ N => v₀ = none ∧ mh_nw M N t₀ (gi M t₀ 0) (gi M t₀ 1) (gi M t₀ 2) (fun p₀ q₀ => mh_at M t₀ (iv₀ p₀) q₀) (mh_cn M t₀ 4) (mh_cn M t₀ 5) (fun k₀ => gi M (t₀ + 2) k₀.toNat) (fun k₀ => gi M (t₀ + 1) (iv₀ k₀).toNat) ∧ ∀ k₀, gi N (t₀ + 127) k₀ = gi M (t₀ + 127) k₀) mg_no := by
    intro Z4 fA v1₀ vh
    have e0₀ := mm_f_gi fA t₀ 0 (by omega)
    have e1₀ := mm_f_gi fA t₀ 1 (by omega)
    have e2₀ := mm_f_gi fA t₀ 2 (by omega)
    have cf₀ : ∀ i₀ : Nat, i₀ < n0₀ → gi Z4 (gr M (t₀ + 3 + 1) i₀) 0 = mh_pl M t₀ (gi M (gr M (t₀ + 3 + 1) i₀) 0) ∧ gi Z4 (gr M (t₀ + 3 + 1) i₀) 2 = gi M (gr M (t₀ + 3 + 1) i₀) 2 ∧ gi Z4 (gr M (t₀ + 3 + 1) i₀) 1 = gi M (gr M (t₀ + 3 + 1) i₀) 1 ∧ gi Z4 (gr M (t₀ + 3 + 1) i₀) 3 = gi M (gr M (t₀ + 3 + 1) i₀) 3 := by
      intro i₀ hi
      have c₀ := ca i₀ hi
      exact ⟨v1₀ i₀ hi, mm_f_gi fA _ 2 (by omega), mm_f_gi fA _ 1 (by omega), mm_f_gi fA _ 3 (by omega)⟩
    have cv : ∀ i₀ : Nat, i₀ < n0₀ → ∀ p₀ q₀, mh_cv Z4 t₀ i₀ p₀ q₀ ↔ (mh_pl M t₀ (gi M (gr M (t₀ + 3 + 1) i₀) 0) ≤ p₀ ∧ p₀ < mh_pl M t₀ (gi M (gr M (t₀ + 3 + 1) i₀) 0) + gi M (gr M (t₀ + 3 + 1) i₀) 2) ∧ gi M (gr M (t₀ + 3 + 1) i₀) 1 ≤ q₀ ∧ q₀ < gi M (gr M (t₀ + 3 + 1) i₀) 1 + gi M (gr M (t₀ + 3 + 1) i₀) 3 := by
      intro i₀ hi p₀ q₀
      obtain ⟨c1₀, c2₀, c3₀, c4₀⟩ := cf₀ i₀ hi
      unfold mh_cv
      rw [fA.2.2.1, c1₀, c2₀, c3₀, c4₀, and_assoc]
    have cvM : ∀ i₀ : Nat, i₀ < n0₀ → ∀ p₀ q₀, mh_cv M t₀ i₀ p₀ q₀ ↔ (gi M (gr M (t₀ + 3 + 1) i₀) 0 ≤ p₀ ∧ p₀ < gi M (gr M (t₀ + 3 + 1) i₀) 0 + gi M (gr M (t₀ + 3 + 1) i₀) 2) ∧ gi M (gr M (t₀ + 3 + 1) i₀) 1 ≤ q₀ ∧ q₀ < gi M (gr M (t₀ + 3 + 1) i₀) 1 + gi M (gr M (t₀ + 3 + 1) i₀) 3 := by
      intro i₀ hi p₀ q₀
      unfold mh_cv
      rw [and_assoc]
    -- a₀ cell's new₀ place₀ lies within₀ the table₀
    have rng : ∀ i₀ : Nat, i₀ < n0₀ → 0 ≤ mh_pl M t₀ (gi M (gr M (t₀ + 3 + 1) i₀) 0) ∧ mh_pl M t₀ (gi M (gr M (t₀ + 3 + 1) i₀) 0) + gi M (gr M (t₀ + 3 + 1) i₀) 2 ≤ gi M t₀ 0 := by
      intro i₀ hi
      have o := ok₀ i₀ (by omega)
      unfold mh_ok at o
      have a₀ := hp (gi M (gr M (t₀ + 3 + 1) i₀) 0) (by omega) (by omega)
      by_cases h1 : 1 < gi M (gr M (t₀ + 3 + 1) i₀) 2
      · have d₀ := hfx i₀ (by omega) h1 (gi M (gr M (t₀ + 3 + 1) i₀) 0) (by omega) (by omega)
        clear cv cvM cf₀ own₀ v1₀ vh ca ci ok₀ hp hv hfx
        omega
      · clear cv cvM cf₀ own₀ v1₀ vh ca ci ok₀ hp hv hfx
        omega
    -- a₀ moved₀ cell's square, told₀ in old₀ squares
    have bk : ∀ i₀ : Nat, i₀ < n0₀ → ∀ p₀ q₀, 0 ≤ p₀ → p₀ < gi M t₀ 0 → (mh_cv Z4 t₀ i₀ p₀ q₀ ↔ mh_cv M t₀ i₀ (iv₀ p₀) q₀) := by
      intro i₀ hi p₀ q₀ p0₀ p1₀
      rw [cv i₀ hi, cvM i₀ hi]
      have o := ok₀ i₀ (by omega)
      unfold mh_ok at o
      have a₀ := hp (gi M (gr M (t₀ + 3 + 1) i₀) 0) (by omega) (by omega)
      have b₀ := hv p₀ p0₀ p1₀
      have c₀ := hfx i₀ (by omega)
      have pp := (hp p₀ p0₀ p1₀).2
      clear cv cvM cf₀ own₀ v1₀ vh ca ci ok₀ hp hv hfx
      generalize gi M (gr M (t₀ + 3 + 1) i₀) 0 = T at *
      generalize gi M (gr M (t₀ + 3 + 1) i₀) 2 = H₀ at *
      by_cases h1 : 1 < H₀
      · have d₀ := c₀ h1 T (by omega) (by omega)
        constructor
        · rintro ⟨u₀, w₀⟩
          have e₀ := c₀ h1 p₀ (by omega) (by omega)
          rw [e₀] at pp
          exact ⟨by omega, w₀⟩
        · rintro ⟨u₀, w₀⟩
          have e₀ := c₀ h1 (iv₀ p₀) (by omega) (by omega)
          exact ⟨by omega, w₀⟩
      · constructor
        · rintro ⟨u₀, w₀⟩
          have e₀ : p₀ = mh_pl M t₀ T := by omega
          have g₀ := a₀.2
          rw [← e₀] at g₀
          exact ⟨by omega, w₀⟩
        · rintro ⟨u₀, w₀⟩
          have e₀ : iv₀ p₀ = T := by omega
          have g₀ := b₀.2
          rw [e₀] at g₀
          exact ⟨by omega, w₀⟩
    have at1₀ : ∀ i₀ : Nat, i₀ < n0₀ → ∀ p₀ q₀, mh_cv M t₀ i₀ p₀ q₀ → mh_at M t₀ p₀ q₀ = i₀ := fun i₀ hi p₀ q₀ h₀ => own₀ i₀ (by omega) p₀ q₀ h₀
    have at2₀ : ∀ p₀ q₀, 0 ≤ p₀ ∧ p₀ < gi M t₀ 0 → 0 ≤ q₀ ∧ q₀ < gi M t₀ 1 → ∃ i₀ : Nat, i₀ < n0₀ ∧ mh_cv M t₀ i₀ p₀ q₀ ∧ mh_at M t₀ p₀ q₀ = i₀ := by
      intro p₀ q₀ hp hq
      obtain ⟨i₀, hi, hv, _⟩ := mh_tl_ow tl hp hq (nb p₀ q₀ hp.1 hp.2 hq.1 hq.2)
      exact ⟨i₀, by omega, hv, at1₀ i₀ (by omega) p₀ q₀ hv⟩
    refine mg_MtN (cX4_settleJ7 hl (n0₀ := n0₀) (mm_f_mono fA (fun b₀ k₀ z₀ => by omega)) ?_ cl₀ ?_ ⟨e0₀, e1₀, e2₀⟩ ⟨by omega, by omega⟩ ?_ ?_ ?_ (by omega) ?_ ?_ ?_ ?_) (fun v₀ N h₀ => ⟨h₀.1, h₀.2.1, fun k₀ => (h₀.2.2 k₀).trans (mm_f_gi fA (t₀ + 127) k₀ (by omega))⟩)
    · unfold mg_tb at *
      rw [e0₀, e1₀, e2₀]
      simp only [fA.1, fA.2.1, fA.2.2.1]
      exact tb₀
    · rw [mm_f_gi fA (t₀ + 3) 0 (by omega)]; exact hn
    · intro i₀ hi
      have c₀ := ca i₀ hi
      exact ⟨mm_f_gi fA _ 4 (by omega), mm_f_gi fA _ 5 (by omega)⟩
    · intro i₀ hi
      obtain ⟨c1₀, c2₀, c3₀, c4₀⟩ := cf₀ i₀ hi
      have o := ok₀ i₀ (by omega)
      have r₀ := rng i₀ hi
      unfold mh_ok at o ⊢
      rw [fA.2.2.1, c1₀, c2₀, c3₀, c4₀, e0₀, e1₀]
      clear cv cvM bk at1₀ at2₀ cf₀ ca ok₀ own₀ v1₀ vh rng hp hv hfx
      omega
    · intro i₀ j₀ hi hj p₀ q₀ h1 h2
      rw [mm_f_gi fA (t₀ + 3) 0 (by omega)] at hi hj
      have r₀ := rng i₀ (by omega)
      have w₀ := (cv i₀ (by omega) p₀ q₀).1 h1
      rw [bk i₀ (by omega) p₀ q₀ (by omega) (by omega)] at h1
      rw [bk j₀ (by omega) p₀ q₀ (by omega) (by omega)] at h2
      have a₀ := at1₀ i₀ (by omega) _ _ h1
      have b₀ := at1₀ j₀ (by omega) _ _ h2
      omega
    · intro p₀ q₀ h₀
      have b₀ := hv p₀ h₀.1.1 h₀.1.2
      obtain ⟨i₀, hi, hw, e₀⟩ := at2₀ (iv₀ p₀) q₀ b₀.1 h₀.2
      exact Or.inl ⟨i₀, hi, (bk i₀ hi p₀ q₀ h₀.1.1 h₀.1.2).2 hw, e₀⟩
    · intro p₀ q₀ p' q' h₀ h' hge e₀
      exfalso
      have b₀ := hv p₀ h₀.1.1 h₀.1.2
      obtain ⟨i₀, hi, hw, e₀⟩ := at2₀ (iv₀ p₀) q₀ b₀.1 h₀.2
      have hge' : 120 ≤ mh_at M t₀ (iv₀ p₀) q₀ := hge
      omega
    · intro k₀ k0₀ k1₀
      exact mm_f_gi fA (t₀ + 2) _ (by omega)
    · intro k₀ k0₀ k1₀
      have b₀ := hv k₀ k0₀ k1₀
      have g₀ := vh (iv₀ k₀) b₀.1.1 b₀.1.2
      rw [b₀.2] at g₀
      exact g₀
  -- the loop₀ over the rows₀
  have L2₀ : ∀ Z1, mm_f (fun a₀ k₀ => ((t₀ + 6 ≤ a₀ ∧ a₀ < t₀ + 126) ∧ k₀ = 0) ∨ a₀ = t₀ + 1 ∨ a₀ = t₀ + 128) M Z1 → (∀ i₀ : Nat, i₀ < n0₀ → gi Z1 (gr M (t₀ + 3 + 1) i₀) 0 = mh_pl M t₀ (gi M (gr M (t₀ + 3 + 1) i₀) 0)) → (∀ k₀ : Nat, k₀ < 12 → gi Z1 (t₀ + 128) k₀ = gi M (t₀ + 1) k₀) → K 62 [(0, Sum.inr (Sum.inl t₀)), (1, Sum.inl 0)] [] Z1 0 := by
    intro Z1 f1₀ v1₀ w1₀
    refine mh_for (P := fun j₀ Z₀ => mm_f (fun a₀ _ => a₀ = t₀ + 1) Z1 Z₀ ∧ ∀ r₀, 0 ≤ r₀ → r₀ < j₀ → gi Z₀ (t₀ + 1) (mh_pl M t₀ r₀).toNat = gi M (t₀ + 1) r₀.toNat) (G := fun j₀ Z₀ => K 62 [(0, Sum.inr (Sum.inl t₀)), (1, Sum.inl j₀)] [] Z₀ 0) (lo := 0) (hi := gi M t₀ 0) (by omega) ?_ ?_ Z1 ⟨mm_f_rfl, fun r₀ r0 r1₀ => by omega⟩
    · rintro Z₀ ⟨f₀, v₀⟩
      have fA : mm_f (fun a₀ k₀ => ((t₀ + 6 ≤ a₀ ∧ a₀ < t₀ + 126) ∧ k₀ = 0) ∨ a₀ = t₀ + 1 ∨ a₀ = t₀ + 128) M Z₀ := mm_f_tr f1₀ (mm_f_mono f₀ (fun b₀ k₀ z₀ => Or.inr (Or.inl z₀)))
      have k5₀ : kd Z₀ t₀ = 5 := (fA.1 t₀).trans tb₀.1.1
      have r0 := mm_f_gi fA t₀ 0 (by omega)
      have g₀ := SE₀ Z₀ fA (fun i₀ hi => by have c₀ := ca i₀ hi; rw [mm_f_gi f₀ _ 0 (by omega)]; exact v1₀ i₀ hi) v₀
      clear SE₀ v₀ v1₀ w1₀ tl nb cl₀ ok₀ own₀ ca ci hp hv hfx
      refine hK₀ _ _ _ _ _ ?_
      (repeat' (((conv => whnf); first | (show (_ : Option mg_V) = _ ∧ _; assumption) | (show K _ _ _ _ _; assumption) | (show mm_th _ _ _ _; assumption) | refine And.intro (by first | assumption | omega | (simp only [true_and, kd_si, gr_si]; first | done | assumption | omega)) ?_ | (refine And.intro (fun _ => ?_) (fun _ => ?_) <;> first | (exfalso; omega) | skip) | intro _ | fail)))
      (conv => whnf)
      refine Exists.intro _ (Exists.intro _ (And.intro (g₀) (And.intro ?_ (fun _ _ h₀ => h₀.elim))))
      rintro _ N9 ⟨rfl, Q1₀⟩
      have Q₀ := And.intro (Eq.refl (none : Option mg_V)) Q1₀
      (repeat' (((conv => whnf); first | (show (_ : Option mg_V) = _ ∧ _; assumption) | (show K _ _ _ _ _; assumption) | (show mm_th _ _ _ _; assumption) | refine And.intro (by first | assumption | omega | (simp only [true_and, kd_si, gr_si]; first | done | assumption | omega)) ?_ | (refine And.intro (fun _ => ?_) (fun _ => ?_) <;> first | (exfalso; omega) | skip) | intro _ | fail)))
    · rintro j₀ Z₀ j0 j1 ⟨f₀, v₀⟩ nex
      have fA : mm_f (fun a₀ k₀ => ((t₀ + 6 ≤ a₀ ∧ a₀ < t₀ + 126) ∧ k₀ = 0) ∨ a₀ = t₀ + 1 ∨ a₀ = t₀ + 128) M Z₀ := mm_f_tr f1₀ (mm_f_mono f₀ (fun b₀ k₀ z₀ => Or.inr (Or.inl z₀)))
      have k5₀ : kd Z₀ t₀ = 5 := (fA.1 t₀).trans tb₀.1.1
      have r0 := mm_f_gi fA t₀ 0 (by omega)
      have e1₀ := mm_f_gi fA t₀ 1 (by omega)
      have e2₀ := mm_f_gi fA t₀ 2 (by omega)
      have tbZ : mg_tb Z₀ t₀ := by
        unfold mg_tb at *
        rw [r0, e1₀, e2₀]
        simp only [fA.1, fA.2.1, fA.2.2.1]
        exact tb₀
      have pl : mh_pl Z₀ t₀ j₀ = mh_pl M t₀ j₀ := by
        unfold mh_pl
        rw [r0, mm_f_gi fA (t₀ + 127) _ (by omega)]
      have po := @cX4_placeOf D l hl Z₀ t₀ j₀ tbZ
      rw [pl] at po
      have pj := (hp j₀ j0 j1).1
      have g3₀ : gr Z₀ t₀ 3 = t₀ + 1 := tbZ.1.2.1
      have g8 : gr Z₀ t₀ 8 = t₀ + 128 := tbZ.1.2.2.2.2.2.2
      have b1 : kd Z₀ (t₀ + 1) = 8 := tbZ.2.1.1.1
      have b2 : ln Z₀ (t₀ + 1) = 12 := tbZ.2.1.1.2
      have b3 : kd Z₀ (t₀ + 128) = 8 := tbZ.2.1.2.2.2.2.1
      have b4 : ln Z₀ (t₀ + 128) = 12 := tbZ.2.1.2.2.2.2.2
      have old₀ : gi Z₀ (t₀ + 128) j₀.toNat = gi M (t₀ + 1) j₀.toNat := (mm_f_gi f₀ (t₀ + 128) _ (by omega)).trans (w1₀ _ (by omega))
      have w₀ : K 62 [(0, Sum.inr (Sum.inl t₀)), (1, Sum.inl (j₀ + 1))] [] (si Z₀ (t₀ + 1) (mh_pl M t₀ j₀).toNat (gi Z₀ (t₀ + 128) j₀.toNat)) 0 := by
        refine nex _ ⟨mm_f_si f₀ rfl, fun r₀ r0 r1₀ => ?_⟩
        by_cases e₀ : r₀ = j₀
        · rw [e₀, gi_si, if_pos ⟨rfl, rfl⟩]
          exact old₀
        · have a₀ := hp r₀ r0 (by omega)
          have b₀ := hp j₀ j0 j1
          have ne₀ : ¬ (t₀ + 1 = t₀ + 1 ∧ (mh_pl M t₀ r₀).toNat = (mh_pl M t₀ j₀).toNat) := by
            rintro ⟨_, q₀⟩
            have q2₀ : mh_pl M t₀ r₀ = mh_pl M t₀ j₀ := by omega
            have g₀ := a₀.2
            rw [q2₀, b₀.2] at g₀
            exact e₀ g₀.symm
          rw [gi_si, if_neg ne₀]
          exact v₀ r₀ r0 (by omega)
      have hr := @cX4_hasRow D l hl Z₀ t₀ (mh_pl M t₀ j₀) k5₀
      rw [r0, if_pos pj] at hr
      clear nex v₀ v1₀ w1₀ SE₀ tl nb cl₀ ok₀ own₀ ca ci hp hv hfx old₀ f₀ f1₀ fA pl
      refine hK₀ _ _ _ _ _ ?_
      (repeat' (((conv => whnf); first | (show (_ : Option mg_V) = _ ∧ _; assumption) | (show K _ _ _ _ _; assumption) | (show mm_th _ _ _ _; assumption) | refine And.intro (by first | assumption | omega | (simp only [true_and, kd_si, gr_si]; first | done | assumption | omega)) ?_ | (refine And.intro (fun _ => ?_) (fun _ => ?_) <;> first | (exfalso; omega) | skip) | intro _ | fail)))
      (refine Exists.intro _ (Exists.intro _ (And.intro (po) (And.intro ?_ (fun _ _ h₀ => h₀.elim)))); rintro _ _ ⟨rfl, e₀⟩; have e2₀ := e₀.symm; clear e₀; subst e2₀)
      (repeat' (((conv => whnf); first | (show (_ : Option mg_V) = _ ∧ _; assumption) | (show K _ _ _ _ _; assumption) | (show mm_th _ _ _ _; assumption) | refine And.intro (by first | assumption | omega | (simp only [true_and, kd_si, gr_si]; first | done | assumption | omega)) ?_ | (refine And.intro (fun _ => ?_) (fun _ => ?_) <;> first | (exfalso; omega) | skip) | intro _ | fail)))
      (refine Exists.intro _ (Exists.intro _ (And.intro (hr) (And.intro ?_ (fun _ _ h₀ => h₀.elim)))); rintro _ _ ⟨rfl, e₀⟩; have e2₀ := e₀.symm; clear e₀; subst e2₀)
      (repeat' (((conv => whnf); first | (show (_ : Option mg_V) = _ ∧ _; assumption) | (show K _ _ _ _ _; assumption) | (show mm_th _ _ _ _; assumption) | refine And.intro (by first | assumption | omega | (simp only [true_and, kd_si, gr_si]; first | done | assumption | omega)) ?_ | (refine And.intro (fun _ => ?_) (fun _ => ?_) <;> first | (exfalso; omega) | skip) | intro _ | fail)))
      (conv => whnf)
      rw [g8]
      refine And.intro ⟨b3, by omega, by omega⟩ ?_
      (repeat' (((conv => whnf); first | (show (_ : Option mg_V) = _ ∧ _; assumption) | (show K _ _ _ _ _; assumption) | (show mm_th _ _ _ _; assumption) | refine And.intro (by first | assumption | omega | (simp only [true_and, kd_si, gr_si]; first | done | assumption | omega)) ?_ | (refine And.intro (fun _ => ?_) (fun _ => ?_) <;> first | (exfalso; omega) | skip) | intro _ | fail)))
      (conv => whnf)
      rw [g3₀]
      refine And.intro ⟨b1, by omega, by omega⟩ ?_
      (repeat' (((conv => whnf); first | (show (_ : Option mg_V) = _ ∧ _; assumption) | (show K _ _ _ _ _; assumption) | (show mm_th _ _ _ _; assumption) | refine And.intro (by first | assumption | omega | (simp only [true_and, kd_si, gr_si]; first | done | assumption | omega)) ?_ | (refine And.intro (fun _ => ?_) (fun _ => ?_) <;> first | (exfalso; omega) | skip) | intro _ | fail)))
      all_goals ((conv => whnf); exact w₀)
  have IT : ∀ Z1, mm_f (fun a₀ k₀ => (t₀ + 6 ≤ a₀ ∧ a₀ < t₀ + 126) ∧ k₀ = 0) M Z1 → (∀ i₀ : Nat, i₀ < n0₀ → gi Z1 (gr M (t₀ + 3 + 1) i₀) 0 = mh_pl M t₀ (gi M (gr M (t₀ + 3 + 1) i₀) 0)) → K 2 [(0, Sum.inr (Sum.inl t₀)), (1, Sum.inl (n0₀ : Int))] [] Z1 0 := by
    intro Z1 f1₀ v1₀
    have g₀ := L2₀ (cpy Z1 (t₀ + 1) (t₀ + 128) 12)
    have k5₀ : kd Z1 t₀ = 5 := (f1₀.1 t₀).trans tb₀.1.1
    have g3₀ : gr Z1 t₀ 3 = t₀ + 1 := (f1₀.2.2.1 t₀ 3).trans tb₀.1.2.1
    have g5₀ : gr Z1 t₀ 5 = t₀ + 3 := (f1₀.2.2.1 t₀ 5).trans tb₀.1.2.2.2.1
    have g8 : gr Z1 t₀ 8 = t₀ + 128 := (f1₀.2.2.1 t₀ 8).trans tb₀.1.2.2.2.2.2.2
    have g5n : gr Z1 t₀ 5 ≠ 0 := by omega
    have kc₀ : kd Z1 (gr Z1 t₀ 5) = 4 := by rw [g5₀]; exact (f1₀.1 _).trans cl₀.1
    have sz₀ : gi Z1 (gr Z1 t₀ 5) 0 = n0₀ := by rw [g5₀, mm_f_gi f1₀ (t₀ + 3) 0 (by omega)]; exact hn
    have b1 : kd Z1 (t₀ + 1) = 8 := (f1₀.1 _).trans tb₀.2.1.1.1
    have b2 : ln Z1 (t₀ + 1) = 12 := (f1₀.2.1 _).trans tb₀.2.1.1.2
    have b3 : kd Z1 (t₀ + 128) = 8 := (f1₀.1 _).trans tb₀.2.1.2.2.2.2.1
    have b4 : ln Z1 (t₀ + 128) = 12 := (f1₀.2.1 _).trans tb₀.2.1.2.2.2.2.2
    have w₀ : K 62 [(0, Sum.inr (Sum.inl t₀)), (1, Sum.inl 0)] [] (cpy Z1 (t₀ + 1) (t₀ + 128) 12) 0 := by
      refine g₀ ?_ ?_ ?_
      · obtain ⟨z1, z2, z3, z4, z5, z6, z7⟩ := f1₀
        refine ⟨z1, z2, z3, z4, z5, z6, fun a₀ k₀ => ?_⟩
        rw [gi_cpy]
        split
        · exact Or.inl (Or.inr (Or.inr (by omega)))
        · rcases z7 a₀ k₀ with q₀ | q₀
          · exact Or.inl (Or.inl q₀)
          · exact Or.inr q₀
      · intro i₀ hi
        have c₀ := ca i₀ hi
        rw [gi_cpy, if_neg (by omega)]
        exact v1₀ i₀ hi
      · intro k₀ hk
        rw [gi_cpy, if_pos ⟨rfl, hk⟩]
        exact mm_f_gi f1₀ (t₀ + 1) k₀ (by omega)
    clear g₀ L2₀ SE₀ v1₀ tl nb cl₀ ok₀ own₀ ca ci hp hv hfx
    refine hK₀ _ _ _ _ _ ?_
    (repeat' (((conv => whnf); first | (show (_ : Option mg_V) = _ ∧ _; assumption) | (show K _ _ _ _ _; assumption) | (show mm_th _ _ _ _; assumption) | refine And.intro (by first | assumption | omega | (simp only [true_and, kd_si, gr_si]; first | done | assumption | omega)) ?_ | (refine And.intro (fun _ => ?_) (fun _ => ?_) <;> first | (exfalso; omega) | skip) | intro _ | fail)))
    (conv => whnf)
    rw [g3₀, g8]
    refine And.intro ⟨rfl, rfl, by decide, b1, b3, by omega, by omega⟩ ?_
    (repeat' (((conv => whnf); first | (show (_ : Option mg_V) = _ ∧ _; assumption) | (show K _ _ _ _ _; assumption) | (show mm_th _ _ _ _; assumption) | refine And.intro (by first | assumption | omega | (simp only [true_and, kd_si, gr_si]; first | done | assumption | omega)) ?_ | (refine And.intro (fun _ => ?_) (fun _ => ?_) <;> first | (exfalso; omega) | skip) | intro _ | fail)))
    all_goals ((conv => whnf); exact w₀)
  have LP₀ : K 2 [(0, Sum.inr (Sum.inl t₀)), (1, Sum.inl 0)] [] M 0 := by
    refine mh_for (P := fun j₀ Z₀ => mm_f (fun a₀ k₀ => (t₀ + 6 ≤ a₀ ∧ a₀ < t₀ + 126) ∧ k₀ = 0) M Z₀ ∧ ∀ i₀ : Nat, i₀ < n0₀ → ((i₀ : Int) < j₀ → gi Z₀ (gr M (t₀ + 3 + 1) i₀) 0 = mh_pl M t₀ (gi M (gr M (t₀ + 3 + 1) i₀) 0)) ∧ (j₀ ≤ i₀ → gi Z₀ (gr M (t₀ + 3 + 1) i₀) 0 = gi M (gr M (t₀ + 3 + 1) i₀) 0)) (G := fun j₀ Z₀ => K 2 [(0, Sum.inr (Sum.inl t₀)), (1, Sum.inl j₀)] [] Z₀ 0) (lo := 0) (hi := n0₀) (by omega) ?_ ?_ M ⟨mm_f_rfl, fun i₀ hi => ⟨fun z₀ => by omega, fun _ => rfl⟩⟩
    · rintro Z₀ ⟨f₀, v₀⟩
      exact IT Z₀ f₀ (fun i₀ hi => (v₀ i₀ hi).1 (by omega))
    · rintro j₀ Z₀ j0 j1 ⟨f₀, v₀⟩ nex
      have g1 : kd Z₀ t₀ = 5 := (f₀.1 t₀).trans tb₀.1.1
      have g5₀ : gr Z₀ t₀ 5 = t₀ + 3 := (f₀.2.2.1 t₀ 5).trans tb₀.1.2.2.2.1
      have g5n : gr Z₀ t₀ 5 ≠ 0 := by omega
      have sz3 := mm_f_gi f₀ (t₀ + 3) 0 (by omega)
      have clZ := mh_fr_cL cl₀ f₀.1 f₀.2.1 f₀.2.2.1 sz3
      have kc₀ : kd Z₀ (gr Z₀ t₀ 5) = 4 := by rw [g5₀]; exact clZ.1
      have sz₀ : gi Z₀ (gr Z₀ t₀ 5) 0 = n0₀ := by rw [g5₀, sz3]; exact hn
      have c₀ := ca j₀.toNat (by omega)
      have vj := (v₀ j₀.toNat (by omega)).2 (by omega)
      have ea : gr Z₀ (t₀ + 3 + 1) j₀.toNat = gr M (t₀ + 3 + 1) j₀.toNat := f₀.2.2.1 _ _
      have ka : kd Z₀ (gr M (t₀ + 3 + 1) j₀.toNat) = 3 := (f₀.1 _).trans c₀.1
      have inj : ∀ i₀ : Nat, i₀ < n0₀ → gr M (t₀ + 3 + 1) i₀ = gr M (t₀ + 3 + 1) j₀.toNat → i₀ = j₀.toNat := fun i₀ hi e₀ => ci i₀ j₀.toNat (by omega) (by omega) e₀
      have r0 := mm_f_gi f₀ t₀ 0 (by omega)
      have e1₀ := mm_f_gi f₀ t₀ 1 (by omega)
      have e2₀ := mm_f_gi f₀ t₀ 2 (by omega)
      have tbZ : mg_tb Z₀ t₀ := by
        unfold mg_tb at *
        rw [r0, e1₀, e2₀]
        simp only [f₀.1, f₀.2.1, f₀.2.2.1]
        exact tb₀
      have pl : mh_pl Z₀ t₀ (gi Z₀ (gr M (t₀ + 3 + 1) j₀.toNat) 0) = mh_pl M t₀ (gi M (gr M (t₀ + 3 + 1) j₀.toNat) 0) := by
        rw [vj]
        unfold mh_pl
        rw [r0, mm_f_gi f₀ (t₀ + 127) _ (by omega)]
      have po := @cX4_placeOf D l hl Z₀ t₀ (gi Z₀ (gr M (t₀ + 3 + 1) j₀.toNat) 0) tbZ
      rw [pl] at po
      have gt := @cX3_get D l hl Z₀ (t₀ + 3) j₀ clZ (by omega)
      rw [ea] at gt
      have w₀ : K 2 [(0, Sum.inr (Sum.inl t₀)), (1, Sum.inl (j₀ + 1))] [] (si Z₀ (gr M (t₀ + 3 + 1) j₀.toNat) 0 (mh_pl M t₀ (gi M (gr M (t₀ + 3 + 1) j₀.toNat) 0))) 0 := by
        refine nex _ ⟨mm_f_si f₀ (by omega), fun i₀ hi => ⟨fun hj => ?_, fun hj => ?_⟩⟩
        · by_cases e₀ : i₀ = j₀.toNat
          · rw [e₀, gi_si, if_pos ⟨rfl, rfl⟩]
          · have g₀ := (v₀ i₀ hi).1 (by omega)
            have ne₀ : ¬ (gr M (t₀ + 3 + 1) i₀ = gr M (t₀ + 3 + 1) j₀.toNat ∧ 0 = 0) := fun q₀ => e₀ (inj i₀ hi q₀.1)
            rw [gi_si, if_neg ne₀]
            exact g₀
        · have g₀ := (v₀ i₀ hi).2 (by omega)
          have ne₀ : ¬ (gr M (t₀ + 3 + 1) i₀ = gr M (t₀ + 3 + 1) j₀.toNat ∧ 0 = 0) := fun q₀ => by have := inj i₀ hi q₀.1; omega
          rw [gi_si, if_neg ne₀]
          exact g₀
      clear nex v₀ inj IT L2₀ SE₀ tl nb tb₀ cl₀ ok₀ own₀ ca ci clZ hp hv hfx pl vj f₀ e1₀ e2₀
      refine hK₀ _ _ _ _ _ ?_
      (repeat' (((conv => whnf); first | (show (_ : Option mg_V) = _ ∧ _; assumption) | (show K _ _ _ _ _; assumption) | (show mm_th _ _ _ _; assumption) | refine And.intro (by first | assumption | omega | (simp only [true_and, kd_si, gr_si]; first | done | assumption | omega)) ?_ | (refine And.intro (fun _ => ?_) (fun _ => ?_) <;> first | (exfalso; omega) | skip) | intro _ | fail)))
      all_goals ((conv => whnf); try rw [g5₀])
      (refine Exists.intro _ (Exists.intro _ (And.intro (gt) (And.intro ?_ (fun _ _ h₀ => h₀.elim)))); rintro _ _ ⟨rfl, e₀⟩; have e2₀ := e₀.symm; clear e₀; subst e2₀)
      (repeat' (((conv => whnf); first | (show (_ : Option mg_V) = _ ∧ _; assumption) | (show K _ _ _ _ _; assumption) | (show mm_th _ _ _ _; assumption) | refine And.intro (by first | assumption | omega | (simp only [true_and, kd_si, gr_si]; first | done | assumption | omega)) ?_ | (refine And.intro (fun _ => ?_) (fun _ => ?_) <;> first | (exfalso; omega) | skip) | intro _ | fail)))
      all_goals ((conv => whnf); try rw [g5₀])
      (refine Exists.intro _ (Exists.intro _ (And.intro (gt) (And.intro ?_ (fun _ _ h₀ => h₀.elim)))); rintro _ _ ⟨rfl, e₀⟩; have e2₀ := e₀.symm; clear e₀; subst e2₀)
      (repeat' (((conv => whnf); first | (show (_ : Option mg_V) = _ ∧ _; assumption) | (show K _ _ _ _ _; assumption) | (show mm_th _ _ _ _; assumption) | refine And.intro (by first | assumption | omega | (simp only [true_and, kd_si, gr_si]; first | done | assumption | omega)) ?_ | (refine And.intro (fun _ => ?_) (fun _ => ?_) <;> first | (exfalso; omega) | skip) | intro _ | fail)))
      (refine Exists.intro _ (Exists.intro _ (And.intro (po) (And.intro ?_ (fun _ _ h₀ => h₀.elim)))); rintro _ _ ⟨rfl, e₀⟩; have e2₀ := e₀.symm; clear e₀; subst e2₀)
      (repeat' (((conv => whnf); first | (show (_ : Option mg_V) = _ ∧ _; assumption) | (show K _ _ _ _ _; assumption) | (show mm_th _ _ _ _; assumption) | refine And.intro (by first | assumption | omega | (simp only [true_and, kd_si, gr_si]; first | done | assumption | omega)) ?_ | (refine And.intro (fun _ => ?_) (fun _ => ?_) <;> first | (exfalso; omega) | skip) | intro _ | fail)))
      all_goals ((conv => whnf); skip)
  have k5₀ := tb₀.1.1
  clear IT L2₀ SE₀ tl nb cl₀ ok₀ own₀ ca ci hp hv hfx
  refine hK₀ _ _ _ _ _ ?_
  (repeat' (((conv => whnf); first | (show (_ : Option mg_V) = _ ∧ _; assumption) | (show K _ _ _ _ _; assumption) | (show mm_th _ _ _ _; assumption) | refine And.intro (by first | assumption | omega | (simp only [true_and, kd_si, gr_si]; first | done | assumption | omega)) ?_ | (refine And.intro (fun _ => ?_) (fun _ => ?_) <;> first | (exfalso; omega) | skip) | intro _ | fail)))
