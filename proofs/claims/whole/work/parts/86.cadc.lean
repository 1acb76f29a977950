def mh_icG (J₀ : Int → Int → Int) (C x₀ p₀ q₀ : Int) : Int := if q₀ < x₀ then J₀ p₀ q₀ else if x₀ < q₀ then J₀ p₀ (q₀ - 1) else if (0 < x₀ ∧ x₀ < C) ∧ J₀ p₀ (x₀ - 1) = J₀ p₀ x₀ then J₀ p₀ x₀ else 120 + p₀
set_option maxRecDepth 100000 in
theorem cX4_addColumn {D : mg_D} {l : Launch} (hl : l.stackTraces = false) {M : mg_M} {t₀ : Nat} {x₀ : Int} (tl : mh_tl M t₀) (nb : mh_nb M t₀) (hx : 0 ≤ x₀ ∧ x₀ ≤ gi M t₀ 1) (hR : gi M t₀ 1 < 10) (hh : 0 ≤ gi M t₀ 2 ∧ gi M t₀ 2 ≤ gi M t₀ 0) : mg_Mt D l 49 [.inr (.inl t₀), .inl x₀] M (fun v₀ N => v₀ = none ∧ mh_nw M N t₀ (gi M t₀ 0) (gi M t₀ 1 + 1) (gi M t₀ 2) (mh_icG (mh_at M t₀) (gi M t₀ 1) x₀) (mh_cn M t₀ 4) (mh_cn M t₀ 5) (mh_ih M (t₀ + 2) x₀ 50) (fun k₀ => gi M (t₀ + 1) k₀.toNat)) mg_no := by
  refine mg_of2 hl ok_X4_addColumn al_X4_addColumn rfl (fun K hK₀ => ?_)
  have tb₀ := tl.1
  have cl₀ := tl.2.1
  have ok₀ := tl.2.2.1
  have own₀ := tl.2.2.2.1
  have bb := tb₀.2.2
  have z₀ := cl₀.2.2.2.2.2.2.1
  obtain ⟨n0₀, hn⟩ : ∃ n0₀ : Nat, gi M (t₀ + 3) 0 = n0₀ := ⟨(gi M (t₀ + 3) 0).toNat, by omega⟩
  have ca : ∀ i₀ : Nat, i₀ < n0₀ → kd M (gr M (t₀ + 3 + 1) i₀) = 3 ∧ t₀ + 6 ≤ gr M (t₀ + 3 + 1) i₀ ∧ gr M (t₀ + 3 + 1) i₀ < t₀ + 126 := fun i₀ hi => by have := cl₀.2.2.2.2.2.2.2.1 i₀ (by omega); exact ⟨this.1, by omega, by omega⟩
  have ci := cl₀.2.2.2.2.2.2.2.2
  -- behind₀ the loop₀: sizes₀, the table's numbers₀, settle₀
  have SE₀ : ∀ Z1 Z2 Z4, mm_f (fun a₀ k₀ => (t₀ + 6 ≤ a₀ ∧ a₀ < t₀ + 126) ∧ (k₀ = 1 ∨ k₀ = 3)) M Z1 → (∀ i₀ : Nat, i₀ < n0₀ → gi Z1 (gr M (t₀ + 3 + 1) i₀) 1 = mh_rt x₀ (gi M (gr M (t₀ + 3 + 1) i₀) 1) ∧ gi Z1 (gr M (t₀ + 3 + 1) i₀) 3 = mh_rh x₀ (gi M (gr M (t₀ + 3 + 1) i₀) 1) (gi M (gr M (t₀ + 3 + 1) i₀) 3)) → mm_f (fun a₀ _ => a₀ = t₀ + 2) Z1 Z2 → (∀ k₀ : Nat, gi Z2 (t₀ + 2) k₀ = if k₀ = x₀.toNat then 50 else if x₀.toNat < k₀ ∧ k₀ < 10 then gi Z1 (t₀ + 2) (k₀ - 1) else gi Z1 (t₀ + 2) k₀) → mm_f (fun a₀ k₀ => a₀ = t₀ ∧ k₀ = 1) Z2 Z4 → gi Z4 t₀ 1 = gi M t₀ 1 + 1 → mg_Mt D l 46 [.inr (.inl t₀)] Z4 (fun v₀ N => v₀ = none ∧ mh_nw M N t₀ (gi M t₀ 0) (gi M t₀ 1 + 1) (gi M t₀ 2) (mh_icG (mh_at M t₀) (gi M t₀ 1) x₀) (mh_cn M t₀ 4) (mh_cn M t₀ 5) (mh_ih M (t₀ + 2) x₀ 50) (fun k₀ => gi M (t₀ + 1) k₀.toNat)) mg_no := by
    intro Z1 Z2 Z4 f1₀ v1₀ f2₀ v2 f4₀ e0₀
    have fA : mm_f (fun a₀ k₀ => ((t₀ + 6 ≤ a₀ ∧ a₀ < t₀ + 126) ∧ (k₀ = 1 ∨ k₀ = 3)) ∨ a₀ = t₀ + 2 ∨ (a₀ = t₀ ∧ k₀ = 1)) M Z4 := mm_f_tr (mm_f_tr (mm_f_mono f1₀ (fun b₀ k₀ z₀ => Or.inl z₀)) (mm_f_mono f2₀ (fun b₀ k₀ z₀ => Or.inr (Or.inl z₀)))) (mm_f_mono f4₀ (fun b₀ k₀ z₀ => Or.inr (Or.inr z₀)))
    have e1₀ := mm_f_gi fA t₀ 0 (by omega)
    have e2₀ := mm_f_gi fA t₀ 2 (by omega)
    have cf₀ : ∀ i₀ : Nat, i₀ < n0₀ → gi Z4 (gr M (t₀ + 3 + 1) i₀) 1 = mh_rt x₀ (gi M (gr M (t₀ + 3 + 1) i₀) 1) ∧ gi Z4 (gr M (t₀ + 3 + 1) i₀) 3 = mh_rh x₀ (gi M (gr M (t₀ + 3 + 1) i₀) 1) (gi M (gr M (t₀ + 3 + 1) i₀) 3) ∧ gi Z4 (gr M (t₀ + 3 + 1) i₀) 0 = gi M (gr M (t₀ + 3 + 1) i₀) 0 ∧ gi Z4 (gr M (t₀ + 3 + 1) i₀) 2 = gi M (gr M (t₀ + 3 + 1) i₀) 2 := by
      intro i₀ hi
      have c₀ := ca i₀ hi
      have g₀ := v1₀ i₀ hi
      rw [mm_f_gi f4₀ _ 1 (by omega), mm_f_gi f2₀ _ 1 (by omega), mm_f_gi f4₀ _ 3 (by omega), mm_f_gi f2₀ _ 3 (by omega)]
      exact ⟨g₀.1, g₀.2, mm_f_gi fA _ 0 (by omega), mm_f_gi fA _ 2 (by omega)⟩
    have cv : ∀ i₀ : Nat, i₀ < n0₀ → ∀ p₀ q₀, mh_cv Z4 t₀ i₀ q₀ p₀ ↔ (mh_rt x₀ (gi M (gr M (t₀ + 3 + 1) i₀) 1) ≤ p₀ ∧ p₀ < mh_rt x₀ (gi M (gr M (t₀ + 3 + 1) i₀) 1) + mh_rh x₀ (gi M (gr M (t₀ + 3 + 1) i₀) 1) (gi M (gr M (t₀ + 3 + 1) i₀) 3)) ∧ gi M (gr M (t₀ + 3 + 1) i₀) 0 ≤ q₀ ∧ q₀ < gi M (gr M (t₀ + 3 + 1) i₀) 0 + gi M (gr M (t₀ + 3 + 1) i₀) 2 := by
      intro i₀ hi p₀ q₀
      obtain ⟨c1₀, c2₀, c3₀, c4₀⟩ := cf₀ i₀ hi
      unfold mh_cv
      rw [fA.2.2.1, c1₀, c2₀, c3₀, c4₀]
      constructor <;> (intro h₀; omega)
    have cvM : ∀ i₀ : Nat, i₀ < n0₀ → ∀ p₀ q₀, mh_cv M t₀ i₀ q₀ p₀ ↔ (gi M (gr M (t₀ + 3 + 1) i₀) 1 ≤ p₀ ∧ p₀ < gi M (gr M (t₀ + 3 + 1) i₀) 1 + gi M (gr M (t₀ + 3 + 1) i₀) 3) ∧ gi M (gr M (t₀ + 3 + 1) i₀) 0 ≤ q₀ ∧ q₀ < gi M (gr M (t₀ + 3 + 1) i₀) 0 + gi M (gr M (t₀ + 3 + 1) i₀) 2 := by
      intro i₀ hi p₀ q₀
      unfold mh_cv
      constructor <;> (intro h₀; omega)
    -- a₀ moved₀ cell's square, told₀ in old₀ squares
    have bk : ∀ i₀ : Nat, i₀ < n0₀ → ∀ p₀ q₀, (mh_cv Z4 t₀ i₀ q₀ p₀ ↔ (p₀ < x₀ ∧ mh_cv M t₀ i₀ q₀ p₀) ∨ (x₀ < p₀ ∧ mh_cv M t₀ i₀ q₀ (p₀ - 1)) ∨ (p₀ = x₀ ∧ mh_cv M t₀ i₀ q₀ (x₀ - 1) ∧ mh_cv M t₀ i₀ q₀ x₀)) := by
      intro i₀ hi p₀ q₀
      rw [cv i₀ hi, cvM i₀ hi, cvM i₀ hi, cvM i₀ hi, cvM i₀ hi]
      have o := ok₀ i₀ (by omega)
      unfold mh_ok at o
      unfold mh_rt mh_rh
      generalize gi M (gr M (t₀ + 3 + 1) i₀) 1 = T at *
      generalize gi M (gr M (t₀ + 3 + 1) i₀) 3 = H₀ at *
      clear cv cvM cf₀ ok₀ own₀ v1₀ v2 ca ci
      (repeat' split) <;> omega
    have at1₀ : ∀ i₀ : Nat, i₀ < n0₀ → ∀ p₀ q₀, mh_cv M t₀ i₀ q₀ p₀ → mh_at M t₀ q₀ p₀ = i₀ := fun i₀ hi p₀ q₀ h₀ => own₀ i₀ (by omega) q₀ p₀ h₀
    have at2₀ : ∀ p₀ q₀, 0 ≤ p₀ ∧ p₀ < gi M t₀ 1 → 0 ≤ q₀ ∧ q₀ < gi M t₀ 0 → ∃ i₀ : Nat, i₀ < n0₀ ∧ mh_cv M t₀ i₀ q₀ p₀ ∧ mh_at M t₀ q₀ p₀ = i₀ := by
      intro p₀ q₀ hp hq
      obtain ⟨i₀, hi, hv, _⟩ := mh_tl_ow tl hq hp (nb q₀ p₀ hq.1 hq.2 hp.1 hp.2)
      exact ⟨i₀, by omega, hv, at1₀ i₀ (by omega) p₀ q₀ hv⟩
    refine cX4_settleJ hl (n0₀ := n0₀) (mm_f_mono fA (fun b₀ k₀ z₀ => by omega)) ?_ cl₀ ?_ ⟨e1₀, e0₀, e2₀⟩ ⟨by omega, by omega⟩ ?_ ?_ ?_ (by omega) ?_ ?_ ?_ ?_
    · unfold mg_tb at *
      rw [e0₀, e1₀, e2₀]
      simp only [fA.1, fA.2.1, fA.2.2.1]
      refine ⟨tb₀.1, tb₀.2.1, ?_⟩
      clear cv cvM bk at1₀ at2₀ cf₀ ca ok₀ own₀ v1₀ v2 tb₀
      omega
    · rw [mm_f_gi fA (t₀ + 3) 0 (by omega)]; exact hn
    · intro i₀ hi
      have c₀ := ca i₀ hi
      exact ⟨mm_f_gi fA _ 4 (by omega), mm_f_gi fA _ 5 (by omega)⟩
    · intro i₀ hi
      obtain ⟨c1₀, c2₀, c3₀, c4₀⟩ := cf₀ i₀ hi
      have o := ok₀ i₀ (by omega)
      unfold mh_ok at o ⊢
      rw [fA.2.2.1, c1₀, c2₀, c3₀, c4₀, e0₀, e1₀]
      unfold mh_rt mh_rh
      clear cv cvM bk at1₀ at2₀ cf₀ ca ok₀ own₀ v1₀ v2
      (repeat' split) <;> omega
    · intro i₀ j₀ hi hj q₀ p₀ h1 h2
      rw [mm_f_gi fA (t₀ + 3) 0 (by omega)] at hi hj
      rw [bk i₀ (by omega)] at h1
      rw [bk j₀ (by omega)] at h2
      rcases h1 with ⟨a₀, a1₀⟩ | ⟨a₀, a1₀⟩ | ⟨a₀, a1₀, a2⟩ <;> rcases h2 with ⟨b₀, b1⟩ | ⟨b₀, b1⟩ | ⟨b₀, b1, b2⟩ <;> first | (exfalso; omega) | (have u₀ := at1₀ i₀ (by omega) _ _ a1₀; have w₀ := at1₀ j₀ (by omega) _ _ b1; omega)
    · intro q₀ p₀ h₀
      unfold mh_icG
      by_cases c1₀ : p₀ < x₀
      · obtain ⟨i₀, hi, hv, e₀⟩ := at2₀ p₀ q₀ (by omega) (by omega)
        exact Or.inl ⟨i₀, hi, (bk i₀ hi p₀ q₀).2 (Or.inl ⟨c1₀, hv⟩), by rw [if_pos c1₀]; exact e₀⟩
      · by_cases c2₀ : x₀ < p₀
        · obtain ⟨i₀, hi, hv, e₀⟩ := at2₀ (p₀ - 1) q₀ (by omega) (by omega)
          exact Or.inl ⟨i₀, hi, (bk i₀ hi p₀ q₀).2 (Or.inr (Or.inl ⟨c2₀, hv⟩)), by rw [if_neg c1₀, if_pos c2₀]; exact e₀⟩
        · by_cases c3₀ : (0 < x₀ ∧ x₀ < gi M t₀ 1) ∧ mh_at M t₀ q₀ (x₀ - 1) = mh_at M t₀ q₀ x₀
          · obtain ⟨i₀, hi, hv, e₀⟩ := at2₀ x₀ q₀ (by omega) (by omega)
            obtain ⟨j₀, hj, hv2, e2₀⟩ := at2₀ (x₀ - 1) q₀ (by omega) (by omega)
            have ij : j₀ = i₀ := by have := c3₀.2; omega
            rw [ij] at hv2
            exact Or.inl ⟨i₀, hi, (bk i₀ hi p₀ q₀).2 (Or.inr (Or.inr ⟨by omega, hv2, hv⟩)), by rw [if_neg c1₀, if_neg c2₀, if_pos c3₀]; exact e₀⟩
          · refine Or.inr ⟨fun i₀ hi hv => ?_, by rw [if_neg c1₀, if_neg c2₀, if_neg c3₀]; omega⟩
            rcases (bk i₀ hi p₀ q₀).1 hv with ⟨a₀, _⟩ | ⟨a₀, _⟩ | ⟨a₀, a1₀, a2⟩
            · exact c1₀ a₀
            · exact c2₀ a₀
            · refine c3₀ ⟨?_, (at1₀ i₀ hi _ _ a1₀).trans (at1₀ i₀ hi _ _ a2).symm⟩
              have o := ok₀ i₀ (by omega)
              unfold mh_ok at o
              unfold mh_cv at a1₀ a2
              omega
    · have key₀ : ∀ p₀ q₀, mh_rg (gi M t₀ 0) (gi M t₀ 1 + 1) q₀ p₀ → 120 ≤ mh_icG (mh_at M t₀) (gi M t₀ 1) x₀ q₀ p₀ → p₀ = x₀ ∧ mh_icG (mh_at M t₀) (gi M t₀ 1) x₀ q₀ p₀ = 120 + q₀ := by
        intro p₀ q₀ h₀ hge
        unfold mh_icG at hge ⊢
        by_cases c1₀ : p₀ < x₀
        · obtain ⟨i₀, hi, _, e₀⟩ := at2₀ p₀ q₀ (by omega) (by omega)
          rw [if_pos c1₀] at hge
          omega
        · by_cases c2₀ : x₀ < p₀
          · obtain ⟨i₀, hi, _, e₀⟩ := at2₀ (p₀ - 1) q₀ (by omega) (by omega)
            rw [if_neg c1₀, if_pos c2₀] at hge
            omega
          · by_cases c3₀ : (0 < x₀ ∧ x₀ < gi M t₀ 1) ∧ mh_at M t₀ q₀ (x₀ - 1) = mh_at M t₀ q₀ x₀
            · obtain ⟨i₀, hi, _, e₀⟩ := at2₀ x₀ q₀ (by omega) (by omega)
              rw [if_neg c1₀, if_neg c2₀, if_pos c3₀] at hge
              omega
            · rw [if_neg c1₀, if_neg c2₀, if_neg c3₀]
              exact ⟨by omega, rfl⟩
      intro q₀ p₀ q' p' h₀ h' hge e₀
      have k1₀ := key₀ p₀ q₀ h₀ hge
      have k2₀ := key₀ p' q' h' (by omega)
      omega
    · intro k₀ k0₀ k1₀
      rw [mm_f_gi f4₀ (t₀ + 2) _ (by omega), v2]
      unfold mh_ih
      have g₀ := fun j₀ => mm_f_gi f1₀ (t₀ + 2) j₀ (by omega)
      rw [g₀, g₀]
      clear cv cvM bk at1₀ at2₀ cf₀ ca ok₀ own₀ v1₀ v2
      (repeat' split) <;> first | rfl | (exfalso; omega) | (congr 1; omega)
    · intro k₀ k0₀ k1₀
      exact mm_f_gi fA (t₀ + 1) _ (by omega)
  have IT : ∀ Z1, mm_f (fun a₀ k₀ => (t₀ + 6 ≤ a₀ ∧ a₀ < t₀ + 126) ∧ (k₀ = 1 ∨ k₀ = 3)) M Z1 → (∀ i₀ : Nat, i₀ < n0₀ → gi Z1 (gr M (t₀ + 3 + 1) i₀) 1 = mh_rt x₀ (gi M (gr M (t₀ + 3 + 1) i₀) 1) ∧ gi Z1 (gr M (t₀ + 3 + 1) i₀) 3 = mh_rh x₀ (gi M (gr M (t₀ + 3 + 1) i₀) 1) (gi M (gr M (t₀ + 3 + 1) i₀) 3)) → K 2 [(0, Sum.inr (Sum.inl t₀)), (1, Sum.inl x₀), (2, Sum.inl (n0₀ : Int))] [] Z1 0 := by
    intro Z1 f1₀ v1₀
    have g1 : kd Z1 t₀ = 5 := (f1₀.1 t₀).trans tb₀.1.1
    have g3₀ : gr Z1 t₀ 4 = t₀ + 2 := (f1₀.2.2.1 t₀ 4).trans tb₀.1.2.2.1
    have g5₀ : gr Z1 t₀ 5 = t₀ + 3 := (f1₀.2.2.1 t₀ 5).trans tb₀.1.2.2.2.1
    have g5n : gr Z1 t₀ 5 ≠ 0 := by omega
    have g3n : gr Z1 t₀ 4 ≠ 0 := by omega
    have kc₀ : kd Z1 (gr Z1 t₀ 5) = 4 := by rw [g5₀]; exact (f1₀.1 _).trans cl₀.1
    have sz₀ : gi Z1 (gr Z1 t₀ 5) 0 = n0₀ := by rw [g5₀, mm_f_gi f1₀ (t₀ + 3) 0 (by omega)]; exact hn
    have kh : kd Z1 (t₀ + 2) = 8 := (f1₀.1 _).trans tb₀.2.1.2.1.1
    have lh : ln Z1 (t₀ + 2) = 10 := (f1₀.2.1 _).trans tb₀.2.1.2.1.2
    have ins := @cX4_insertSize D l hl Z1 (t₀ + 2) x₀.toNat 50 x₀ (by omega) kh (by rw [lh]; omega) (by rw [lh]; omega)
    have SE1 := fun Z2 Z4 => SE₀ Z1 Z2 Z4 f1₀ v1₀
    have r0 := mm_f_gi f1₀ t₀ 1 (by omega)
    have r2 := mm_f_gi f1₀ t₀ 2 (by omega)
    clear SE₀ v1₀ tl nb tb₀ cl₀ ok₀ own₀ ca ci
    refine hK₀ _ _ _ _ _ ?_
    (repeat' (((conv => whnf); first | (show (_ : Option mg_V) = _ ∧ _; assumption) | (show K _ _ _ _ _; assumption) | (show mm_th _ _ _ _; assumption) | refine And.intro (by first | assumption | omega | (simp only [true_and, kd_si, gr_si]; first | done | assumption | omega)) ?_ | (refine And.intro (fun _ => ?_) (fun _ => ?_) <;> first | (exfalso; omega) | skip) | intro _ | fail)))
    (conv => whnf)
    rw [g3₀]
    refine Exists.intro _ (Exists.intro _ (And.intro (ins) (And.intro ?_ (fun _ _ h₀ => h₀.elim))))
    rintro _ Z2 ⟨rfl, fx, v2⟩
    rw [lh] at v2
    have f2₀ : mm_f (fun a₀ _ => a₀ = t₀ + 2) Z1 Z2 := mm_f_fx fx (fun k₀ => rfl)
    have SE2 := fun Z4 => SE1 Z2 Z4 f2₀ v2
    have k2₀ : kd Z2 t₀ = 5 := (f2₀.1 t₀).trans g1
    have q0 : gi Z2 t₀ 1 = gi M t₀ 1 := (mm_f_gi f2₀ t₀ 1 (by omega)).trans r0
    have q2₀ : gi Z2 t₀ 2 = gi M t₀ 2 := (mm_f_gi f2₀ t₀ 2 (by omega)).trans r2
    clear ins SE1 v2 g1 g3₀ g5₀ g5n g3n kc₀ sz₀ kh lh
    (repeat' (((conv => whnf); first | (show (_ : Option mg_V) = _ ∧ _; assumption) | (show K _ _ _ _ _; assumption) | (show mm_th _ _ _ _; assumption) | refine And.intro (by first | assumption | omega | (simp only [true_and, kd_si, gr_si]; first | done | assumption | omega)) ?_ | (refine And.intro (fun _ => ?_) (fun _ => ?_) <;> first | (exfalso; omega) | skip) | intro _ | fail)))
    all_goals ((conv => whnf); generalize hZ3 : si Z2 t₀ 1 (gi Z2 t₀ 1 + 1) = Z3)
    have w0₀ : gi Z3 t₀ 1 = gi M t₀ 1 + 1 := by rw [← hZ3, gi_si, if_pos ⟨rfl, rfl⟩, q0]
    have f3₀ : mm_f (fun a₀ k₀ => a₀ = t₀ ∧ k₀ = 1) Z2 Z3 := by rw [← hZ3]; exact mm_f_si mm_f_rfl ⟨rfl, rfl⟩
    clear hZ3
    have g₀ := SE2 Z3 f3₀ w0₀
    clear SE2
    refine Exists.intro _ (Exists.intro _ (And.intro (g₀) (And.intro ?_ (fun _ _ h₀ => h₀.elim))))
    rintro _ N9 ⟨rfl, Q1₀⟩
    have Q₀ := And.intro (Eq.refl (none : Option mg_V)) Q1₀
    (repeat' (((conv => whnf); first | (show (_ : Option mg_V) = _ ∧ _; assumption) | (show K _ _ _ _ _; assumption) | (show mm_th _ _ _ _; assumption) | refine And.intro (by first | assumption | omega | (simp only [true_and, kd_si, gr_si]; first | done | assumption | omega)) ?_ | (refine And.intro (fun _ => ?_) (fun _ => ?_) <;> first | (exfalso; omega) | skip) | intro _ | fail)))
  have LP₀ : K 2 [(0, Sum.inr (Sum.inl t₀)), (1, Sum.inl x₀), (2, Sum.inl 0)] [] M 0 := by
    refine mh_for (P := fun j₀ Z₀ => mm_f (fun a₀ k₀ => (t₀ + 6 ≤ a₀ ∧ a₀ < t₀ + 126) ∧ (k₀ = 1 ∨ k₀ = 3)) M Z₀ ∧ ∀ i₀ : Nat, i₀ < n0₀ → ((i₀ : Int) < j₀ → gi Z₀ (gr M (t₀ + 3 + 1) i₀) 1 = mh_rt x₀ (gi M (gr M (t₀ + 3 + 1) i₀) 1) ∧ gi Z₀ (gr M (t₀ + 3 + 1) i₀) 3 = mh_rh x₀ (gi M (gr M (t₀ + 3 + 1) i₀) 1) (gi M (gr M (t₀ + 3 + 1) i₀) 3)) ∧ (j₀ ≤ i₀ → gi Z₀ (gr M (t₀ + 3 + 1) i₀) 1 = gi M (gr M (t₀ + 3 + 1) i₀) 1 ∧ gi Z₀ (gr M (t₀ + 3 + 1) i₀) 3 = gi M (gr M (t₀ + 3 + 1) i₀) 3)) (G := fun j₀ Z₀ => K 2 [(0, Sum.inr (Sum.inl t₀)), (1, Sum.inl x₀), (2, Sum.inl j₀)] [] Z₀ 0) (lo := 0) (hi := n0₀) (by omega) ?_ ?_ M ⟨mm_f_rfl, fun i₀ hi => ⟨fun z₀ => by omega, fun _ => ⟨rfl, rfl⟩⟩⟩
    · rintro Z₀ ⟨f₀, v₀⟩
      exact IT Z₀ f₀ (fun i₀ hi => (v₀ i₀ hi).1 (by omega))
    · rintro j₀ Z₀ j0 j1 ⟨f₀, v₀⟩ nex
      have g1 : kd Z₀ t₀ = 5 := (f₀.1 t₀).trans tb₀.1.1
      have g5₀ : gr Z₀ t₀ 5 = t₀ + 3 := (f₀.2.2.1 t₀ 5).trans tb₀.1.2.2.2.1
      have g5n : gr Z₀ t₀ 5 ≠ 0 := by omega
      have sz3 := mm_f_gi f₀ (t₀ + 3) 0 (by omega)
      have clZ := mh_fr_cL cl₀ f₀.1 f₀.2.1 f₀.2.2.1 sz3
      have kc₀ : kd Z₀ (gr Z₀ t₀ 5) = 4 := by rw [g5₀]; exact clZ.1
      have sz₀ : gi Z₀ (gr Z₀ t₀ 5) 0 = n0₀ := by rw [g5₀, sz3]; exact hn
      have c₀ := ca j₀.toNat (by omega)
      have o := ok₀ j₀.toNat (by omega)
      have vj := (v₀ j₀.toNat (by omega)).2 (by omega)
      have ea : gr Z₀ (t₀ + 3 + 1) j₀.toNat = gr M (t₀ + 3 + 1) j₀.toNat := f₀.2.2.1 _ _
      have e1₀ := mm_f_gi f₀ (gr M (t₀ + 3 + 1) j₀.toNat) 0 (by omega)
      have e3₀ := mm_f_gi f₀ (gr M (t₀ + 3 + 1) j₀.toNat) 2 (by omega)
      have ka : kd Z₀ (gr M (t₀ + 3 + 1) j₀.toNat) = 3 := (f₀.1 _).trans c₀.1
      have inj : ∀ i₀ : Nat, i₀ < n0₀ → gr M (t₀ + 3 + 1) i₀ = gr M (t₀ + 3 + 1) j₀.toNat → i₀ = j₀.toNat := fun i₀ hi e₀ => ci i₀ j₀.toNat (by omega) (by omega) e₀
      unfold mh_ok at o
      have sm₀ : mg_sm Z₀ (gr M (t₀ + 3 + 1) j₀.toNat) := ⟨ka, by omega, by omega⟩
      have gt := @cX3_get D l hl Z₀ (t₀ + 3) j₀ clZ (by omega)
      rw [ea] at gt
      have mr := @cX2_makeRoomForColumn D l hl Z₀ (gr M (t₀ + 3 + 1) j₀.toNat) x₀ sm₀
      have w₀ : K 2 [(0, Sum.inr (Sum.inl t₀)), (1, Sum.inl x₀), (2, Sum.inl (j₀ + 1))] [] (if x₀ ≤ gi Z₀ (gr M (t₀ + 3 + 1) j₀.toNat) 1 then si Z₀ (gr M (t₀ + 3 + 1) j₀.toNat) 1 (gi Z₀ (gr M (t₀ + 3 + 1) j₀.toNat) 1 + 1) else if x₀ ≤ gi Z₀ (gr M (t₀ + 3 + 1) j₀.toNat) 1 + gi Z₀ (gr M (t₀ + 3 + 1) j₀.toNat) 3 - 1 then si Z₀ (gr M (t₀ + 3 + 1) j₀.toNat) 3 (gi Z₀ (gr M (t₀ + 3 + 1) j₀.toNat) 3 + 1) else Z₀) 0 := by
        refine nex _ ⟨?_, fun i₀ hi => ⟨fun hj => ?_, fun hj => ?_⟩⟩
        · (repeat' split)
          · exact mm_f_si f₀ (by omega)
          · exact mm_f_si f₀ (by omega)
          · exact f₀
        · by_cases e₀ : i₀ = j₀.toNat
          · rw [e₀]
            unfold mh_rt mh_rh
            rw [vj.1, vj.2]
            (repeat' split) <;> first | (exfalso; omega) | (refine ⟨?_, ?_⟩ <;> first | omega | (simp [gi_si]; done) | (simp [gi_si]; omega))
          · have g₀ := (v₀ i₀ hi).1 (by omega)
            have ne₀ : ¬ (gr M (t₀ + 3 + 1) i₀ = gr M (t₀ + 3 + 1) j₀.toNat) := fun q₀ => e₀ (inj i₀ hi q₀)
            (repeat' split) <;> first | exact g₀ | (simp only [gi_si, ne₀, false_and, if_false]; exact g₀)
        · have g₀ := (v₀ i₀ hi).2 (by omega)
          have ne₀ : ¬ (gr M (t₀ + 3 + 1) i₀ = gr M (t₀ + 3 + 1) j₀.toNat) := fun q₀ => by have := inj i₀ hi q₀; omega
          (repeat' split) <;> first | exact g₀ | (simp only [gi_si, ne₀, false_and, if_false]; exact g₀)
      clear nex v₀ inj IT tl nb tb₀ cl₀ ok₀ own₀ ca ci clZ
      refine hK₀ _ _ _ _ _ ?_
      (repeat' (((conv => whnf); first | (show (_ : Option mg_V) = _ ∧ _; assumption) | (show K _ _ _ _ _; assumption) | (show mm_th _ _ _ _; assumption) | refine And.intro (by first | assumption | omega | (simp only [true_and, kd_si, gr_si]; first | done | assumption | omega)) ?_ | (refine And.intro (fun _ => ?_) (fun _ => ?_) <;> first | (exfalso; omega) | skip) | intro _ | fail)))
      all_goals ((conv => whnf); try rw [g5₀])
      (refine Exists.intro _ (Exists.intro _ (And.intro (gt) (And.intro ?_ (fun _ _ h₀ => h₀.elim)))); rintro _ _ ⟨rfl, e₀⟩; have e2₀ := e₀.symm; clear e₀; subst e2₀)
      (repeat' (((conv => whnf); first | (show (_ : Option mg_V) = _ ∧ _; assumption) | (show K _ _ _ _ _; assumption) | (show mm_th _ _ _ _; assumption) | refine And.intro (by first | assumption | omega | (simp only [true_and, kd_si, gr_si]; first | done | assumption | omega)) ?_ | (refine And.intro (fun _ => ?_) (fun _ => ?_) <;> first | (exfalso; omega) | skip) | intro _ | fail)))
      all_goals (try ((conv => whnf); (refine Exists.intro _ (Exists.intro _ (And.intro (mr) (And.intro ?_ (fun _ _ h₀ => h₀.elim)))); rintro _ _ ⟨rfl, e₀⟩; have e2₀ := e₀.symm; clear e₀; subst e2₀); (repeat' (((conv => whnf); first | (show (_ : Option mg_V) = _ ∧ _; assumption) | (show K _ _ _ _ _; assumption) | (show mm_th _ _ _ _; assumption) | refine And.intro (by first | assumption | omega | (simp only [true_and, kd_si, gr_si]; first | done | assumption | omega)) ?_ | (refine And.intro (fun _ => ?_) (fun _ => ?_) <;> first | (exfalso; omega) | skip) | intro _ | fail)))))
      all_goals ((conv => whnf); exact w₀)
  have k5₀ := tb₀.1.1
  clear IT tl nb cl₀ ok₀ own₀ ca ci
  refine hK₀ _ _ _ _ _ ?_
  (repeat' (((conv => whnf); first | (show (_ : Option mg_V) = _ ∧ _; assumption) | (show K _ _ _ _ _; assumption) | (show mm_th _ _ _ _; assumption) | refine And.intro (by first | assumption | omega | (simp only [true_and, kd_si, gr_si]; first | done | assumption | omega)) ?_ | (refine And.intro (fun _ => ?_) (fun _ => ?_) <;> first | (exfalso; omega) | skip) | intro _ | fail)))
