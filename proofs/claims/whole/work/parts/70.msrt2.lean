set_option maxRecDepth 100000 in
theorem cX6_sort0 {D : mg_D} {l : Launch} (hl : l.stackTraces = false) {M : mg_M} {m₀ : Nat} {x₀ y₀ : Int} {T L₀ H₀ W₀ : Int → Int → Int} {s0₀ : Int → Int} (st₀ : mm_st M m₀) (rc : mm_rc M m₀) (h₀ : 0 ≤ x₀ ∧ x₀ < gi M m₀ 2) (hy : y₀ = 0 ∨ y₀ = 1) (hb₀ : 1 ≤ gi M m₀ 1 ∧ 1 ≤ gi M m₀ 2) (hh : 0 ≤ gi M m₀ 3 ∧ gi M m₀ 3 ≤ gi M m₀ 1) (h2 : ¬ (gi M m₀ 3 < gi M m₀ 1 ∧ mm_td M m₀ (gi M m₀ 3) (gi M m₀ 1 - 1))) (hid₀ : ∀ r₀ c₀, mh_rg (gi M m₀ 1) (gi M m₀ 2) r₀ c₀ → 0 ≤ mi M (m₀ + 1) r₀ c₀ ∧ mi M (m₀ + 1) r₀ c₀ < 120) (hs1 : mh_so2 (mi_key M m₀ x₀) (gi M m₀ 3) (gi M m₀ 1) s0₀) (hs2 : mh_sd (mi_key M m₀ x₀) y₀ (gi M m₀ 3) (gi M m₀ 1) (gi M m₀ 3) s0₀) (t₀ : mh_til (gi M m₀ 1) (gi M m₀ 2) (fun p₀ q₀ => mi M (m₀ + 1) (s0₀ p₀) q₀) T L₀ H₀ W₀) : mg_Mt D l 191 [.inr (.inl m₀), .inl x₀, .inl y₀] M (fun v₀ N => v₀ = some (.inl (mh_sum (fun k₀ => if s0₀ k₀ ≠ k₀ then 1 else 0) (gi M m₀ 1).toNat)) ∧ mm_nw M N m₀ (gi M m₀ 1) (gi M m₀ 2) (gi M m₀ 3) (fun p₀ q₀ => mi M (m₀ + 1) (s0₀ p₀) q₀) (fun k₀ => gi M (m₀ + 2) k₀.toNat) (fun k₀ => gi M (m₀ + 3) k₀.toNat) (fun k₀ => gi M (m₀ + 4) k₀.toNat) (fun k₀ => gi M (m₀ + 5) (s0₀ k₀).toNat) ∧ mm_se N m₀ (gi M m₀ 1) (gi M m₀ 2) T L₀ H₀ W₀) mg_no := by
  refine mg_of2 hl ok_X6_sort al_X6_sort rfl (fun K hK₀ => ?_)
  have k7₀ := st₀.1
  have rc' := rc
  unfold mm_rc at rc'
  obtain ⟨a36, b36, c36₀⟩ := st₀.2.2.2.2.2.2.2
  obtain ⟨a6, b6, c6₀⟩ := st₀.2.1.2.1
  have sb₀ : ∀ i₀, 0 ≤ i₀ → i₀ < gi M m₀ 1 → 0 ≤ s0₀ i₀ ∧ s0₀ i₀ < gi M m₀ 1 := by
    intro i₀ h0 h1
    by_cases c₀ : gi M m₀ 3 ≤ i₀ ∧ i₀ < gi M m₀ 1
    · have := hs1.2.1 i₀ c₀.1 c₀.2
      omega
    · rw [hs1.1 i₀ c₀]
      exact ⟨h0, h1⟩
  have FE : ∀ P N, mm_kk M P m₀ → mm_sw M P N m₀ s0₀ → K 227 [(0, Sum.inr (Sum.inl m₀)), (3, Sum.inl 0), (4, Sum.inl 0)] [] N 0 := by
    intro P N kk w₀
    have f3₀ := kk.1
    have f5₀ := w₀.1
    have stN₀ := mm_f_st f5₀ (mm_f_st f3₀ st₀)
    have k7N := stN₀.1
    have t1₀ := (mm_f_gi f5₀ m₀ 1 (by omega)).trans (mm_f_gi f3₀ m₀ 1 (by omega))
    refine mh_for (P := fun k₀ n₀ => n₀ = mh_sum (fun k₀ => if s0₀ k₀ ≠ k₀ then 1 else 0) k₀.toNat) (G := fun k₀ n₀ => K 227 [(0, Sum.inr (Sum.inl m₀)), (3, Sum.inl n₀), (4, Sum.inl k₀)] [] N 0) (lo := 0) (hi := gi M m₀ 1) (by omega) ?_ ?_ 0 rfl
    · intro n₀ hn
      have kt : mm_kt M P m₀ := kk.2.2
      have z0 := kk.2.1
      have fN₀ : mm_f (mm_sB m₀) M N := mm_f_tr (mm_f_mono f3₀ (fun b₀ k₀ z₀ => by omega)) (mm_f_mono f5₀ (fun b₀ k₀ z₀ => by omega))
      have u2₀ := (mm_f_gi f5₀ m₀ 2 (by omega)).trans (mm_f_gi f3₀ m₀ 2 (by omega))
      have u3 := (mm_f_gi f5₀ m₀ 3 (by omega)).trans (mm_f_gi f3₀ m₀ 3 (by omega))
      have pr : mm_pre M N m₀ (gi M m₀ 1) (gi M m₀ 2) (gi M m₀ 3) (fun p₀ q₀ => mi M (m₀ + 1) (s0₀ p₀) q₀) (fun k₀ => gi M (m₀ + 2) k₀.toNat) (fun k₀ => gi M (m₀ + 3) k₀.toNat) (fun k₀ => gi M (m₀ + 4) k₀.toNat) (fun k₀ => gi M (m₀ + 5) (s0₀ k₀).toNat) := by
        refine ⟨fN₀, ⟨?_, t1₀, u2₀, u3⟩, ?_, by omega, ?_, ?_, ?_, ?_⟩
        · rw [mm_f_gi f5₀ m₀ 0 (by omega)]; exact z0
        · exact mm_kt_f f5₀ (fun k₀ _ _ => by omega) (fun b₀ k₀ _ _ => by omega) kt
        · intro r₀ c₀ hr
          refine ⟨w₀.2.1 r₀ c₀ (by omega) (by omega), ?_⟩
          have := hid₀ (s0₀ r₀) c₀ ⟨sb₀ r₀ (by omega) (by omega), by omega⟩
          dsimp only
          omega
        · intro r₀ c₀ hr
          rw [mm_f_gi f5₀ (m₀ + 2) _ (by omega), mm_f_gi f5₀ (m₀ + 3) _ (by omega), mm_f_gi f3₀ (m₀ + 2) _ (by omega), mm_f_gi f3₀ (m₀ + 3) _ (by omega)]
          exact ⟨rfl, rfl⟩
        · intro k₀ h0 h1
          rw [mm_f_gi f5₀ (m₀ + 4) _ (by omega), mm_f_gi f3₀ (m₀ + 4) _ (by omega)]
        · intro k₀ h0 h1
          exact w₀.2.2.1 k₀ h0
      obtain ⟨y1, y2⟩ := mm_pre_rc pr
      have Q1₀ : some (Sum.inl n₀ : mg_V) = some (.inl (mh_sum (fun k₀ => if s0₀ k₀ ≠ k₀ then 1 else 0) (gi M m₀ 1).toNat)) := by rw [hn]
      clear hn w₀ sb₀ hid₀ hs1 hs2 h2
      refine hK₀ _ _ _ _ _ ?_
      (repeat' (((conv => whnf); first | (show (_ : Option mg_V) = _ ∧ _; assumption) | (show K _ _ _ _ _; assumption) | refine And.intro (by first | assumption | omega | (simp only [true_and, a36, b36, c36₀, a6, b6, c6₀, kd_si, ln_si, gr_si]; first | done | assumption | omega)) ?_ | (refine And.intro (fun _ => ?_) (fun _ => ?_) <;> first | (exfalso; omega) | skip) | intro _ | fail)))
      (conv => whnf)
      refine Exists.intro _ (Exists.intro _ (And.intro (cX6_settles hl stN₀ y1 y2) (And.intro ?_ (fun _ _ h₀ => h₀.elim))))
      rintro _ N2 ⟨rfl, hs⟩
      have nw := mm_pre_set pr hs
      have k72 : kd N2 m₀ = 7 := (nw.1.1 m₀).trans st₀.1
      clear pr hs
      (repeat' (((conv => whnf); first | (show (_ : Option mg_V) = _ ∧ _; assumption) | (show K _ _ _ _ _; assumption) | refine And.intro (by first | assumption | omega | (simp only [true_and, a36, b36, c36₀, a6, b6, c6₀, kd_si, ln_si, gr_si]; first | done | assumption | omega)) ?_ | (refine And.intro (fun _ => ?_) (fun _ => ?_) <;> first | (exfalso; omega) | skip) | intro _ | fail)))
      (conv => whnf)
      refine Exists.intro _ (Exists.intro _ (And.intro (cX6_starts hl st₀ (by omega) nw t₀) (And.intro ?_ (fun _ _ h₀ => h₀.elim))))
      rintro _ N3 ⟨rfl, Q2₀, Q3⟩
      have Q₀ := And.intro Q1₀ (And.intro Q2₀ Q3)
      (repeat' (((conv => whnf); first | (show (_ : Option mg_V) = _ ∧ _; assumption) | (show K _ _ _ _ _; assumption) | refine And.intro (by first | assumption | omega | (simp only [true_and, a36, b36, c36₀, a6, b6, c6₀, kd_si, ln_si, gr_si]; first | done | assumption | omega)) ?_ | (refine And.intro (fun _ => ?_) (fun _ => ?_) <;> first | (exfalso; omega) | skip) | intro _ | fail)))
    · intro k₀ n₀ k0₀ k1₀ hn nex
      obtain ⟨a36, b36, c36₀⟩ := stN₀.2.2.2.2.2.2.2
      have b₀ := mh_suml (fun k₀ : Nat => if s0₀ k₀ ≠ k₀ then (1 : Int) else 0) 1 k₀.toNat (fun i₀ _ => by (try dsimp only); split <;> omega)
      rw [← hn] at b₀
      have e₀ := mh_sumI (g₀ := fun k₀ : Nat => if s0₀ k₀ ≠ k₀ then (1 : Int) else 0) k0₀
      have e2₀ : ((k₀.toNat : Nat) : Int) = k₀ := by omega
      rw [← hn] at e₀
      try dsimp only at e₀
      rw [e2₀] at e₀
      have nex2 : ∀ z₀, z₀ = n₀ + (if s0₀ k₀ ≠ k₀ then (1 : Int) else 0) → K 227 [(0, Sum.inr (Sum.inl m₀)), (3, Sum.inl z₀), (4, Sum.inl (k₀ + 1))] [] N 0 := fun z₀ hz => nex z₀ (hz.trans e₀.symm)
      have w17 := w₀.2.2.2 k₀ k0₀ k1₀
      have w18 : gi N (gr N m₀ 36) k₀.toNat = s0₀ k₀ := by rw [a36]; exact w17
      generalize s0₀ k₀ = u₀ at *
      clear nex e₀ hn w₀ sb₀ hid₀ hs1 hs2 h2
      refine hK₀ _ _ _ _ _ ?_
      (repeat' (((conv => whnf); first | (show (_ : Option mg_V) = _ ∧ _; assumption) | (show K _ _ _ _ _; assumption) | refine And.intro (by first | assumption | omega | (simp only [true_and, a36, b36, c36₀, a6, b6, c6₀, kd_si, ln_si, gr_si]; first | done | assumption | omega)) ?_ | (refine And.intro (fun _ => ?_) (fun _ => ?_) <;> first | (exfalso; omega) | skip) | intro _ | fail)))
      all_goals ((conv => whnf); refine nex2 _ ?_; split <;> omega)
  have rcP : ∀ N, mm_f (mm_sB m₀) M N → gi N m₀ 1 = gi M m₀ 1 → gi N m₀ 2 = gi M m₀ 2 → mm_rc N m₀ := by
    intro N f₀ e1₀ e2₀
    unfold mm_rc
    rw [e1₀, e2₀]
    exact rc
  have IS : ∀ P N z₀ k₀ s₀, mm_kk M P m₀ → mm_sw M P N m₀ s₀ → mh_so2 (mi_key M m₀ x₀) (gi M m₀ 3) (gi M m₀ 1) s₀ → gi M m₀ 3 ≤ k₀ → k₀ < gi M m₀ 1 - 1 → mh_sd (mi_key M m₀ x₀) y₀ (gi M m₀ 3) (gi M m₀ 1) z₀ s₀ → mh_fr (mi_key M m₀ x₀) y₀ (gi M m₀ 3) k₀ s₀ → (z₀ - 1 ≤ k₀ → mh_sd (mi_key M m₀ x₀) y₀ (gi M m₀ 3) (gi M m₀ 1) (z₀ - 1) s₀) → (∀ N' s', mm_sw M P N' m₀ s' → mh_so2 (mi_key M m₀ x₀) (gi M m₀ 3) (gi M m₀ 1) s' → mh_sd (mi_key M m₀ x₀) y₀ (gi M m₀ 3) (gi M m₀ 1) z₀ s' → mh_fr (mi_key M m₀ x₀) y₀ (gi M m₀ 3) (k₀ + 1) s' → (z₀ - 1 ≤ k₀ + 1 → mh_sd (mi_key M m₀ x₀) y₀ (gi M m₀ 3) (gi M m₀ 1) (z₀ - 1) s') → K 106 [(0, Sum.inr (Sum.inl m₀)), (1, Sum.inl x₀), (2, Sum.inl y₀), (3, Sum.inl (gi M m₀ 1 - z₀ + gi M m₀ 3)), (4, Sum.inl (k₀ + 1))] [] N' 0) → K 106 [(0, Sum.inr (Sum.inl m₀)), (1, Sum.inl x₀), (2, Sum.inl y₀), (3, Sum.inl (gi M m₀ 1 - z₀ + gi M m₀ 3)), (4, Sum.inl k₀)] [] N 0 := by
    intro P N z₀ k₀ s₀ kk w₀ so k0₀ k1₀ sd fr₀ sz₀ nex
    have f3₀ := kk.1
    have f5₀ := w₀.1
    have stN₀ := mm_f_st f5₀ (mm_f_st f3₀ st₀)
    have k7N := stN₀.1
    have t1₀ := (mm_f_gi f5₀ m₀ 1 (by omega)).trans (mm_f_gi f3₀ m₀ 1 (by omega))
    have t2₀ := (mm_f_gi f5₀ m₀ 2 (by omega)).trans (mm_f_gi f3₀ m₀ 2 (by omega))
    have rcN₀ := rcP N (mm_f_tr (mm_f_mono f3₀ (fun b₀ k₀ z₀ => by omega)) (mm_f_mono f5₀ (fun b₀ k₀ z₀ => by omega))) t1₀ t2₀
    obtain ⟨a6, b6, c6₀⟩ := stN₀.2.1.2.1
    obtain ⟨a36, b36, c36₀⟩ := stN₀.2.2.2.2.2.2.2
    have sk := so.2.1 k₀ k0₀ (by omega)
    have sk1 := so.2.1 (k₀ + 1) (by omega) (by omega)
    have i1₀ := w₀.2.1 k₀ x₀ (by omega) h₀
    have i2₀ := w₀.2.1 (k₀ + 1) x₀ (by omega) h₀
    have b1 := hid₀ (s₀ k₀) x₀ (by omega)
    have b2 := hid₀ (s₀ (k₀ + 1)) x₀ (by omega)
    have v1₀ : gi N (m₀ + 2) (mi M (m₀ + 1) (s₀ k₀) x₀).toNat = mi_key M m₀ x₀ (s₀ k₀) := (mm_f_gi f5₀ (m₀ + 2) _ (by omega)).trans (mm_f_gi f3₀ (m₀ + 2) _ (by omega))
    have v2 : gi N (m₀ + 2) (mi M (m₀ + 1) (s₀ (k₀ + 1)) x₀).toNat = mi_key M m₀ x₀ (s₀ (k₀ + 1)) := (mm_f_gi f5₀ (m₀ + 2) _ (by omega)).trans (mm_f_gi f3₀ (m₀ + 2) _ (by omega))
    have ne₀ : s₀ k₀ ≠ s₀ (k₀ + 1) := fun e₀ => by have := so.2.2.1 k₀ (k₀ + 1) k0₀ (by omega) (by omega) (by omega) e₀; omega
    have sti := so.2.2.2 k₀ (k₀ + 1) k0₀ (by omega) (by omega)
    have q1₀ := w₀.2.2.2 k₀ (by omega) (by omega)
    have q2₀ := w₀.2.2.2 (k₀ + 1) (by omega) (by omega)
    have A₀ : ¬ (if y₀ ≠ 0 then mi_key M m₀ x₀ (s₀ (k₀ + 1)) < mi_key M m₀ x₀ (s₀ k₀) else mi_key M m₀ x₀ (s₀ k₀) < mi_key M m₀ x₀ (s₀ (k₀ + 1))) → K 106 [(0, Sum.inr (Sum.inl m₀)), (1, Sum.inl x₀), (2, Sum.inl y₀), (3, Sum.inl (gi M m₀ 1 - z₀ + gi M m₀ 3)), (4, Sum.inl (k₀ + 1))] [] N 0 := by
      intro hc₀
      have lt₀ : mh_lt (mi_key M m₀ x₀) y₀ (s₀ k₀) (s₀ (k₀ + 1)) := by
        unfold mh_lt
        generalize mi_key M m₀ x₀ (s₀ k₀) = e1₀ at *
        generalize mi_key M m₀ x₀ (s₀ (k₀ + 1)) = e2₀ at *
        split <;> rename_i c₀
        · rw [if_pos c₀] at hc₀; omega
        · rw [if_neg c₀] at hc₀; omega
      refine nex N s₀ w₀ so sd (mh_fr_st fr₀ lt₀) (fun hz => ?_)
      by_cases c₀ : z₀ - 1 ≤ k₀
      · exact sz₀ c₀
      · intro p₀ q₀ p1₀ p2₀ p3₀ p4₀
        by_cases c2₀ : q₀ = k₀ + 1
        · rw [c2₀]; exact mh_fr_st fr₀ lt₀ p₀ p1₀ (by omega)
        · exact sd p₀ q₀ p1₀ p2₀ (by omega) p4₀
    have B₀ : ∀ N', mm_f (fun b₀ _ => b₀ = m₀ + 1 ∨ b₀ = m₀ + 5) N N' → (∀ i₀ : Nat, gi N' (m₀ + 5) i₀ = gi N (m₀ + 5) (mh_sw k₀ i₀).toNat) → (∀ i₀ j₀, 0 ≤ i₀ → 0 ≤ j₀ ∧ j₀ < gi M m₀ 2 → mi N' (m₀ + 1) i₀ j₀ = mi N (m₀ + 1) (mh_sw k₀ i₀) j₀) → (if y₀ ≠ 0 then mi_key M m₀ x₀ (s₀ (k₀ + 1)) < mi_key M m₀ x₀ (s₀ k₀) else mi_key M m₀ x₀ (s₀ k₀) < mi_key M m₀ x₀ (s₀ (k₀ + 1))) → K 106 [(0, Sum.inr (Sum.inl m₀)), (1, Sum.inl x₀), (2, Sum.inl y₀), (3, Sum.inl (gi M m₀ 1 - z₀ + gi M m₀ 3)), (4, Sum.inl (k₀ + 1))] [] (si (si N' (m₀ + 17) k₀.toNat (s₀ (k₀ + 1))) (m₀ + 17) (k₀ + 1).toNat (s₀ k₀)) 0 := by
      intro N' fN₀ e5₀ e1₀ hc₀
      have lt₀ : mh_lt (mi_key M m₀ x₀) y₀ (s₀ (k₀ + 1)) (s₀ k₀) := by
        unfold mh_lt
        generalize mi_key M m₀ x₀ (s₀ k₀) = e1₀ at *
        generalize mi_key M m₀ x₀ (s₀ (k₀ + 1)) = e2₀ at *
        split <;> rename_i c₀
        · rw [if_pos c₀] at hc₀; omega
        · rw [if_neg c₀] at hc₀; omega
      have nlt := mh_lt_no lt₀
      obtain ⟨sd2, kz⟩ := mh_sd_sw ⟨k0₀, by omega⟩ so sd nlt
      refine nex _ _ (mm_sw1 ⟨by omega, by omega⟩ w₀ fN₀ e5₀ e1₀) (mh_so2_sw ⟨k0₀, by omega⟩ so hc₀) sd2 (mh_fr_sw fr₀ lt₀) (fun hz => ?_)
      intro p₀ q₀ p1₀ p2₀ p3₀ p4₀
      by_cases c2₀ : q₀ = k₀ + 1
      · rw [c2₀]; exact mh_fr_sw fr₀ lt₀ p₀ p1₀ (by omega)
      · exact sd2 p₀ q₀ p1₀ p2₀ (by omega) p4₀
    have ek : ∀ a₀, a₀ = s₀ k₀ → gi N (gr N m₀ 36) k₀.toNat = a₀ := fun a₀ ha₀ => by rw [a36, ha₀]; exact q1₀
    clear nex sd fr₀ sz₀ so sb₀ hid₀ hs1 hs2 h2 FE w₀
    generalize mi_key M m₀ x₀ (s₀ k₀) = e1₀ at *
    generalize mi_key M m₀ x₀ (s₀ (k₀ + 1)) = e2₀ at *
    have z1 : gi N (gr N m₀ 6) (mi M (m₀ + 1) (s₀ k₀) x₀).toNat = e1₀ := by rw [a6]; exact v1₀
    have z2 : gi N (gr N m₀ 6) (mi M (m₀ + 1) (s₀ (k₀ + 1)) x₀).toNat = e2₀ := by rw [a6]; exact v2
    refine hK₀ _ _ _ _ _ ?_
    (repeat' (((conv => whnf); first | (show (_ : Option mg_V) = _ ∧ _; assumption) | (show K _ _ _ _ _; assumption) | refine And.intro (by first | assumption | omega | (simp only [true_and, a36, b36, c36₀, a6, b6, c6₀, kd_si, ln_si, gr_si]; first | done | assumption | omega)) ?_ | (refine And.intro (fun _ => ?_) (fun _ => ?_) <;> first | (exfalso; omega) | skip) | intro _ | fail)))
    (conv => whnf)
    (refine Exists.intro _ (Exists.intro _ (And.intro (cX6_id hl stN₀ (by omega) (by omega)) (And.intro ?_ (fun _ _ h₀ => h₀.elim)))); rintro _ _ ⟨rfl, e₀⟩; have e2₀ := e₀.symm; clear e₀; subst e2₀)
    rw [i1₀]
    (repeat' (((conv => whnf); first | (show (_ : Option mg_V) = _ ∧ _; assumption) | (show K _ _ _ _ _; assumption) | refine And.intro (by first | assumption | omega | (simp only [true_and, a36, b36, c36₀, a6, b6, c6₀, kd_si, ln_si, gr_si]; first | done | assumption | omega)) ?_ | (refine And.intro (fun _ => ?_) (fun _ => ?_) <;> first | (exfalso; omega) | skip) | intro _ | fail)))
    (conv => whnf)
    rw [z1]
    (refine Exists.intro _ (Exists.intro _ (And.intro (cX6_id hl stN₀ (by omega) (by omega)) (And.intro ?_ (fun _ _ h₀ => h₀.elim)))); rintro _ _ ⟨rfl, e₀⟩; have e2₀ := e₀.symm; clear e₀; subst e2₀)
    rw [i2₀]
    (repeat' (((conv => whnf); first | (show (_ : Option mg_V) = _ ∧ _; assumption) | (show K _ _ _ _ _; assumption) | refine And.intro (by first | assumption | omega | (simp only [true_and, a36, b36, c36₀, a6, b6, c6₀, kd_si, ln_si, gr_si]; first | done | assumption | omega)) ?_ | (refine And.intro (fun _ => ?_) (fun _ => ?_) <;> first | (exfalso; omega) | skip) | intro _ | fail)))
    all_goals (try ((conv => whnf); rw [z2]))
    (repeat' (((conv => whnf); first | (show (_ : Option mg_V) = _ ∧ _; assumption) | (show K _ _ _ _ _; assumption) | refine And.intro (by first | assumption | omega | (simp only [true_and, a36, b36, c36₀, a6, b6, c6₀, kd_si, ln_si, gr_si]; first | done | assumption | omega)) ?_ | (refine And.intro (fun _ => ?_) (fun _ => ?_) <;> first | (exfalso; omega) | skip) | intro _ | fail)))
    all_goals ((conv => whnf); skip)
    all_goals (first
      | (refine A₀ (fun hc₀ => ?_); split at hc₀ <;> omega)
      | (refine Exists.intro _ (Exists.intro _ (And.intro (cX6_exchanges hl stN₀ rcN₀ (by omega)) (And.intro ?_ (fun _ _ h₀ => h₀.elim))))
         rintro _ N' ⟨rfl, g1, g2, g3₀⟩
         rw [t2₀] at g3₀
         have stN' := mm_f_st g1 stN₀
         have k7N' := stN'.1
         obtain ⟨a36, b36, c36₀⟩ := stN'.2.2.2.2.2.2.2
         have q3₀ : gi N' (m₀ + 17) k₀.toNat = s₀ k₀ := (mm_f_gi g1 (m₀ + 17) _ (by omega)).trans q1₀
         have q4₀ : gi N' (m₀ + 17) (k₀ + 1).toNat = s₀ (k₀ + 1) := (mm_f_gi g1 (m₀ + 17) _ (by omega)).trans q2₀
         have w₀ := B₀ N' g1 g2 g3₀ (by by_cases c₀ : y₀ ≠ 0; (rw [if_pos c₀]; omega); (rw [if_neg c₀]; omega))
         clear A₀ B₀ g2 g3₀ q1₀ q2₀
         (repeat' (((conv => whnf); first | (show (_ : Option mg_V) = _ ∧ _; assumption) | (show K _ _ _ _ _; assumption) | refine And.intro (by first | assumption | omega | (simp only [true_and, a36, b36, c36₀, a6, b6, c6₀, kd_si, ln_si, gr_si]; first | done | assumption | omega)) ?_ | (refine And.intro (fun _ => ?_) (fun _ => ?_) <;> first | (exfalso; omega) | skip) | intro _ | fail)))
         all_goals ((conv => whnf); simp only [gr_si, a36, q3₀, q4₀]; exact w₀)))
  have RL₀ : ∀ P N, mm_kk M P m₀ → mm_sw M P N m₀ (fun i₀ => i₀) → K 92 [(0, Sum.inr (Sum.inl m₀)), (1, Sum.inl x₀), (2, Sum.inl y₀), (3, Sum.inl (gi M m₀ 3))] [] N 0 := by
    intro P N kk w₀
    have f3₀ := kk.1
    refine mh_for (P := fun r₀ N => ∃ s₀, mm_sw M P N m₀ s₀ ∧ mh_so2 (mi_key M m₀ x₀) (gi M m₀ 3) (gi M m₀ 1) s₀ ∧ mh_sd (mi_key M m₀ x₀) y₀ (gi M m₀ 3) (gi M m₀ 1) (gi M m₀ 1 - r₀ + gi M m₀ 3) s₀) (G := fun r₀ N => K 92 [(0, Sum.inr (Sum.inl m₀)), (1, Sum.inl x₀), (2, Sum.inl y₀), (3, Sum.inl r₀)] [] N 0) (hi := gi M m₀ 1) (by omega) ?_ ?_ N ⟨fun i₀ => i₀, w₀, ⟨fun p₀ _ => rfl, fun p₀ h1 h2 => ⟨h1, h2⟩, fun p₀ q₀ _ _ _ _ e₀ => e₀, fun p₀ q₀ _ h1 _ _ => h1⟩, fun p₀ q₀ h1 h2 h3 h4 => by omega⟩
    · rintro N ⟨s₀, w₀, so, sd⟩
      rw [show gi M m₀ 1 - gi M m₀ 1 + gi M m₀ 3 = gi M m₀ 3 by omega] at sd
      have e₀ := mh_so1 so sd hs1 hs2
      subst e₀
      have g₀ := FE P N kk w₀
      have f5₀ := w₀.1
      have k7N := (mm_f_st f5₀ (mm_f_st f3₀ st₀)).1
      have t1₀ := (mm_f_gi f5₀ m₀ 1 (by omega)).trans (mm_f_gi f3₀ m₀ 1 (by omega))
      clear FE IS w₀ so sd sb₀ hid₀ hs1 hs2 h2
      refine hK₀ _ _ _ _ _ ?_
      (repeat' (((conv => whnf); first | (show (_ : Option mg_V) = _ ∧ _; assumption) | (show K _ _ _ _ _; assumption) | refine And.intro (by first | assumption | omega | (simp only [true_and, a36, b36, c36₀, a6, b6, c6₀, kd_si, ln_si, gr_si]; first | done | assumption | omega)) ?_ | (refine And.intro (fun _ => ?_) (fun _ => ?_) <;> first | (exfalso; omega) | skip) | intro _ | fail)))
    · rintro r₀ N r1₀ r2 ⟨s₀, w₀, so, sd⟩ nex
      have g₀ : K 106 [(0, Sum.inr (Sum.inl m₀)), (1, Sum.inl x₀), (2, Sum.inl y₀), (3, Sum.inl r₀), (4, Sum.inl (gi M m₀ 3))] [] N 0 := by
        refine mh_for (P := fun k₀ N => ∃ s₀, mm_sw M P N m₀ s₀ ∧ mh_so2 (mi_key M m₀ x₀) (gi M m₀ 3) (gi M m₀ 1) s₀ ∧ mh_sd (mi_key M m₀ x₀) y₀ (gi M m₀ 3) (gi M m₀ 1) (gi M m₀ 1 - r₀ + gi M m₀ 3) s₀ ∧ mh_fr (mi_key M m₀ x₀) y₀ (gi M m₀ 3) k₀ s₀ ∧ (gi M m₀ 1 - r₀ + gi M m₀ 3 - 1 ≤ k₀ → mh_sd (mi_key M m₀ x₀) y₀ (gi M m₀ 3) (gi M m₀ 1) (gi M m₀ 1 - r₀ + gi M m₀ 3 - 1) s₀)) (G := fun k₀ N => K 106 [(0, Sum.inr (Sum.inl m₀)), (1, Sum.inl x₀), (2, Sum.inl y₀), (3, Sum.inl r₀), (4, Sum.inl k₀)] [] N 0) (hi := gi M m₀ 1 - 1) (by omega) ?_ ?_ N ⟨s₀, w₀, so, sd, fun p₀ h1 h2 => by omega, fun hz p₀ q₀ h1 h2 h3 h4 => sd p₀ q₀ h1 h2 (by omega) h4⟩
        · rintro N ⟨s₀, w₀, so, sd, fr₀, sz₀⟩
          have g₀ := nex N ⟨s₀, w₀, so, by rw [show gi M m₀ 1 - (r₀ + 1) + gi M m₀ 3 = gi M m₀ 1 - r₀ + gi M m₀ 3 - 1 by omega]; exact sz₀ (by omega)⟩
          have f5₀ := w₀.1
          have k7N := (mm_f_st f5₀ (mm_f_st f3₀ st₀)).1
          have t1₀ := (mm_f_gi f5₀ m₀ 1 (by omega)).trans (mm_f_gi f3₀ m₀ 1 (by omega))
          clear FE IS w₀ so sd fr₀ sz₀ nex sb₀ hid₀ hs1 hs2 h2
          refine hK₀ _ _ _ _ _ ?_
          (repeat' (((conv => whnf); first | (show (_ : Option mg_V) = _ ∧ _; assumption) | (show K _ _ _ _ _; assumption) | refine And.intro (by first | assumption | omega | (simp only [true_and, a36, b36, c36₀, a6, b6, c6₀, kd_si, ln_si, gr_si]; first | done | assumption | omega)) ?_ | (refine And.intro (fun _ => ?_) (fun _ => ?_) <;> first | (exfalso; omega) | skip) | intro _ | fail)))
        · rintro k₀ N k0₀ k1₀ ⟨s₀, w₀, so, sd, fr₀, sz₀⟩ nex2
          have g₀ := IS P N (gi M m₀ 1 - r₀ + gi M m₀ 3) k₀ s₀ kk w₀ so k0₀ k1₀ sd fr₀ sz₀
          rw [show gi M m₀ 1 - (gi M m₀ 1 - r₀ + gi M m₀ 3) + gi M m₀ 3 = r₀ by omega] at g₀
          exact g₀ (fun N' s' w' so' sd' fr' sz' => nex2 N' ⟨s', w', so', sd', fr', sz'⟩)
      have f5₀ := w₀.1
      have k7N := (mm_f_st f5₀ (mm_f_st f3₀ st₀)).1
      have t1₀ := (mm_f_gi f5₀ m₀ 1 (by omega)).trans (mm_f_gi f3₀ m₀ 1 (by omega))
      have t3₀ := (mm_f_gi f5₀ m₀ 3 (by omega)).trans (mm_f_gi f3₀ m₀ 3 (by omega))
      rw [← t3₀] at g₀
      clear FE IS w₀ so sd nex sb₀ hid₀ hs1 hs2 h2
      refine hK₀ _ _ _ _ _ ?_
      (repeat' (((conv => whnf); first | (show (_ : Option mg_V) = _ ∧ _; assumption) | (show K _ _ _ _ _; assumption) | refine And.intro (by first | assumption | omega | (simp only [true_and, a36, b36, c36₀, a6, b6, c6₀, kd_si, ln_si, gr_si]; first | done | assumption | omega)) ?_ | (refine And.intro (fun _ => ?_) (fun _ => ?_) <;> first | (exfalso; omega) | skip) | intro _ | fail)))
  have WL₀ : ∀ P, mm_kk M P m₀ → K 66 [(0, Sum.inr (Sum.inl m₀)), (1, Sum.inl x₀), (2, Sum.inl y₀), (3, Sum.inl 0)] [] P 0 := by
    intro P kk
    have f3₀ := kk.1
    have stP := mm_f_st f3₀ st₀
    refine mh_for (P := fun k₀ N => mm_f (fun b₀ _ => b₀ = m₀ + 17) P N ∧ ∀ i₀, 0 ≤ i₀ → i₀ < k₀ → gi N (m₀ + 17) i₀.toNat = i₀) (G := fun k₀ N => K 66 [(0, Sum.inr (Sum.inl m₀)), (1, Sum.inl x₀), (2, Sum.inl y₀), (3, Sum.inl k₀)] [] N 0) (lo := 0) (hi := gi M m₀ 1) (by omega) ?_ ?_ P ⟨mm_f_rfl, fun i₀ h0 h1 => by omega⟩
    · rintro N ⟨f₀, v₀⟩
      have k7N := (mm_f_st f₀ stP).1
      have t1₀ := (mm_f_gi f₀ m₀ 1 (by omega)).trans (mm_f_gi f3₀ m₀ 1 (by omega))
      have t3₀ := (mm_f_gi f₀ m₀ 3 (by omega)).trans (mm_f_gi f3₀ m₀ 3 (by omega))
      have g₀ := RL₀ P N kk ⟨mm_f_mono f₀ (fun b₀ k₀ z₀ => by omega), fun i₀ j₀ hi hj => (mm_f_gi f₀ (m₀ + 1) _ (by omega)).trans (mm_f_gi f3₀ (m₀ + 1) _ (by omega)), fun i₀ hi => (mm_f_gi f₀ (m₀ + 5) _ (by omega)).trans (mm_f_gi f3₀ (m₀ + 5) _ (by omega)), v₀⟩
      rw [← t3₀] at g₀
      clear FE IS RL₀ v₀ sb₀ hid₀ hs1 hs2 h2
      refine hK₀ _ _ _ _ _ ?_
      (repeat' (((conv => whnf); first | (show (_ : Option mg_V) = _ ∧ _; assumption) | (show K _ _ _ _ _; assumption) | refine And.intro (by first | assumption | omega | (simp only [true_and, a36, b36, c36₀, a6, b6, c6₀, kd_si, ln_si, gr_si]; first | done | assumption | omega)) ?_ | (refine And.intro (fun _ => ?_) (fun _ => ?_) <;> first | (exfalso; omega) | skip) | intro _ | fail)))
    · rintro k₀ N k0₀ k1₀ ⟨f₀, v₀⟩ nex
      have stN₀ := mm_f_st f₀ stP
      have k7N := stN₀.1
      have t1₀ := (mm_f_gi f₀ m₀ 1 (by omega)).trans (mm_f_gi f3₀ m₀ 1 (by omega))
      obtain ⟨a36, b36, c36₀⟩ := stN₀.2.2.2.2.2.2.2
      have g₀ := nex (si N (m₀ + 17) k₀.toNat k₀) ⟨mm_f_si f₀ rfl, fun i₀ h0 h1 => by
        rw [gi_si]
        by_cases e₀ : i₀ = k₀
        · rw [if_pos ⟨rfl, by omega⟩, e₀]
        · rw [if_neg (by omega)]; exact v₀ i₀ h0 (by omega)⟩
      clear FE IS RL₀ v₀ nex sb₀ hid₀ hs1 hs2 h2
      refine hK₀ _ _ _ _ _ ?_
      (repeat' (((conv => whnf); first | (show (_ : Option mg_V) = _ ∧ _; assumption) | (show K _ _ _ _ _; assumption) | refine And.intro (by first | assumption | omega | (simp only [true_and, a36, b36, c36₀, a6, b6, c6₀, kd_si, ln_si, gr_si]; first | done | assumption | omega)) ?_ | (refine And.intro (fun _ => ?_) (fun _ => ?_) <;> first | (exfalso; omega) | skip) | intro _ | fail)))
      all_goals ((conv => whnf); rw [a36]; exact g₀)
  clear FE IS RL₀
  by_cases c₀ : gi M m₀ 3 < gi M m₀ 1
  · have td := cX6_isTied (D := D) (x₀ := gi M m₀ 3) (y₀ := gi M m₀ 1 - 1) hl st₀ rc (by omega)
    rw [mh_pr0 (fun z₀ => h2 ⟨c₀, z₀⟩)] at td
    clear h2 sb₀ hid₀ hs1 hs2
    refine hK₀ _ _ _ _ _ ?_
    (repeat' (((conv => whnf); first | (show (_ : Option mg_V) = _ ∧ _; assumption) | (show K _ _ _ _ _; assumption) | refine And.intro (by first | assumption | omega | (simp only [true_and, a36, b36, c36₀, a6, b6, c6₀, kd_si, ln_si, gr_si]; first | done | assumption | omega)) ?_ | (refine And.intro (fun _ => ?_) (fun _ => ?_) <;> first | (exfalso; omega) | skip) | intro _ | fail)))
    all_goals (try ((conv => whnf); (refine Exists.intro _ (Exists.intro _ (And.intro (cX6_in hl) (And.intro ?_ (fun _ _ h₀ => h₀.elim)))); rintro _ _ ⟨rfl, e₀⟩; have e2₀ := e₀.symm; clear e₀; subst e2₀); (repeat' (((conv => whnf); first | (show (_ : Option mg_V) = _ ∧ _; assumption) | (show K _ _ _ _ _; assumption) | refine And.intro (by first | assumption | omega | (simp only [true_and, a36, b36, c36₀, a6, b6, c6₀, kd_si, ln_si, gr_si]; first | done | assumption | omega)) ?_ | (refine And.intro (fun _ => ?_) (fun _ => ?_) <;> first | (exfalso; omega) | skip) | intro _ | fail)))))
    all_goals (try ((conv => whnf); (refine Exists.intro _ (Exists.intro _ (And.intro (td) (And.intro ?_ (fun _ _ h₀ => h₀.elim)))); rintro _ _ ⟨rfl, e₀⟩; have e2₀ := e₀.symm; clear e₀; subst e2₀); (repeat' (((conv => whnf); first | (show (_ : Option mg_V) = _ ∧ _; assumption) | (show K _ _ _ _ _; assumption) | refine And.intro (by first | assumption | omega | (simp only [true_and, a36, b36, c36₀, a6, b6, c6₀, kd_si, ln_si, gr_si]; first | done | assumption | omega)) ?_ | (refine And.intro (fun _ => ?_) (fun _ => ?_) <;> first | (exfalso; omega) | skip) | intro _ | fail)))))
    all_goals (try ((conv => whnf); (refine Exists.intro _ (Exists.intro _ (And.intro (cX6_fails hl k7₀) (And.intro ?_ (fun _ _ h₀ => h₀.elim)))); rintro _ _ ⟨rfl, e₀⟩; have e2₀ := e₀.symm; clear e₀; subst e2₀); (repeat' (((conv => whnf); first | (show (_ : Option mg_V) = _ ∧ _; assumption) | (show K _ _ _ _ _; assumption) | refine And.intro (by first | assumption | omega | (simp only [true_and, a36, b36, c36₀, a6, b6, c6₀, kd_si, ln_si, gr_si]; first | done | assumption | omega)) ?_ | (refine And.intro (fun _ => ?_) (fun _ => ?_) <;> first | (exfalso; omega) | skip) | intro _ | fail)))))
    (conv => whnf)
    refine Exists.intro _ (Exists.intro _ (And.intro (cX6_keeps0 hl st₀) (And.intro ?_ (fun _ _ h₀ => h₀.elim))))
    rintro _ P ⟨rfl, kk⟩
    have w₀ := WL₀ P kk
    (repeat' (((conv => whnf); first | (show (_ : Option mg_V) = _ ∧ _; assumption) | (show K _ _ _ _ _; assumption) | refine And.intro (by first | assumption | omega | (simp only [true_and, a36, b36, c36₀, a6, b6, c6₀, kd_si, ln_si, gr_si]; first | done | assumption | omega)) ?_ | (refine And.intro (fun _ => ?_) (fun _ => ?_) <;> first | (exfalso; omega) | skip) | intro _ | fail)))
  · clear h2 sb₀ hid₀ hs1 hs2
    refine hK₀ _ _ _ _ _ ?_
    (repeat' (((conv => whnf); first | (show (_ : Option mg_V) = _ ∧ _; assumption) | (show K _ _ _ _ _; assumption) | refine And.intro (by first | assumption | omega | (simp only [true_and, a36, b36, c36₀, a6, b6, c6₀, kd_si, ln_si, gr_si]; first | done | assumption | omega)) ?_ | (refine And.intro (fun _ => ?_) (fun _ => ?_) <;> first | (exfalso; omega) | skip) | intro _ | fail)))
    all_goals (try ((conv => whnf); (refine Exists.intro _ (Exists.intro _ (And.intro (cX6_in hl) (And.intro ?_ (fun _ _ h₀ => h₀.elim)))); rintro _ _ ⟨rfl, e₀⟩; have e2₀ := e₀.symm; clear e₀; subst e2₀); (repeat' (((conv => whnf); first | (show (_ : Option mg_V) = _ ∧ _; assumption) | (show K _ _ _ _ _; assumption) | refine And.intro (by first | assumption | omega | (simp only [true_and, a36, b36, c36₀, a6, b6, c6₀, kd_si, ln_si, gr_si]; first | done | assumption | omega)) ?_ | (refine And.intro (fun _ => ?_) (fun _ => ?_) <;> first | (exfalso; omega) | skip) | intro _ | fail)))))
    all_goals (try ((conv => whnf); (refine Exists.intro _ (Exists.intro _ (And.intro (cX6_fails hl k7₀) (And.intro ?_ (fun _ _ h₀ => h₀.elim)))); rintro _ _ ⟨rfl, e₀⟩; have e2₀ := e₀.symm; clear e₀; subst e2₀); (repeat' (((conv => whnf); first | (show (_ : Option mg_V) = _ ∧ _; assumption) | (show K _ _ _ _ _; assumption) | refine And.intro (by first | assumption | omega | (simp only [true_and, a36, b36, c36₀, a6, b6, c6₀, kd_si, ln_si, gr_si]; first | done | assumption | omega)) ?_ | (refine And.intro (fun _ => ?_) (fun _ => ?_) <;> first | (exfalso; omega) | skip) | intro _ | fail)))))
    (conv => whnf)
    refine Exists.intro _ (Exists.intro _ (And.intro (cX6_keeps0 hl st₀) (And.intro ?_ (fun _ _ h₀ => h₀.elim))))
    rintro _ P ⟨rfl, kk⟩
    have w₀ := WL₀ P kk
    (repeat' (((conv => whnf); first | (show (_ : Option mg_V) = _ ∧ _; assumption) | (show K _ _ _ _ _; assumption) | refine And.intro (by first | assumption | omega | (simp only [true_and, a36, b36, c36₀, a6, b6, c6₀, kd_si, ln_si, gr_si]; first | done | assumption | omega)) ?_ | (refine And.intro (fun _ => ?_) (fun _ => ?_) <;> first | (exfalso; omega) | skip) | intro _ | fail)))
