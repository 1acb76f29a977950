theorem mh_fx_tl7 {M N : mg_M} {t₀ : Nat} (f₀ : mh_fx (t₀ + 127) M N) (tl : mh_tl M t₀) : mh_tl N t₀ ∧ (∀ r₀ c₀, mh_at N t₀ r₀ c₀ = mh_at M t₀ r₀ c₀) ∧ (∀ r₀ c₀, mh_co N t₀ r₀ c₀ = mh_co M t₀ r₀ c₀) ∧ gi N t₀ 0 = gi M t₀ 0 ∧ gi N t₀ 1 = gi M t₀ 1 ∧ gi N (t₀ + 3) 0 = gi M (t₀ + 3) 0 := by
  obtain ⟨ht, hc₀, hk, ha₀, hs⟩ := tl
  have g1 := ht.1.1
  have c4₀ := hc₀.1
  have b5 := ht.2.1.2.2.1.1
  have z₀ := hc₀.2.2.2.2.2.2.1
  have g8 := hc₀.2.2.2.2.2.2.2.1
  have nt : t₀ ≠ t₀ + 127 := by omega
  have nc : t₀ + 3 ≠ t₀ + 127 := by omega
  have no₀ : t₀ + 126 ≠ t₀ + 127 := by omega
  have na : ∀ i₀ : Nat, i₀ < 120 → gr M (t₀ + 3 + 1) i₀ ≠ t₀ + 127 := fun i₀ hi q₀ => by have := (g8 i₀ hi).2; omega
  have t0₀ := f₀.2.2.2.2.2.2 t₀ 0 nt
  have t1₀ := f₀.2.2.2.2.2.2 t₀ 1 nt
  have s0₀ := f₀.2.2.2.2.2.2 (t₀ + 3) 0 nc
  have e₀ := f₀.2.2.1
  have at' : ∀ r₀ c₀, mh_at N t₀ r₀ c₀ = mh_at M t₀ r₀ c₀ := fun r₀ c₀ => f₀.2.2.2.2.2.2 (t₀ + 126) _ no₀
  have ow : ∀ r₀ c₀, mh_ow N t₀ r₀ c₀ = mh_ow M t₀ r₀ c₀ := by
    intro r₀ c₀
    unfold mh_ow
    rw [t0₀, t1₀, f₀.2.2.2.2.2.2 (t₀ + 126) _ no₀]
  have ce : ∀ i₀ : Nat, (i₀ : Int) < gi M (t₀ + 3) 0 → ∀ k₀, gi N (gr M (t₀ + 3 + 1) i₀) k₀ = gi M (gr M (t₀ + 3 + 1) i₀) k₀ := fun i₀ hi k₀ => f₀.2.2.2.2.2.2 _ k₀ (na i₀ (by omega))
  have cv : ∀ i₀ : Nat, (i₀ : Int) < gi M (t₀ + 3) 0 → ∀ p₀ q₀, mh_cv N t₀ i₀ p₀ q₀ ↔ mh_cv M t₀ i₀ p₀ q₀ := by
    intro i₀ hi p₀ q₀
    unfold mh_cv
    rw [e₀, ce i₀ hi 0, ce i₀ hi 1, ce i₀ hi 2, ce i₀ hi 3]
  refine ⟨⟨mh_fx_tb f₀ nt ht, mh_fx_cL f₀ nc hc₀, ?_, ?_, ?_⟩, at', ?_, t0₀, t1₀, s0₀⟩
  · intro i₀ hi
    rw [s0₀] at hi
    have o := hk i₀ hi
    unfold mh_ok at *
    rw [e₀, ce i₀ hi 0, ce i₀ hi 1, ce i₀ hi 2, ce i₀ hi 3, t0₀, t1₀]
    exact o
  · intro i₀ hi p₀ q₀ hv
    rw [s0₀] at hi
    rw [at']
    exact ha₀ i₀ hi p₀ q₀ ((cv i₀ hi p₀ q₀).1 hv)
  · intro p₀ q₀ hp hp2 hq hq2
    rw [t0₀] at hp2
    rw [t1₀] at hq2
    rw [at', s0₀]
    cases hs p₀ q₀ hp hp2 hq hq2 with
    | inl y₀ => exact Or.inl y₀
    | inr y₀ =>
      obtain ⟨i₀, hi, hv⟩ := y₀
      exact Or.inr ⟨i₀, hi, (cv i₀ hi p₀ q₀).2 hv⟩
  · intro r₀ c₀
    unfold mh_co
    rw [e₀, ow]
theorem mh_sum_cg {f₀ g₀ : Nat → Int} (n₀ : Nat) (h₀ : ∀ k₀, k₀ < n₀ → f₀ k₀ = g₀ k₀) : mh_sum f₀ n₀ = mh_sum g₀ n₀ := by
  induction n₀ with
  | zero => rfl
  | succ n₀ ih₀ =>
    have e₀ : ∀ f₀ : Nat → Int, mh_sum f₀ (n₀ + 1) = mh_sum f₀ n₀ + f₀ n₀ := fun _ => rfl
    rw [e₀, e₀, ih₀ (fun k₀ hk => h₀ k₀ (by omega)), h₀ n₀ (by omega)]
def mh_ps (M : mg_M) (t₀ : Nat) (c₀ a₀ : Int) (i₀ : Nat) : Int := if gi M t₀ 2 ≤ (i₀ : Int) ∧ (i₀ : Int) < gi M t₀ 0 then gi M t₀ 2 + mh_sum (fun k₀ => mh_rb M t₀ c₀ i₀ a₀ (gi M t₀ 2 + k₀)) (gi M t₀ 0 - gi M t₀ 2).toNat else i₀
set_option maxRecDepth 100000 in
theorem cX4_planSort {D : mg_D} {l : Launch} (hl : l.stackTraces = false) {M : mg_M} {t₀ : Nat} {c₀ a₀ : Int} (tl : mh_tl M t₀) (nb : mh_nb M t₀) (hc₀ : 0 ≤ c₀ ∧ c₀ < gi M t₀ 1) (hh : gi M t₀ 2 ≤ gi M t₀ 0) : mg_Mt D l 55 [.inr (.inl t₀), .inl c₀, .inl a₀] M (fun v₀ N => v₀ = none ∧ mh_fx (t₀ + 127) M N ∧ ∀ i₀, i₀ < 12 → gi N (t₀ + 127) i₀ = mh_ps M t₀ c₀ a₀ i₀) mg_no := by
  refine mg_of2 hl ok_X4_planSort al_X4_planSort rfl (fun K hK₀ => ?_)
  have ht := tl.1
  have g1 := ht.1.1
  have g6 := ht.1.2.2.2.2.2.1
  have b7 := ht.2.1.2.2.2.1
  have bb := ht.2.2
  have L₀ : ∀ Z₀, mh_fx (t₀ + 127) M Z₀ ∧ (∀ k₀ : Nat, (k₀ : Int) < 0 → gi Z₀ (t₀ + 127) k₀ = mh_ps M t₀ c₀ a₀ k₀) → K 2 [(0, Sum.inr (Sum.inl t₀)), (1, Sum.inl c₀), (2, Sum.inl a₀), (3, Sum.inl 0)] [] Z₀ 0 := by
    refine mh_for (P := fun j₀ Z₀ => mh_fx (t₀ + 127) M Z₀ ∧ ∀ k₀ : Nat, (k₀ : Int) < j₀ → gi Z₀ (t₀ + 127) k₀ = mh_ps M t₀ c₀ a₀ k₀) (G := fun j₀ Z₀ => K 2 [(0, Sum.inr (Sum.inl t₀)), (1, Sum.inl c₀), (2, Sum.inl a₀), (3, Sum.inl j₀)] [] Z₀ 0) (lo := 0) (hi := 12) (by omega) ?_ ?_
    · rintro Z₀ ⟨f₀, v₀⟩
      have v2 : ∀ i₀, i₀ < 12 → gi Z₀ (t₀ + 127) i₀ = mh_ps M t₀ c₀ a₀ i₀ := fun i₀ hi => v₀ i₀ (by omega)
      have Q₀ : (none : Option mg_V) = none ∧ mh_fx (t₀ + 127) M Z₀ ∧ ∀ i₀, i₀ < 12 → gi Z₀ (t₀ + 127) i₀ = mh_ps M t₀ c₀ a₀ i₀ := ⟨rfl, f₀, v2⟩
      clear v₀ v2
      refine hK₀ _ _ _ _ _ ?_
      (repeat' (((conv => whnf); first | (show (_ : Option mg_V) = _ ∧ _; assumption) | (show K _ _ _ _ _; assumption) | (show mm_th _ _ _ _; assumption) | refine And.intro (by first | assumption | omega | (simp only [Int.toNat_natCast, true_and]; first | done | assumption | omega)) ?_ | (refine And.intro (fun _ => ?_) (fun _ => ?_) <;> first | (exfalso; omega) | skip) | intro _ | fail)))
    · rintro j₀ Z₀ j0 j1 ⟨f₀, v₀⟩ nex
      have k1₀ : kd Z₀ t₀ = 5 := by rw [f₀.1]; exact g1
      have k2₀ : gr Z₀ t₀ 7 = t₀ + 127 := by rw [f₀.2.2.1]; exact g6
      have k3₀ : gr Z₀ t₀ 7 ≠ 0 := by omega
      have k4₀ : kd Z₀ (gr Z₀ t₀ 7) = 8 := by rw [k2₀, f₀.1]; exact b7.1
      have k5₀ : ln Z₀ (gr Z₀ t₀ 7) = 12 := by rw [k2₀, f₀.2.1]; exact b7.2
      obtain ⟨tlZ, atZ, coZ, z0, z1, _⟩ := mh_fx_tl7 f₀ tl
      have z2 : gi Z₀ t₀ 2 = gi M t₀ 2 := f₀.2.2.2.2.2.2 t₀ 2 (by omega)
      have nbZ : mh_nb Z₀ t₀ := fun p₀ q₀ h1 h2 h3 h4 => by rw [atZ]; exact nb p₀ q₀ h1 (by omega) h3 (by omega)
      have ctZ : ∀ p₀ q₀, 0 ≤ p₀ ∧ p₀ < gi M t₀ 0 → 0 ≤ q₀ ∧ q₀ < gi M t₀ 1 → mh_ct Z₀ t₀ p₀ q₀ = mh_ct M t₀ p₀ q₀ := by
        intro p₀ q₀ hp hq
        unfold mh_ct
        rw [coZ]
        obtain ⟨i₀, hi, _, e₀⟩ := mh_tl_ow tl hp hq (nb p₀ q₀ hp.1 hp.2 hq.1 hq.2)
        have ne₀ : mh_co M t₀ p₀ q₀ ≠ t₀ + 127 := by
          unfold mh_co
          rw [e₀]
          have z₀ := tl.2.1.2.2.2.2.2.2.1
          have := (tl.2.1.2.2.2.2.2.2.2.1 i₀ (by omega)).2
          rw [Int.toNat_natCast]
          omega
        exact f₀.2.2.2.2.2.2 _ 4 ne₀
      have step₀ : ∀ x₀, x₀ = mh_ps M t₀ c₀ a₀ j₀.toNat → K 2 [(0, Sum.inr (Sum.inl t₀)), (1, Sum.inl c₀), (2, Sum.inl a₀), (3, Sum.inl (j₀ + 1))] [] (si Z₀ (t₀ + 127) j₀.toNat x₀) 0 := by
        intro x₀ hx
        refine nex _ ⟨mh_fx_tr f₀ mh_fx_si, fun k₀ hk => ?_⟩
        rw [gi_si]
        by_cases e₀ : k₀ = j₀.toNat
        · rw [e₀, if_pos ⟨rfl, rfl⟩]; exact hx
        · rw [if_neg (fun q₀ => e₀ q₀.2)]; exact v₀ k₀ (by omega)
      have w1₀ : ∀ y₀, (gi M t₀ 2 ≤ j₀ ∧ j₀ < gi M t₀ 0) → y₀ = gi M t₀ 2 + mh_sum (fun k₀ => mh_rb Z₀ t₀ c₀ j₀ a₀ (gi Z₀ t₀ 2 + k₀)) (gi Z₀ t₀ 0 - gi Z₀ t₀ 2).toNat → K 2 [(0, Sum.inr (Sum.inl t₀)), (1, Sum.inl c₀), (2, Sum.inl a₀), (3, Sum.inl (j₀ + 1))] [] (si Z₀ (t₀ + 127) j₀.toNat y₀) 0 := by
        intro y₀ h₀ hy
        refine step₀ y₀ ?_
        rw [hy]
        unfold mh_ps
        rw [if_pos (by omega), z2, z0, show ((j₀.toNat : Nat) : Int) = j₀ from by omega]
        congr 1
        refine mh_sum_cg _ (fun k₀ hk => ?_)
        show mh_rb Z₀ t₀ c₀ j₀ a₀ (gi M t₀ 2 + k₀) = mh_rb M t₀ c₀ j₀ a₀ (gi M t₀ 2 + k₀)
        unfold mh_rb
        rw [ctZ j₀ c₀ (by omega) hc₀, ctZ (gi M t₀ 2 + k₀) c₀ (by omega) hc₀]
      have w2₀ : ¬ (gi M t₀ 2 ≤ j₀ ∧ j₀ < gi M t₀ 0) → K 2 [(0, Sum.inr (Sum.inl t₀)), (1, Sum.inl c₀), (2, Sum.inl a₀), (3, Sum.inl (j₀ + 1))] [] (si Z₀ (t₀ + 127) j₀.toNat j₀) 0 := by
        intro h₀
        refine step₀ j₀ ?_
        unfold mh_ps
        rw [if_neg (by omega)]
        omega
      have rs := fun hr => @cX4_rowsSortedBefore D l hl Z₀ t₀ j₀ c₀ a₀ tlZ nbZ hr (by omega) (by omega)
      have sle := @mh_sum_le (fun k₀ => mh_rb Z₀ t₀ c₀ j₀ a₀ (gi Z₀ t₀ 2 + k₀)) 1 (gi Z₀ t₀ 0 - gi Z₀ t₀ 2).toNat (fun k₀ _ => by show 0 ≤ mh_rb Z₀ t₀ c₀ j₀ a₀ (gi Z₀ t₀ 2 + k₀) ∧ mh_rb Z₀ t₀ c₀ j₀ a₀ (gi Z₀ t₀ 2 + k₀) ≤ 1; unfold mh_rb; (repeat' split) <;> omega)
      clear step₀ nex v₀ ctZ tl nb tlZ nbZ atZ coZ b7
      refine hK₀ _ _ _ _ _ ?_
      (repeat' (((conv => whnf); first | (show (_ : Option mg_V) = _ ∧ _; assumption) | (show K _ _ _ _ _; assumption) | (show mm_th _ _ _ _; assumption) | refine And.intro (by first | assumption | omega | (simp only [Int.toNat_natCast, true_and]; first | done | assumption | omega)) ?_ | (refine And.intro (fun _ => ?_) (fun _ => ?_) <;> first | (exfalso; omega) | skip) | intro _ | fail)))
      all_goals ((conv => whnf); first | (rw [k2₀]; exact w2₀ (by omega)) | skip)
      all_goals (have rs2 := rs (by omega))
      (refine Exists.intro _ (Exists.intro _ (And.intro (rs2) (And.intro ?_ (fun _ _ h₀ => h₀.elim)))); rintro _ _ ⟨rfl, e₀⟩; have e2₀ := e₀.symm; clear e₀; subst e2₀)
      (repeat' (((conv => whnf); first | (show (_ : Option mg_V) = _ ∧ _; assumption) | (show K _ _ _ _ _; assumption) | (show mm_th _ _ _ _; assumption) | refine And.intro (by first | assumption | omega | (simp only [Int.toNat_natCast, true_and]; first | done | assumption | omega)) ?_ | (refine And.intro (fun _ => ?_) (fun _ => ?_) <;> first | (exfalso; omega) | skip) | intro _ | fail)))
      all_goals ((conv => whnf); try rw [k2₀])
      all_goals (refine w1₀ _ (by omega) ?_; rw [z2])
  have Q0₀ := L₀ M ⟨mh_fx_rfl, fun k₀ hk => by omega⟩
  clear L₀
  refine hK₀ _ _ _ _ _ ?_
  (repeat' (((conv => whnf); first | (show (_ : Option mg_V) = _ ∧ _; assumption) | (show K _ _ _ _ _; assumption) | (show mm_th _ _ _ _; assumption) | refine And.intro (by first | assumption | omega | (simp only [Int.toNat_natCast, true_and]; first | done | assumption | omega)) ?_ | (refine And.intro (fun _ => ?_) (fun _ => ?_) <;> first | (exfalso; omega) | skip) | intro _ | fail)))
