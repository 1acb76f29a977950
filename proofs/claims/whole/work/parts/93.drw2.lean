set_option maxRecDepth 100000 in
theorem cX4_dropRow {D : mg_D} {l : Launch} (hl : l.stackTraces = false) {M : mg_M} {t₀ : Nat} {x₀ : Int} (tl : mh_tl M t₀) (nb : mh_nb M t₀) (hx : 0 ≤ x₀ ∧ x₀ < gi M t₀ 0) (hh : 0 ≤ gi M t₀ 2 ∧ gi M t₀ 2 ≤ gi M t₀ 0) : mg_Mt D l 50 [.inr (.inl t₀), .inl x₀] M (fun v₀ N => v₀ = none ∧ mh_nv M N t₀ (gi M t₀ 0 - 1) (gi M t₀ 1) (gi M t₀ 2 - (if x₀ < gi M t₀ 2 then 1 else 0)) (mh_drG (mh_at M t₀) x₀) (mh_cn M t₀ 4) (mh_cn M t₀ 5) (fun k₀ => gi M (t₀ + 2) k₀.toNat) (mh_dh M (t₀ + 1) x₀)) mg_no := by
  refine mg_of2 hl ok_X4_dropRow al_X4_dropRow rfl (fun K hK₀ => ?_)
  have tb₀ := tl.1
  have cl₀ := tl.2.1
  have ok₀ := tl.2.2.1
  have own₀ := tl.2.2.2.1
  have bb := tb₀.2.2
  have z₀ := cl₀.2.2.2.2.2.2.1
  obtain ⟨n0₀, hn⟩ : ∃ n0₀ : Nat, gi M (t₀ + 3) 0 = n0₀ := ⟨(gi M (t₀ + 3) 0).toNat, by omega⟩
  have ca : ∀ i₀ : Nat, i₀ < n0₀ → kd M (gr M (t₀ + 3 + 1) i₀) = 3 ∧ t₀ + 6 ≤ gr M (t₀ + 3 + 1) i₀ ∧ gr M (t₀ + 3 + 1) i₀ < t₀ + 126 := fun i₀ hi => by have := cl₀.2.2.2.2.2.2.2.1 i₀ (by omega); exact ⟨this.1, by omega, by omega⟩
  have ci := cl₀.2.2.2.2.2.2.2.2
  have IT : ∀ Z1, mm_f (fun a₀ k₀ => (t₀ + 6 ≤ a₀ ∧ a₀ < t₀ + 126) ∧ (k₀ = 0 ∨ k₀ = 2)) M Z1 → (∀ i₀ : Nat, i₀ < n0₀ → gi Z1 (gr M (t₀ + 3 + 1) i₀) 0 = mh_vt x₀ (gi M (gr M (t₀ + 3 + 1) i₀) 0) ∧ gi Z1 (gr M (t₀ + 3 + 1) i₀) 2 = mh_vh x₀ (gi M (gr M (t₀ + 3 + 1) i₀) 0) (gi M (gr M (t₀ + 3 + 1) i₀) 2)) → K 2 [(0, Sum.inr (Sum.inl t₀)), (1, Sum.inl x₀), (2, Sum.inl (n0₀ : Int))] [] Z1 0 := by
    intro Z1 f1₀ v1₀
    have z1 := mm_f_gi f1₀ (t₀ + 3) 0 (by omega)
    have cl1 : mg_cL Z1 (t₀ + 3) := mh_fr_cL cl₀ f1₀.1 f1₀.2.1 f1₀.2.2.1 z1
    have cs1 : mg_cS Z1 (t₀ + 3) := by
      intro i₀ hi
      have c₀ := ca i₀ (by omega)
      have o := ok₀ i₀ (by omega)
      have v₀ := v1₀ i₀ (by omega)
      have e1₀ := mm_f_gi f1₀ (gr M (t₀ + 3 + 1) i₀) 1 (by omega)
      have e3₀ := mm_f_gi f1₀ (gr M (t₀ + 3 + 1) i₀) 3 (by omega)
      unfold mh_ok at o
      rw [f1₀.2.2.1]
      unfold mg_sm
      rw [v₀.1, v₀.2, e1₀, e3₀, f1₀.1]
      refine ⟨c₀.1, ?_, by omega⟩
      unfold mh_vt mh_vh
      clear ok₀ own₀ v1₀ ca ci
      (repeat' split) <;> omega
    obtain ⟨fX, clX, s1₀, s2₀⟩ := mh_rv_sp cl1
    have rv₀ := @cX3_removeVanished D l hl Z1 (t₀ + 3) cl1 cs1
    generalize hX : mh_rv (t₀ + 3) (gi Z1 (t₀ + 3) 0).toNat Z1 = X₀ at *
    clear hX
    have SE₀ := fun Z4 hd₀ hhd => @cX4_dropRowE D l hl M Z1 X₀ Z4 t₀ x₀ hd₀ tl nb hx hhd f1₀ (fun j₀ hj => v1₀ j₀ (by omega)) fX clX s1₀ s2₀
    have g1 : kd Z1 t₀ = 5 := (f1₀.1 t₀).trans tb₀.1.1
    have g5₀ : gr Z1 t₀ 5 = t₀ + 3 := (f1₀.2.2.1 t₀ 5).trans tb₀.1.2.2.2.1
    have g5n : gr Z1 t₀ 5 ≠ 0 := by omega
    have kc₀ : kd Z1 (gr Z1 t₀ 5) = 4 := by rw [g5₀]; exact (f1₀.1 _).trans cl₀.1
    have sz₀ : gi Z1 (gr Z1 t₀ 5) 0 = n0₀ := by rw [g5₀, z1]; exact hn
    have x1₀ : kd X₀ t₀ = 5 := (fX.1 t₀).trans g1
    have x3 : gr X₀ t₀ 3 = t₀ + 1 := (fX.2.2.1 t₀ 3 (by omega)).trans ((f1₀.2.2.1 t₀ 3).trans tb₀.1.2.1)
    have x3n : gr X₀ t₀ 3 ≠ 0 := by omega
    have kh : kd X₀ (t₀ + 1) = 8 := (fX.1 _).trans ((f1₀.1 _).trans tb₀.2.1.1.1)
    have lh : ln X₀ (t₀ + 1) = 12 := (fX.2.1 _).trans ((f1₀.2.1 _).trans tb₀.2.1.1.2)
    have rs := @cX4_removeSize D l hl X₀ (t₀ + 1) x₀.toNat x₀ (by omega) kh (by rw [lh]; omega) (by rw [lh]; omega)
    have r0 : gi X₀ t₀ 0 = gi M t₀ 0 := (fX.2.2.2.2.2.2 t₀ 0 (by omega)).trans (mm_f_gi f1₀ t₀ 0 (by omega))
    have r2 : gi X₀ t₀ 2 = gi M t₀ 2 := (fX.2.2.2.2.2.2 t₀ 2 (by omega)).trans (mm_f_gi f1₀ t₀ 2 (by omega))
    have rh : ∀ k₀ : Nat, gi X₀ (t₀ + 1) k₀ = gi M (t₀ + 1) k₀ := fun k₀ => (fX.2.2.2.2.2.2 (t₀ + 1) k₀ (by omega)).trans (mm_f_gi f1₀ (t₀ + 1) k₀ (by omega))
    clear v1₀ tl nb tb₀ cl₀ ok₀ own₀ ca ci cl1 cs1 fX clX s1₀ s2₀ f1₀
    refine hK₀ _ _ _ _ _ ?_
    (repeat' (((conv => whnf); first | (show (_ : Option mg_V) = _ ∧ _; assumption) | (show K _ _ _ _ _; assumption) | (show mm_th _ _ _ _; assumption) | refine And.intro (by first | assumption | omega | (simp only [true_and, kd_si, gr_si]; first | done | assumption | omega)) ?_ | (refine And.intro (fun _ => ?_) (fun _ => ?_) <;> first | (exfalso; omega) | skip) | intro _ | fail)))
    all_goals ((conv => whnf); try rw [g5₀])
    refine Exists.intro _ (Exists.intro _ (And.intro (rv₀) (And.intro ?_ (fun _ _ h₀ => h₀.elim))))
    rintro _ Y ⟨rfl, rfl⟩
    (repeat' (((conv => whnf); first | (show (_ : Option mg_V) = _ ∧ _; assumption) | (show K _ _ _ _ _; assumption) | (show mm_th _ _ _ _; assumption) | refine And.intro (by first | assumption | omega | (simp only [true_and, kd_si, gr_si]; first | done | assumption | omega)) ?_ | (refine And.intro (fun _ => ?_) (fun _ => ?_) <;> first | (exfalso; omega) | skip) | intro _ | fail)))
    all_goals ((conv => whnf); try rw [x3])
    refine Exists.intro _ (Exists.intro _ (And.intro (rs) (And.intro ?_ (fun _ _ h₀ => h₀.elim))))
    rintro _ Z2 ⟨rfl, fx, v2⟩
    rw [lh] at v2
    have f2₀ : mm_f (fun a₀ k₀ => a₀ = t₀ + 1 ∨ (a₀ = t₀ ∧ (k₀ = 0 ∨ k₀ = 2))) Y Z2 := mm_f_fx fx (fun k₀ => Or.inl rfl)
    have k2₀ : kd Z2 t₀ = 5 := (f2₀.1 t₀).trans x1₀
    have q0 : gi Z2 t₀ 0 = gi M t₀ 0 := (fx.2.2.2.2.2.2 t₀ 0 (by omega)).trans r0
    have q2₀ : gi Z2 t₀ 2 = gi M t₀ 2 := (fx.2.2.2.2.2.2 t₀ 2 (by omega)).trans r2
    clear rs rv₀ x1₀ x3 x3n kh lh
    (repeat' (((conv => whnf); first | (show (_ : Option mg_V) = _ ∧ _; assumption) | (show K _ _ _ _ _; assumption) | (show mm_th _ _ _ _; assumption) | refine And.intro (by first | assumption | omega | (simp only [true_and, kd_si, gr_si]; first | done | assumption | omega)) ?_ | (refine And.intro (fun _ => ?_) (fun _ => ?_) <;> first | (exfalso; omega) | skip) | intro _ | fail)))
    all_goals ((conv => whnf); generalize hZ3 : si Z2 t₀ 0 (gi Z2 t₀ 0 - 1) = Z3)
    have k3₀ : kd Z3 t₀ = 5 := by rw [← hZ3, kd_si]; exact k2₀
    have w0₀ : gi Z3 t₀ 0 = gi M t₀ 0 - 1 := by rw [← hZ3, gi_si, if_pos ⟨rfl, rfl⟩, q0]
    have w2₀ : gi Z3 t₀ 2 = gi M t₀ 2 := by rw [← hZ3, gi_si, if_neg (by omega)]; exact q2₀
    have f3₀ : mm_f (fun a₀ k₀ => a₀ = t₀ + 1 ∨ (a₀ = t₀ ∧ (k₀ = 0 ∨ k₀ = 2))) Y Z3 := by rw [← hZ3]; exact mm_f_si f2₀ (by omega)
    have vh : ∀ k₀, 0 ≤ k₀ → k₀ < gi M t₀ 0 - 1 → gi Z3 (t₀ + 1) k₀.toNat = mh_dh M (t₀ + 1) x₀ k₀ := by
      intro k₀ k0₀ k1₀
      rw [← hZ3, gi_si, if_neg (by omega), v2]
      unfold mh_dh
      rw [rh, rh]
      (repeat' split) <;> first | rfl | (exfalso; omega) | (congr 1; omega)
    clear hZ3 v2 rh fx f2₀
    (refine Exists.intro _ (Exists.intro _ (And.intro (cX4_isInHeader hl k3₀) (And.intro ?_ (fun _ _ h₀ => h₀.elim)))); rintro _ _ ⟨rfl, e₀⟩; have e2₀ := e₀.symm; clear e₀; subst e2₀)
    (repeat' (((conv => whnf); first | (show (_ : Option mg_V) = _ ∧ _; assumption) | (show K _ _ _ _ _; assumption) | (show mm_th _ _ _ _; assumption) | refine And.intro (by first | assumption | omega | (simp only [true_and, kd_si, gr_si]; first | done | assumption | omega)) ?_ | (refine And.intro (fun _ => ?_) (fun _ => ?_) <;> first | (exfalso; omega) | skip) | intro _ | fail)))
    all_goals ((conv => whnf); skip)
    · have g₀ := SE₀ Z3 (gi M t₀ 2 - (if x₀ < gi M t₀ 2 then 1 else 0)) (by split <;> omega) f3₀ w0₀ (by split <;> omega) vh
      clear SE₀
      refine Exists.intro _ (Exists.intro _ (And.intro (g₀) (And.intro ?_ (fun _ _ h₀ => h₀.elim))))
      rintro _ N9 ⟨rfl, Q1₀⟩
      have Q₀ := And.intro (Eq.refl (none : Option mg_V)) Q1₀
      (repeat' (((conv => whnf); first | (show (_ : Option mg_V) = _ ∧ _; assumption) | (show K _ _ _ _ _; assumption) | (show mm_th _ _ _ _; assumption) | refine And.intro (by first | assumption | omega | (simp only [true_and, kd_si, gr_si]; first | done | assumption | omega)) ?_ | (refine And.intro (fun _ => ?_) (fun _ => ?_) <;> first | (exfalso; omega) | skip) | intro _ | fail)))
    · have g₀ := SE₀ (si Z3 t₀ 2 (gi Z3 t₀ 2 - 1)) (gi M t₀ 2 - (if x₀ < gi M t₀ 2 then 1 else 0)) (by split <;> omega) (mm_f_si f3₀ (by omega)) (by rw [gi_si, if_neg (by omega)]; exact w0₀) (by rw [gi_si, if_pos ⟨rfl, rfl⟩]; split <;> omega) (fun k₀ k0₀ k1₀ => by rw [gi_si, if_neg (by omega)]; exact vh k₀ k0₀ k1₀)
      clear SE₀
      refine Exists.intro _ (Exists.intro _ (And.intro (g₀) (And.intro ?_ (fun _ _ h₀ => h₀.elim))))
      rintro _ N9 ⟨rfl, Q1₀⟩
      have Q₀ := And.intro (Eq.refl (none : Option mg_V)) Q1₀
      (repeat' (((conv => whnf); first | (show (_ : Option mg_V) = _ ∧ _; assumption) | (show K _ _ _ _ _; assumption) | (show mm_th _ _ _ _; assumption) | refine And.intro (by first | assumption | omega | (simp only [true_and, kd_si, gr_si]; first | done | assumption | omega)) ?_ | (refine And.intro (fun _ => ?_) (fun _ => ?_) <;> first | (exfalso; omega) | skip) | intro _ | fail)))
  have LP₀ : K 2 [(0, Sum.inr (Sum.inl t₀)), (1, Sum.inl x₀), (2, Sum.inl 0)] [] M 0 := by
    refine mh_for (P := fun j₀ Z₀ => mm_f (fun a₀ k₀ => (t₀ + 6 ≤ a₀ ∧ a₀ < t₀ + 126) ∧ (k₀ = 0 ∨ k₀ = 2)) M Z₀ ∧ ∀ i₀ : Nat, i₀ < n0₀ → ((i₀ : Int) < j₀ → gi Z₀ (gr M (t₀ + 3 + 1) i₀) 0 = mh_vt x₀ (gi M (gr M (t₀ + 3 + 1) i₀) 0) ∧ gi Z₀ (gr M (t₀ + 3 + 1) i₀) 2 = mh_vh x₀ (gi M (gr M (t₀ + 3 + 1) i₀) 0) (gi M (gr M (t₀ + 3 + 1) i₀) 2)) ∧ (j₀ ≤ i₀ → gi Z₀ (gr M (t₀ + 3 + 1) i₀) 0 = gi M (gr M (t₀ + 3 + 1) i₀) 0 ∧ gi Z₀ (gr M (t₀ + 3 + 1) i₀) 2 = gi M (gr M (t₀ + 3 + 1) i₀) 2)) (G := fun j₀ Z₀ => K 2 [(0, Sum.inr (Sum.inl t₀)), (1, Sum.inl x₀), (2, Sum.inl j₀)] [] Z₀ 0) (lo := 0) (hi := n0₀) (by omega) ?_ ?_ M ⟨mm_f_rfl, fun i₀ hi => ⟨fun z₀ => by omega, fun _ => ⟨rfl, rfl⟩⟩⟩
    · rintro Z₀ ⟨f₀, v₀⟩
      exact IT Z₀ f₀ (fun i₀ hi => (v₀ i₀ hi).1 (by omega))
    · rintro j₀ Z₀ j0 j1 ⟨f₀, v₀⟩ nex
      have g1 : kd Z₀ t₀ = 5 := (f₀.1 t₀).trans tb₀.1.1
      have g5₀ : gr Z₀ t₀ 5 = t₀ + 3 := (f₀.2.2.1 t₀ 5).trans tb₀.1.2.2.2.1
      have g5n : gr Z₀ t₀ 5 ≠ 0 := by omega
      have sz3 := mm_f_gi f₀ (t₀ + 3) 0 (by omega)
      have clZ := mh_fr_cL cl₀ f₀.1 f₀.2.1 f₀.2.2.1 sz3
      have kc₀ : kd Z₀ (gr Z₀ t₀ 5) = 4 := by rw [g5₀]; exact clZ.1
      have sz₀ : gi Z₀ (gr Z₀ t₀ 5) 0 = n0₀ := by rw [g5₀, sz3]; exact hn
      have c₀ := ca j₀.toNat (by omega)
      have o := ok₀ j₀.toNat (by omega)
      have vj := (v₀ j₀.toNat (by omega)).2 (by omega)
      have ea : gr Z₀ (t₀ + 3 + 1) j₀.toNat = gr M (t₀ + 3 + 1) j₀.toNat := f₀.2.2.1 _ _
      have e1₀ := mm_f_gi f₀ (gr M (t₀ + 3 + 1) j₀.toNat) 1 (by omega)
      have e3₀ := mm_f_gi f₀ (gr M (t₀ + 3 + 1) j₀.toNat) 3 (by omega)
      have ka : kd Z₀ (gr M (t₀ + 3 + 1) j₀.toNat) = 3 := (f₀.1 _).trans c₀.1
      have inj : ∀ i₀ : Nat, i₀ < n0₀ → gr M (t₀ + 3 + 1) i₀ = gr M (t₀ + 3 + 1) j₀.toNat → i₀ = j₀.toNat := fun i₀ hi e₀ => ci i₀ j₀.toNat (by omega) (by omega) e₀
      unfold mh_ok at o
      have sm₀ : mg_sm Z₀ (gr M (t₀ + 3 + 1) j₀.toNat) := ⟨ka, by omega, by omega⟩
      have gt := @cX3_get D l hl Z₀ (t₀ + 3) j₀ clZ (by omega)
      rw [ea] at gt
      have mr := @cX2_loseRow D l hl Z₀ (gr M (t₀ + 3 + 1) j₀.toNat) x₀ sm₀
      have w₀ : K 2 [(0, Sum.inr (Sum.inl t₀)), (1, Sum.inl x₀), (2, Sum.inl (j₀ + 1))] [] (if x₀ < gi Z₀ (gr M (t₀ + 3 + 1) j₀.toNat) 0 then si Z₀ (gr M (t₀ + 3 + 1) j₀.toNat) 0 (gi Z₀ (gr M (t₀ + 3 + 1) j₀.toNat) 0 - 1) else if x₀ ≤ gi Z₀ (gr M (t₀ + 3 + 1) j₀.toNat) 0 + gi Z₀ (gr M (t₀ + 3 + 1) j₀.toNat) 2 - 1 then si Z₀ (gr M (t₀ + 3 + 1) j₀.toNat) 2 (gi Z₀ (gr M (t₀ + 3 + 1) j₀.toNat) 2 - 1) else Z₀) 0 := by
        refine nex _ ⟨?_, fun i₀ hi => ⟨fun hj => ?_, fun hj => ?_⟩⟩
        · (repeat' split)
          · exact mm_f_si f₀ (by omega)
          · exact mm_f_si f₀ (by omega)
          · exact f₀
        · by_cases e₀ : i₀ = j₀.toNat
          · rw [e₀]
            unfold mh_vt mh_vh
            rw [vj.1, vj.2]
            (repeat' split) <;> first | (exfalso; omega) | (refine ⟨?_, ?_⟩ <;> first | omega | (simp [gi_si]; done) | (simp [gi_si]; omega))
          · have g₀ := (v₀ i₀ hi).1 (by omega)
            have ne₀ : ¬ (gr M (t₀ + 3 + 1) i₀ = gr M (t₀ + 3 + 1) j₀.toNat) := fun q₀ => e₀ (inj i₀ hi q₀)
            (repeat' split) <;> first | exact g₀ | (simp only [gi_si, ne₀, false_and, if_false]; exact g₀)
        · have g₀ := (v₀ i₀ hi).2 (by omega)
          have ne₀ : ¬ (gr M (t₀ + 3 + 1) i₀ = gr M (t₀ + 3 + 1) j₀.toNat) := fun q₀ => by have := inj i₀ hi q₀; omega
          (repeat' split) <;> first | exact g₀ | (simp only [gi_si, ne₀, false_and, if_false]; exact g₀)
      clear nex v₀ inj IT tl nb tb₀ cl₀ ok₀ own₀ ca ci clZ
      refine hK₀ _ _ _ _ _ ?_
      (repeat' (((conv => whnf); first | (show (_ : Option mg_V) = _ ∧ _; assumption) | (show K _ _ _ _ _; assumption) | (show mm_th _ _ _ _; assumption) | refine And.intro (by first | assumption | omega | (simp only [true_and, kd_si, gr_si]; first | done | assumption | omega)) ?_ | (refine And.intro (fun _ => ?_) (fun _ => ?_) <;> first | (exfalso; omega) | skip) | intro _ | fail)))
      all_goals ((conv => whnf); try rw [g5₀])
      (refine Exists.intro _ (Exists.intro _ (And.intro (gt) (And.intro ?_ (fun _ _ h₀ => h₀.elim)))); rintro _ _ ⟨rfl, e₀⟩; have e2₀ := e₀.symm; clear e₀; subst e2₀)
      (repeat' (((conv => whnf); first | (show (_ : Option mg_V) = _ ∧ _; assumption) | (show K _ _ _ _ _; assumption) | (show mm_th _ _ _ _; assumption) | refine And.intro (by first | assumption | omega | (simp only [true_and, kd_si, gr_si]; first | done | assumption | omega)) ?_ | (refine And.intro (fun _ => ?_) (fun _ => ?_) <;> first | (exfalso; omega) | skip) | intro _ | fail)))
      all_goals (try ((conv => whnf); (refine Exists.intro _ (Exists.intro _ (And.intro (mr) (And.intro ?_ (fun _ _ h₀ => h₀.elim)))); rintro _ _ ⟨rfl, e₀⟩; have e2₀ := e₀.symm; clear e₀; subst e2₀); (repeat' (((conv => whnf); first | (show (_ : Option mg_V) = _ ∧ _; assumption) | (show K _ _ _ _ _; assumption) | (show mm_th _ _ _ _; assumption) | refine And.intro (by first | assumption | omega | (simp only [true_and, kd_si, gr_si]; first | done | assumption | omega)) ?_ | (refine And.intro (fun _ => ?_) (fun _ => ?_) <;> first | (exfalso; omega) | skip) | intro _ | fail)))))
      all_goals ((conv => whnf); exact w₀)
  have k5₀ := tb₀.1.1
  clear IT tl nb cl₀ ok₀ own₀ ca ci
  refine hK₀ _ _ _ _ _ ?_
  (repeat' (((conv => whnf); first | (show (_ : Option mg_V) = _ ∧ _; assumption) | (show K _ _ _ _ _; assumption) | (show mm_th _ _ _ _; assumption) | refine And.intro (by first | assumption | omega | (simp only [true_and, kd_si, gr_si]; first | done | assumption | omega)) ?_ | (refine And.intro (fun _ => ?_) (fun _ => ?_) <;> first | (exfalso; omega) | skip) | intro _ | fail)))
