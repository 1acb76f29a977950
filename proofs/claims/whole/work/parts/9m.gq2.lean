/-! MergeGrid's questions: sizeOf₀, cellAt₀, squaresFor, select₀, cellsBySquares -/
set_option maxRecDepth 100000 in
theorem cX5_sizeOf0 {D : mg_D} {l : Launch} (hl : l.stackTraces = false) {M : mg_M} {g₀ t₀ u₀ : Nat} {r₀ c₀ : Int} (K9 : mh_K M g₀ t₀ u₀) (V9 : mh_V M t₀) (h₀ : mh_rg (gi M t₀ 0) (gi M t₀ 1) r₀ c₀) : mg_Mt D l 107 [.inr (.inl g₀), .inl r₀, .inl c₀] M (fun v₀ N => v₀ = some (.inl (mh_wsum M (t₀ + 2) (gi M (mh_co M t₀ r₀ c₀) 1) (gi M (mh_co M t₀ r₀ c₀) 3) * mh_wsum M (t₀ + 1) (gi M (mh_co M t₀ r₀ c₀) 0) (gi M (mh_co M t₀ r₀ c₀) 2))) ∧ N = M) mg_no := by
  refine mg_of2 hl ok_X5_sizeOf al_X5_sizeOf rfl (fun K hK₀ => ?_)
  obtain ⟨⟨G, g1, g3₀, g4, g5₀⟩, ⟨ka, kb, kk, kg, ck⟩, pl, ⟨tl, nb⟩, ⟨tbu, clu⟩, rb⟩ := K9
  have k6₀ := G.1
  have g0 := G.2.1
  have kt := G.2.2.1
  have tn₀ := G.2.2.2
  have g0n : gr M g₀ 0 ≠ 0 := by omega
  have k0₀ : kd M (gr M g₀ 0) = 5 := by rw [g0]; exact kt
  have cl₀ := tl.2.1
  have bb := tl.1.2.2
  have s5 : gr M t₀ 5 = t₀ + 3 := tl.1.1.2.2.2.1
  have s3₀ : gr M t₀ 3 = t₀ + 1 := tl.1.1.2.1
  have s4₀ : gr M t₀ 4 = t₀ + 2 := tl.1.1.2.2.1
  have t5₀ : gr M (gr M g₀ 0) 5 = t₀ + 3 := by rw [g0]; exact s5
  have t5n : gr M (gr M g₀ 0) 5 ≠ 0 := by omega
  have kc₀ : kd M (gr M (gr M g₀ 0) 5) = 4 := by rw [t5₀]; exact cl₀.1
  have t3₀ : gr M (gr M g₀ 0) 3 = t₀ + 1 := by rw [g0]; exact s3₀
  have t3n : gr M (gr M g₀ 0) 3 ≠ 0 := by omega
  have kh : kd M (gr M (gr M g₀ 0) 3) = 8 := by rw [t3₀]; exact tl.1.2.1.1.1
  have lh : ln M (gr M (gr M g₀ 0) 3) = 12 := by rw [t3₀]; exact tl.1.2.1.1.2
  have t4₀ : gr M (gr M g₀ 0) 4 = t₀ + 2 := by rw [g0]; exact s4₀
  have t4n : gr M (gr M g₀ 0) 4 ≠ 0 := by omega
  have kw : kd M (gr M (gr M g₀ 0) 4) = 8 := by rw [t4₀]; exact tl.1.2.1.2.1.1
  have lw : ln M (gr M (gr M g₀ 0) 4) = 10 := by rw [t4₀]; exact tl.1.2.1.2.1.2
  have g3n : gr M g₀ 3 ≠ 0 := by omega
  have k3₀ : kd M (gr M g₀ 3) = 1 := by rw [g3₀]; exact ka
  have g4n : gr M g₀ 4 ≠ 0 := by omega
  have k4₀ : kd M (gr M g₀ 4) = 1 := by rw [g4]; exact kb
  have g5n : gr M g₀ 5 ≠ 0 := by omega
  have k5₀ : kd M (gr M g₀ 5) = 2 := by rw [g5₀]; exact kk
  have hw : ∀ k₀ : Nat, (k₀ : Int) < gi M t₀ 1 → 0 ≤ gi M (t₀ + 2) k₀ ∧ gi M (t₀ + 2) k₀ ≤ 200 := fun k₀ hk => by have := V9.2.1 k₀ hk; omega
  have hh : ∀ k₀ : Nat, (k₀ : Int) < gi M t₀ 0 → 0 ≤ gi M (t₀ + 1) k₀ ∧ gi M (t₀ + 1) k₀ ≤ 200 := fun k₀ hk => by have := V9.2.2 k₀ hk; omega
  have kw2 := tl.1.2.1.2.1.1
  have lw2 := tl.1.2.1.2.1.2
  have kh2 := tl.1.2.1.1.1
  have lh2 := tl.1.2.1.1.2
  have c1₀ := @cX5_checkSquare0 D l hl M g₀ t₀ r₀ c₀ G h₀
  have c2₀ := @cX4_cellAt D l hl M t₀ r₀ c₀ tl h₀.1 h₀.2 (nb r₀ c₀ h₀.1.1 h₀.1.2 h₀.2.1 h₀.2.2)
  have sm₀ := (mh_co_sm tl nb h₀.1 h₀.2).1
  obtain ⟨i₀, hi, w₀, eo⟩ := @mh_tl_ow M t₀ r₀ c₀ tl h₀.1 h₀.2 (nb r₀ c₀ h₀.1.1 h₀.1.2 h₀.2.1 h₀.2.2)
  have ok₀ := tl.2.2.1 i₀ hi
  have e9₀ := mh_co_at h₀ (tl.2.2.2.1 i₀ hi r₀ c₀ w₀)
  unfold mh_ok at ok₀
  rw [← e9₀] at ok₀
  clear e9₀ w₀ eo
  have c3₀ := @cX5_sumOf D l hl M (t₀ + 2) (gi M (mh_co M t₀ r₀ c₀) 1) (gi M (mh_co M t₀ r₀ c₀) 3) kw2 (by omega) (by omega) (fun k₀ hk => hw k₀ (by omega))
  have c4₀ := @cX5_sumOf D l hl M (t₀ + 1) (gi M (mh_co M t₀ r₀ c₀) 0) (gi M (mh_co M t₀ r₀ c₀) 2) kh2 (by omega) (by omega) (fun k₀ hk => hh k₀ (by omega))
  have b3 := @mh_wsumb M (t₀ + 2) (gi M (mh_co M t₀ r₀ c₀) 1) (gi M (mh_co M t₀ r₀ c₀) 3) 200 (by omega) (by omega) (fun k₀ hk => hw k₀ (by omega))
  have b4 := @mh_wsumb M (t₀ + 1) (gi M (mh_co M t₀ r₀ c₀) 0) (gi M (mh_co M t₀ r₀ c₀) 2) 200 (by omega) (by omega) (fun k₀ hk => hh k₀ (by omega))
  generalize mh_wsum M (t₀ + 2) (gi M (mh_co M t₀ r₀ c₀) 1) (gi M (mh_co M t₀ r₀ c₀) 3) = x₀ at *
  generalize mh_wsum M (t₀ + 1) (gi M (mh_co M t₀ r₀ c₀) 0) (gi M (mh_co M t₀ r₀ c₀) 2) = y₀ at *
  have pb : 0 ≤ x₀ * y₀ ∧ x₀ * y₀ ≤ 2000 * 2400 := ⟨Int.mul_nonneg b3.1 b4.1, Int.mul_le_mul (by omega) (by omega) b4.1 (by omega)⟩
  have Q₀ : some (Sum.inl (x₀ * y₀) : mg_V) = some (.inl (x₀ * y₀)) ∧ M = M := ⟨rfl, rfl⟩
  clear V9 hw hh
  clear G tl nb tbu clu ck cl₀
  refine hK₀ _ _ _ _ _ ?_
  (repeat' (((conv => whnf); first | (show (_ : Option mg_V) = _ ∧ _; assumption) | (show K _ _ _ _ _; assumption) | (show mm_th _ _ _ _; assumption) | refine And.intro (by first | assumption | omega | (simp only [true_and]; first | done | assumption | omega)) ?_ | (refine And.intro (fun _ => ?_) (fun _ => ?_) <;> first | (exfalso; omega) | skip) | intro _ | fail)))
  all_goals (try ((conv => whnf); (refine Exists.intro _ (Exists.intro _ (And.intro (c1₀) (And.intro ?_ (fun _ _ h₀ => h₀.elim)))); rintro _ _ ⟨rfl, e₀⟩; have e2₀ := e₀.symm; clear e₀; subst e2₀); (repeat' (((conv => whnf); first | (show (_ : Option mg_V) = _ ∧ _; assumption) | (show K _ _ _ _ _; assumption) | (show mm_th _ _ _ _; assumption) | refine And.intro (by first | assumption | omega | (simp only [true_and]; first | done | assumption | omega)) ?_ | (refine And.intro (fun _ => ?_) (fun _ => ?_) <;> first | (exfalso; omega) | skip) | intro _ | fail)))))
  all_goals ((conv => whnf); (try rw [g0]); (try rw [s5]); (try rw [s3₀]); (try rw [s4₀]); (try rw [g3₀]); (try rw [g4]); (try rw [g5₀]))
  (refine Exists.intro _ (Exists.intro _ (And.intro (c2₀) (And.intro ?_ (fun _ _ h₀ => h₀.elim)))); rintro _ _ ⟨rfl, e₀⟩; have e2₀ := e₀.symm; clear e₀; subst e2₀)
  (repeat' (((conv => whnf); first | (show (_ : Option mg_V) = _ ∧ _; assumption) | (show K _ _ _ _ _; assumption) | (show mm_th _ _ _ _; assumption) | refine And.intro (by first | assumption | omega | (simp only [true_and]; first | done | assumption | omega)) ?_ | (refine And.intro (fun _ => ?_) (fun _ => ?_) <;> first | (exfalso; omega) | skip) | intro _ | fail)))
  all_goals ((conv => whnf); (try rw [g0]); (try rw [s5]); (try rw [s3₀]); (try rw [s4₀]); (try rw [g3₀]); (try rw [g4]); (try rw [g5₀]))
  (refine Exists.intro _ (Exists.intro _ (And.intro (c3₀) (And.intro ?_ (fun _ _ h₀ => h₀.elim)))); rintro _ _ ⟨rfl, e₀⟩; have e2₀ := e₀.symm; clear e₀; subst e2₀)
  (repeat' (((conv => whnf); first | (show (_ : Option mg_V) = _ ∧ _; assumption) | (show K _ _ _ _ _; assumption) | (show mm_th _ _ _ _; assumption) | refine And.intro (by first | assumption | omega | (simp only [true_and]; first | done | assumption | omega)) ?_ | (refine And.intro (fun _ => ?_) (fun _ => ?_) <;> first | (exfalso; omega) | skip) | intro _ | fail)))
  all_goals ((conv => whnf); (try rw [g0]); (try rw [s5]); (try rw [s3₀]); (try rw [s4₀]); (try rw [g3₀]); (try rw [g4]); (try rw [g5₀]))
  (refine Exists.intro _ (Exists.intro _ (And.intro (c4₀) (And.intro ?_ (fun _ _ h₀ => h₀.elim)))); rintro _ _ ⟨rfl, e₀⟩; have e2₀ := e₀.symm; clear e₀; subst e2₀)
  (repeat' (((conv => whnf); first | (show (_ : Option mg_V) = _ ∧ _; assumption) | (show K _ _ _ _ _; assumption) | (show mm_th _ _ _ _; assumption) | refine And.intro (by first | assumption | omega | (simp only [true_and]; first | done | assumption | omega)) ?_ | (refine And.intro (fun _ => ?_) (fun _ => ?_) <;> first | (exfalso; omega) | skip) | intro _ | fail)))
set_option maxRecDepth 100000 in
theorem cX5_sizeOf1 {D : mg_D} {l : Launch} (hl : l.stackTraces = false) {M : mg_M} {g₀ t₀ u₀ : Nat} {r₀ c₀ : Int} (K9 : mh_K M g₀ t₀ u₀) (h₀ : ¬ mh_rg (gi M t₀ 0) (gi M t₀ 1) r₀ c₀) : mg_Mt D l 107 [.inr (.inl g₀), .inl r₀, .inl c₀] M mh_nN (mh_tX 1 M) := by
  refine mg_of2 hl ok_X5_sizeOf al_X5_sizeOf rfl (fun K hK₀ => ?_)
  obtain ⟨⟨G, g1, g3₀, g4, g5₀⟩, ⟨ka, kb, kk, kg, ck⟩, pl, ⟨tl, nb⟩, ⟨tbu, clu⟩, rb⟩ := K9
  have k6₀ := G.1
  have g0 := G.2.1
  have kt := G.2.2.1
  have tn₀ := G.2.2.2
  have g0n : gr M g₀ 0 ≠ 0 := by omega
  have k0₀ : kd M (gr M g₀ 0) = 5 := by rw [g0]; exact kt
  have cl₀ := tl.2.1
  have bb := tl.1.2.2
  have s5 : gr M t₀ 5 = t₀ + 3 := tl.1.1.2.2.2.1
  have s3₀ : gr M t₀ 3 = t₀ + 1 := tl.1.1.2.1
  have s4₀ : gr M t₀ 4 = t₀ + 2 := tl.1.1.2.2.1
  have t5₀ : gr M (gr M g₀ 0) 5 = t₀ + 3 := by rw [g0]; exact s5
  have t5n : gr M (gr M g₀ 0) 5 ≠ 0 := by omega
  have kc₀ : kd M (gr M (gr M g₀ 0) 5) = 4 := by rw [t5₀]; exact cl₀.1
  have t3₀ : gr M (gr M g₀ 0) 3 = t₀ + 1 := by rw [g0]; exact s3₀
  have t3n : gr M (gr M g₀ 0) 3 ≠ 0 := by omega
  have kh : kd M (gr M (gr M g₀ 0) 3) = 8 := by rw [t3₀]; exact tl.1.2.1.1.1
  have lh : ln M (gr M (gr M g₀ 0) 3) = 12 := by rw [t3₀]; exact tl.1.2.1.1.2
  have t4₀ : gr M (gr M g₀ 0) 4 = t₀ + 2 := by rw [g0]; exact s4₀
  have t4n : gr M (gr M g₀ 0) 4 ≠ 0 := by omega
  have kw : kd M (gr M (gr M g₀ 0) 4) = 8 := by rw [t4₀]; exact tl.1.2.1.2.1.1
  have lw : ln M (gr M (gr M g₀ 0) 4) = 10 := by rw [t4₀]; exact tl.1.2.1.2.1.2
  have g3n : gr M g₀ 3 ≠ 0 := by omega
  have k3₀ : kd M (gr M g₀ 3) = 1 := by rw [g3₀]; exact ka
  have g4n : gr M g₀ 4 ≠ 0 := by omega
  have k4₀ : kd M (gr M g₀ 4) = 1 := by rw [g4]; exact kb
  have g5n : gr M g₀ 5 ≠ 0 := by omega
  have k5₀ : kd M (gr M g₀ 5) = 2 := by rw [g5₀]; exact kk
  have c1₀ := @cX5_checkSquare1 D l hl M g₀ t₀ r₀ c₀ G h₀
  clear G tl nb tbu clu ck cl₀
  refine hK₀ _ _ _ _ _ ?_
  (repeat' (((conv => whnf); first | (show (_ : Option mg_V) = _ ∧ _; assumption) | (show K _ _ _ _ _; assumption) | (show mm_th _ _ _ _; assumption) | refine And.intro (by first | assumption | omega | (simp only [true_and]; first | done | assumption | omega)) ?_ | (refine And.intro (fun _ => ?_) (fun _ => ?_) <;> first | (exfalso; omega) | skip) | intro _ | fail)))
  all_goals ((conv => whnf); skip)
  (refine Exists.intro _ (Exists.intro _ (And.intro (c1₀) (And.intro (fun _ _ h₀ => h₀.elim) ?_))); rintro _ _ ⟨rfl, n9, hn9, rfl⟩; (conv => whnf); first | exact ⟨rfl, n9, hn9, rfl⟩ | exact ⟨n9, hn9, rfl⟩)
theorem mh_lineU {M : mg_M} {a₀ : Nat} {n₀ x₀ c₀ d₀ : Int} (h₀ : ∀ k₀ : Nat, (k₀ : Int) < n₀ → 0 ≤ gi M a₀ k₀) (hc₀ : mh_line M a₀ n₀ x₀ c₀) (hd₀ : mh_line M a₀ n₀ x₀ d₀) : c₀ = d₀ := by
  have hd' := hd₀
  rcases hd₀ with ⟨d1₀, d2₀⟩ | ⟨d1₀, d2₀⟩
  · rcases hc₀ with ⟨c1₀, c2₀⟩ | ⟨c1₀, c2₀⟩
    · omega
    · exact (d2₀ c₀ c1₀.1 c1₀.2 c2₀).elim
  · have := (mh_line1 h₀ hc₀ d1₀).1 d2₀
    omega
set_option maxRecDepth 100000 in
theorem cX5_cellAt0 {D : mg_D} {l : Launch} (hl : l.stackTraces = false) {M : mg_M} {g₀ t₀ u₀ : Nat} {x₀ y₀ : Int} {c₀ r₀ : Int} (K9 : mh_K M g₀ t₀ u₀) (V9 : mh_V M t₀) (hc₀ : mh_line M (t₀ + 2) (gi M t₀ 1) x₀ c₀) (hr : mh_line M (t₀ + 1) (gi M t₀ 0) y₀ r₀) (hn : c₀ ≠ -1 ∧ r₀ ≠ -1) : mg_Mt D l 108 [.inr (.inl g₀), .inl x₀, .inl y₀] M (fun v₀ N => v₀ = some (.inl (100 * gi M (mh_co M t₀ r₀ c₀) 0 + gi M (mh_co M t₀ r₀ c₀) 1)) ∧ N = M) mg_no := by
  refine mg_of2 hl ok_X5_cellAt al_X5_cellAt rfl (fun K hK₀ => ?_)
  obtain ⟨⟨G, g1, g3₀, g4, g5₀⟩, ⟨ka, kb, kk, kg, ck⟩, pl, ⟨tl, nb⟩, ⟨tbu, clu⟩, rb⟩ := K9
  have k6₀ := G.1
  have g0 := G.2.1
  have kt := G.2.2.1
  have tn₀ := G.2.2.2
  have g0n : gr M g₀ 0 ≠ 0 := by omega
  have k0₀ : kd M (gr M g₀ 0) = 5 := by rw [g0]; exact kt
  have cl₀ := tl.2.1
  have bb := tl.1.2.2
  have s5 : gr M t₀ 5 = t₀ + 3 := tl.1.1.2.2.2.1
  have s3₀ : gr M t₀ 3 = t₀ + 1 := tl.1.1.2.1
  have s4₀ : gr M t₀ 4 = t₀ + 2 := tl.1.1.2.2.1
  have t5₀ : gr M (gr M g₀ 0) 5 = t₀ + 3 := by rw [g0]; exact s5
  have t5n : gr M (gr M g₀ 0) 5 ≠ 0 := by omega
  have kc₀ : kd M (gr M (gr M g₀ 0) 5) = 4 := by rw [t5₀]; exact cl₀.1
  have t3₀ : gr M (gr M g₀ 0) 3 = t₀ + 1 := by rw [g0]; exact s3₀
  have t3n : gr M (gr M g₀ 0) 3 ≠ 0 := by omega
  have kh : kd M (gr M (gr M g₀ 0) 3) = 8 := by rw [t3₀]; exact tl.1.2.1.1.1
  have lh : ln M (gr M (gr M g₀ 0) 3) = 12 := by rw [t3₀]; exact tl.1.2.1.1.2
  have t4₀ : gr M (gr M g₀ 0) 4 = t₀ + 2 := by rw [g0]; exact s4₀
  have t4n : gr M (gr M g₀ 0) 4 ≠ 0 := by omega
  have kw : kd M (gr M (gr M g₀ 0) 4) = 8 := by rw [t4₀]; exact tl.1.2.1.2.1.1
  have lw : ln M (gr M (gr M g₀ 0) 4) = 10 := by rw [t4₀]; exact tl.1.2.1.2.1.2
  have g3n : gr M g₀ 3 ≠ 0 := by omega
  have k3₀ : kd M (gr M g₀ 3) = 1 := by rw [g3₀]; exact ka
  have g4n : gr M g₀ 4 ≠ 0 := by omega
  have k4₀ : kd M (gr M g₀ 4) = 1 := by rw [g4]; exact kb
  have g5n : gr M g₀ 5 ≠ 0 := by omega
  have k5₀ : kd M (gr M g₀ 5) = 2 := by rw [g5₀]; exact kk
  have hw : ∀ k₀ : Nat, (k₀ : Int) < gi M t₀ 1 → 0 ≤ gi M (t₀ + 2) k₀ ∧ gi M (t₀ + 2) k₀ ≤ 200 := fun k₀ hk => by have := V9.2.1 k₀ hk; omega
  have hh : ∀ k₀ : Nat, (k₀ : Int) < gi M t₀ 0 → 0 ≤ gi M (t₀ + 1) k₀ ∧ gi M (t₀ + 1) k₀ ≤ 200 := fun k₀ hk => by have := V9.2.2 k₀ hk; omega
  have kw2 := tl.1.2.1.2.1.1
  have lw2 := tl.1.2.1.2.1.2
  have kh2 := tl.1.2.1.1.1
  have lh2 := tl.1.2.1.1.2
  have c1₀ := @cX5_lineAt D l hl M (t₀ + 2) (gi M t₀ 1) x₀ kw2 (by omega) (by omega) hw
  have c2₀ := @cX5_lineAt D l hl M (t₀ + 1) (gi M t₀ 0) y₀ kh2 (by omega) (by omega) hh
  have c1' : mg_Mt D l 122 [.inr (.inl (t₀ + 2)), .inl (gi M t₀ 1), .inl x₀] M (fun v₀ N => v₀ = some (.inl c₀) ∧ N = M) mg_no := by
    refine mg_MtN c1₀ ?_
    rintro v₀ N ⟨⟨c9₀, e₀, l9⟩, e2₀⟩
    rw [mh_lineU (fun k₀ hk => (hw k₀ hk).1) l9 hc₀] at e₀
    exact ⟨e₀, e2₀⟩
  have c2' : mg_Mt D l 122 [.inr (.inl (t₀ + 1)), .inl (gi M t₀ 0), .inl y₀] M (fun v₀ N => v₀ = some (.inl r₀) ∧ N = M) mg_no := by
    refine mg_MtN c2₀ ?_
    rintro v₀ N ⟨⟨c9₀, e₀, l9⟩, e2₀⟩
    rw [mh_lineU (fun k₀ hk => (hh k₀ hk).1) l9 hr] at e₀
    exact ⟨e₀, e2₀⟩
  have rc : (-1 ≤ c₀ ∧ c₀ < gi M t₀ 1) ∧ (-1 ≤ r₀ ∧ r₀ < gi M t₀ 0) := by
    constructor
    · rcases hc₀ with ⟨z₀, _⟩ | ⟨z₀, _⟩ <;> omega
    · rcases hr with ⟨z₀, _⟩ | ⟨z₀, _⟩ <;> omega
  clear c1₀ c2₀ hw hh V9 hc₀ hr
  have h₀ : mh_rg (gi M t₀ 0) (gi M t₀ 1) r₀ c₀ := by omega
  have c3₀ := @cX4_cellAt D l hl M t₀ r₀ c₀ tl h₀.1 h₀.2 (nb r₀ c₀ h₀.1.1 h₀.1.2 h₀.2.1 h₀.2.2)
  have sm₀ := mh_co_sm tl nb h₀.1 h₀.2
  have sm1 := sm₀.1
  have sm2 := sm₀.2
  have Q₀ : some (Sum.inl (100 * gi M (mh_co M t₀ r₀ c₀) 0 + gi M (mh_co M t₀ r₀ c₀) 1) : mg_V) = some (.inl (100 * gi M (mh_co M t₀ r₀ c₀) 0 + gi M (mh_co M t₀ r₀ c₀) 1)) ∧ M = M := ⟨rfl, rfl⟩
  clear sm₀
  clear G tl nb tbu clu ck cl₀
  refine hK₀ _ _ _ _ _ ?_
  (repeat' (((conv => whnf); first | (show (_ : Option mg_V) = _ ∧ _; assumption) | (show K _ _ _ _ _; assumption) | (show mm_th _ _ _ _; assumption) | refine And.intro (by first | assumption | omega | (simp only [true_and]; first | done | assumption | omega)) ?_ | (refine And.intro (fun _ => ?_) (fun _ => ?_) <;> first | (exfalso; omega) | skip) | intro _ | fail)))
  all_goals ((conv => whnf); (try rw [g0]); (try rw [s5]); (try rw [s3₀]); (try rw [s4₀]); (try rw [g3₀]); (try rw [g4]); (try rw [g5₀]))
  (refine Exists.intro _ (Exists.intro _ (And.intro (c1') (And.intro ?_ (fun _ _ h₀ => h₀.elim)))); rintro _ _ ⟨rfl, e₀⟩; have e2₀ := e₀.symm; clear e₀; subst e2₀)
  (repeat' (((conv => whnf); first | (show (_ : Option mg_V) = _ ∧ _; assumption) | (show K _ _ _ _ _; assumption) | (show mm_th _ _ _ _; assumption) | refine And.intro (by first | assumption | omega | (simp only [true_and]; first | done | assumption | omega)) ?_ | (refine And.intro (fun _ => ?_) (fun _ => ?_) <;> first | (exfalso; omega) | skip) | intro _ | fail)))
  all_goals ((conv => whnf); (try rw [g0]); (try rw [s5]); (try rw [s3₀]); (try rw [s4₀]); (try rw [g3₀]); (try rw [g4]); (try rw [g5₀]))
  (refine Exists.intro _ (Exists.intro _ (And.intro (c2') (And.intro ?_ (fun _ _ h₀ => h₀.elim)))); rintro _ _ ⟨rfl, e₀⟩; have e2₀ := e₀.symm; clear e₀; subst e2₀)
  (repeat' (((conv => whnf); first | (show (_ : Option mg_V) = _ ∧ _; assumption) | (show K _ _ _ _ _; assumption) | (show mm_th _ _ _ _; assumption) | refine And.intro (by first | assumption | omega | (simp only [true_and]; first | done | assumption | omega)) ?_ | (refine And.intro (fun _ => ?_) (fun _ => ?_) <;> first | (exfalso; omega) | skip) | intro _ | fail)))
  all_goals ((conv => whnf); (try rw [g0]); (try rw [s5]); (try rw [s3₀]); (try rw [s4₀]); (try rw [g3₀]); (try rw [g4]); (try rw [g5₀]))
  (refine Exists.intro _ (Exists.intro _ (And.intro (c3₀) (And.intro ?_ (fun _ _ h₀ => h₀.elim)))); rintro _ _ ⟨rfl, e₀⟩; have e2₀ := e₀.symm; clear e₀; subst e2₀)
  (repeat' (((conv => whnf); first | (show (_ : Option mg_V) = _ ∧ _; assumption) | (show K _ _ _ _ _; assumption) | (show mm_th _ _ _ _; assumption) | refine And.intro (by first | assumption | omega | (simp only [true_and]; first | done | assumption | omega)) ?_ | (refine And.intro (fun _ => ?_) (fun _ => ?_) <;> first | (exfalso; omega) | skip) | intro _ | fail)))
set_option maxRecDepth 100000 in
theorem cX5_cellAt1 {D : mg_D} {l : Launch} (hl : l.stackTraces = false) {M : mg_M} {g₀ t₀ u₀ : Nat} {x₀ y₀ : Int} {c₀ r₀ : Int} (K9 : mh_K M g₀ t₀ u₀) (V9 : mh_V M t₀) (hc₀ : mh_line M (t₀ + 2) (gi M t₀ 1) x₀ c₀) (hr : mh_line M (t₀ + 1) (gi M t₀ 0) y₀ r₀) (hn : c₀ = -1 ∨ r₀ = -1) : mg_Mt D l 108 [.inr (.inl g₀), .inl x₀, .inl y₀] M mh_nN (mh_tX 5 M) := by
  refine mg_of2 hl ok_X5_cellAt al_X5_cellAt rfl (fun K hK₀ => ?_)
  obtain ⟨⟨G, g1, g3₀, g4, g5₀⟩, ⟨ka, kb, kk, kg, ck⟩, pl, ⟨tl, nb⟩, ⟨tbu, clu⟩, rb⟩ := K9
  have k6₀ := G.1
  have g0 := G.2.1
  have kt := G.2.2.1
  have tn₀ := G.2.2.2
  have g0n : gr M g₀ 0 ≠ 0 := by omega
  have k0₀ : kd M (gr M g₀ 0) = 5 := by rw [g0]; exact kt
  have cl₀ := tl.2.1
  have bb := tl.1.2.2
  have s5 : gr M t₀ 5 = t₀ + 3 := tl.1.1.2.2.2.1
  have s3₀ : gr M t₀ 3 = t₀ + 1 := tl.1.1.2.1
  have s4₀ : gr M t₀ 4 = t₀ + 2 := tl.1.1.2.2.1
  have t5₀ : gr M (gr M g₀ 0) 5 = t₀ + 3 := by rw [g0]; exact s5
  have t5n : gr M (gr M g₀ 0) 5 ≠ 0 := by omega
  have kc₀ : kd M (gr M (gr M g₀ 0) 5) = 4 := by rw [t5₀]; exact cl₀.1
  have t3₀ : gr M (gr M g₀ 0) 3 = t₀ + 1 := by rw [g0]; exact s3₀
  have t3n : gr M (gr M g₀ 0) 3 ≠ 0 := by omega
  have kh : kd M (gr M (gr M g₀ 0) 3) = 8 := by rw [t3₀]; exact tl.1.2.1.1.1
  have lh : ln M (gr M (gr M g₀ 0) 3) = 12 := by rw [t3₀]; exact tl.1.2.1.1.2
  have t4₀ : gr M (gr M g₀ 0) 4 = t₀ + 2 := by rw [g0]; exact s4₀
  have t4n : gr M (gr M g₀ 0) 4 ≠ 0 := by omega
  have kw : kd M (gr M (gr M g₀ 0) 4) = 8 := by rw [t4₀]; exact tl.1.2.1.2.1.1
  have lw : ln M (gr M (gr M g₀ 0) 4) = 10 := by rw [t4₀]; exact tl.1.2.1.2.1.2
  have g3n : gr M g₀ 3 ≠ 0 := by omega
  have k3₀ : kd M (gr M g₀ 3) = 1 := by rw [g3₀]; exact ka
  have g4n : gr M g₀ 4 ≠ 0 := by omega
  have k4₀ : kd M (gr M g₀ 4) = 1 := by rw [g4]; exact kb
  have g5n : gr M g₀ 5 ≠ 0 := by omega
  have k5₀ : kd M (gr M g₀ 5) = 2 := by rw [g5₀]; exact kk
  have hw : ∀ k₀ : Nat, (k₀ : Int) < gi M t₀ 1 → 0 ≤ gi M (t₀ + 2) k₀ ∧ gi M (t₀ + 2) k₀ ≤ 200 := fun k₀ hk => by have := V9.2.1 k₀ hk; omega
  have hh : ∀ k₀ : Nat, (k₀ : Int) < gi M t₀ 0 → 0 ≤ gi M (t₀ + 1) k₀ ∧ gi M (t₀ + 1) k₀ ≤ 200 := fun k₀ hk => by have := V9.2.2 k₀ hk; omega
  have kw2 := tl.1.2.1.2.1.1
  have lw2 := tl.1.2.1.2.1.2
  have kh2 := tl.1.2.1.1.1
  have lh2 := tl.1.2.1.1.2
  have c1₀ := @cX5_lineAt D l hl M (t₀ + 2) (gi M t₀ 1) x₀ kw2 (by omega) (by omega) hw
  have c2₀ := @cX5_lineAt D l hl M (t₀ + 1) (gi M t₀ 0) y₀ kh2 (by omega) (by omega) hh
  have c1' : mg_Mt D l 122 [.inr (.inl (t₀ + 2)), .inl (gi M t₀ 1), .inl x₀] M (fun v₀ N => v₀ = some (.inl c₀) ∧ N = M) mg_no := by
    refine mg_MtN c1₀ ?_
    rintro v₀ N ⟨⟨c9₀, e₀, l9⟩, e2₀⟩
    rw [mh_lineU (fun k₀ hk => (hw k₀ hk).1) l9 hc₀] at e₀
    exact ⟨e₀, e2₀⟩
  have c2' : mg_Mt D l 122 [.inr (.inl (t₀ + 1)), .inl (gi M t₀ 0), .inl y₀] M (fun v₀ N => v₀ = some (.inl r₀) ∧ N = M) mg_no := by
    refine mg_MtN c2₀ ?_
    rintro v₀ N ⟨⟨c9₀, e₀, l9⟩, e2₀⟩
    rw [mh_lineU (fun k₀ hk => (hh k₀ hk).1) l9 hr] at e₀
    exact ⟨e₀, e2₀⟩
  have rc : (-1 ≤ c₀ ∧ c₀ < gi M t₀ 1) ∧ (-1 ≤ r₀ ∧ r₀ < gi M t₀ 0) := by
    constructor
    · rcases hc₀ with ⟨z₀, _⟩ | ⟨z₀, _⟩ <;> omega
    · rcases hr with ⟨z₀, _⟩ | ⟨z₀, _⟩ <;> omega
  clear c1₀ c2₀ hw hh V9 hc₀ hr
  clear G tl nb tbu clu ck cl₀
  refine hK₀ _ _ _ _ _ ?_
  (repeat' (((conv => whnf); first | (show (_ : Option mg_V) = _ ∧ _; assumption) | (show K _ _ _ _ _; assumption) | (show mm_th _ _ _ _; assumption) | refine And.intro (by first | assumption | omega | (simp only [true_and]; first | done | assumption | omega)) ?_ | (refine And.intro (fun _ => ?_) (fun _ => ?_) <;> first | (exfalso; omega) | skip) | intro _ | fail)))
  all_goals ((conv => whnf); (try rw [g0]); (try rw [s5]); (try rw [s3₀]); (try rw [s4₀]); (try rw [g3₀]); (try rw [g4]); (try rw [g5₀]))
  (refine Exists.intro _ (Exists.intro _ (And.intro (c1') (And.intro ?_ (fun _ _ h₀ => h₀.elim)))); rintro _ _ ⟨rfl, e₀⟩; have e2₀ := e₀.symm; clear e₀; subst e2₀)
  (repeat' (((conv => whnf); first | (show (_ : Option mg_V) = _ ∧ _; assumption) | (show K _ _ _ _ _; assumption) | (show mm_th _ _ _ _; assumption) | refine And.intro (by first | assumption | omega | (simp only [true_and]; first | done | assumption | omega)) ?_ | (refine And.intro (fun _ => ?_) (fun _ => ?_) <;> first | (exfalso; omega) | skip) | intro _ | fail)))
  all_goals ((conv => whnf); (try rw [g0]); (try rw [s5]); (try rw [s3₀]); (try rw [s4₀]); (try rw [g3₀]); (try rw [g4]); (try rw [g5₀]))
  (refine Exists.intro _ (Exists.intro _ (And.intro (c2') (And.intro ?_ (fun _ _ h₀ => h₀.elim)))); rintro _ _ ⟨rfl, e₀⟩; have e2₀ := e₀.symm; clear e₀; subst e2₀)
  (repeat' (((conv => whnf); first | (show (_ : Option mg_V) = _ ∧ _; assumption) | (show K _ _ _ _ _; assumption) | (show mm_th _ _ _ _; assumption) | refine And.intro (by first | assumption | omega | (simp only [true_and]; first | done | assumption | omega)) ?_ | (refine And.intro (fun _ => ?_) (fun _ => ?_) <;> first | (exfalso; omega) | skip) | intro _ | fail)))
  all_goals (first | exact ⟨_, by assumption, rfl⟩ | exact ⟨rfl, _, by assumption, rfl⟩)
set_option maxRecDepth 100000 in
theorem cX5_squaresFor0 {D : mg_D} {l : Launch} (hl : l.stackTraces = false) {M : mg_M} {g₀ t₀ u₀ : Nat} {r₀ c₀ r' c' : Int} (K9 : mh_K M g₀ t₀ u₀) (h₀ : mh_rg (gi M t₀ 0) (gi M t₀ 1) r₀ c₀) (h' : mh_rg (gi M t₀ 0) (gi M t₀ 1) r' c') : mg_Mt D l 92 [.inr (.inl g₀), .inl r₀, .inl c₀, .inl r', .inl c'] M (fun v₀ N => v₀ = some (.inl ((gi N (g₀ + 260) 2 - gi N (g₀ + 260) 0 + 1) * (gi N (g₀ + 260) 3 - gi N (g₀ + 260) 1 + 1))) ∧ mh_hs M N t₀ (g₀ + 260) (min r₀ r') (max r₀ r') (min c₀ c') (max c₀ c')) mg_no := by
  refine mg_of2 hl ok_X5_squaresFor al_X5_squaresFor rfl (fun K hK₀ => ?_)
  obtain ⟨⟨G, g1, g3₀, g4, g5₀⟩, ⟨ka, kb, kk, kg, ck⟩, pl, ⟨tl, nb⟩, ⟨tbu, clu⟩, rb⟩ := K9
  have k6₀ := G.1
  have g0 := G.2.1
  have kt := G.2.2.1
  have tn₀ := G.2.2.2
  have g0n : gr M g₀ 0 ≠ 0 := by omega
  have k0₀ : kd M (gr M g₀ 0) = 5 := by rw [g0]; exact kt
  have cl₀ := tl.2.1
  have bb := tl.1.2.2
  have s5 : gr M t₀ 5 = t₀ + 3 := tl.1.1.2.2.2.1
  have s3₀ : gr M t₀ 3 = t₀ + 1 := tl.1.1.2.1
  have s4₀ : gr M t₀ 4 = t₀ + 2 := tl.1.1.2.2.1
  have t5₀ : gr M (gr M g₀ 0) 5 = t₀ + 3 := by rw [g0]; exact s5
  have t5n : gr M (gr M g₀ 0) 5 ≠ 0 := by omega
  have kc₀ : kd M (gr M (gr M g₀ 0) 5) = 4 := by rw [t5₀]; exact cl₀.1
  have t3₀ : gr M (gr M g₀ 0) 3 = t₀ + 1 := by rw [g0]; exact s3₀
  have t3n : gr M (gr M g₀ 0) 3 ≠ 0 := by omega
  have kh : kd M (gr M (gr M g₀ 0) 3) = 8 := by rw [t3₀]; exact tl.1.2.1.1.1
  have lh : ln M (gr M (gr M g₀ 0) 3) = 12 := by rw [t3₀]; exact tl.1.2.1.1.2
  have t4₀ : gr M (gr M g₀ 0) 4 = t₀ + 2 := by rw [g0]; exact s4₀
  have t4n : gr M (gr M g₀ 0) 4 ≠ 0 := by omega
  have kw : kd M (gr M (gr M g₀ 0) 4) = 8 := by rw [t4₀]; exact tl.1.2.1.2.1.1
  have lw : ln M (gr M (gr M g₀ 0) 4) = 10 := by rw [t4₀]; exact tl.1.2.1.2.1.2
  have g3n : gr M g₀ 3 ≠ 0 := by omega
  have k3₀ : kd M (gr M g₀ 3) = 1 := by rw [g3₀]; exact ka
  have g4n : gr M g₀ 4 ≠ 0 := by omega
  have k4₀ : kd M (gr M g₀ 4) = 1 := by rw [g4]; exact kb
  have g5n : gr M g₀ 5 ≠ 0 := by omega
  have k5₀ : kd M (gr M g₀ 5) = 2 := by rw [g5₀]; exact kk
  have c1₀ := @cX5_checkSquare0 D l hl M g₀ t₀ r₀ c₀ G h₀
  have c2₀ := @cX5_checkSquare0 D l hl M g₀ t₀ r' c' G h'
  have nt : t₀ ≠ g₀ + 260 := by omega
  have sp₀ : mg_Mt D l 15 [.inr (.inl (g₀ + 260)), .inl r₀, .inl c₀, .inl r', .inl c'] M (fun v₀ M' => v₀ = none ∧ M' = mg_put4 M (g₀ + 260) (min r₀ r') (min c₀ c') (max r₀ r') (max c₀ c')) mg_no := @cX0_span D l hl M (g₀ + 260) r₀ c₀ r' c' kb
  have ar := mh_p4_ar (M := M) (t₀ := t₀) (b₀ := g₀ + 260) (f₀ := min r₀ r') (e₀ := max r₀ r') (a₀ := min c₀ c') (d₀ := max c₀ c') nt (by omega)
  have fx := @mh_fx_p4 M (g₀ + 260) (min r₀ r') (min c₀ c') (max r₀ r') (max c₀ c')
  have tlY := (mh_fx_tl fx kb tl)
  have NB : mh_nb (mg_put4 M (g₀ + 260) (min r₀ r') (min c₀ c') (max r₀ r') (max c₀ c')) t₀ := fun p₀ q₀ h1 h2 h3 h4 => by rw [tlY.2.1]; exact nb p₀ q₀ h1 (by rw [← tlY.2.2.2.1]; exact h2) h3 (by rw [← tlY.2.2.2.2.1]; exact h4)
  have gh := @cX4_growHullB D l hl (mg_put4 M (g₀ + 260) (min r₀ r') (min c₀ c') (max r₀ r') (max c₀ c')) t₀ (g₀ + 260) tlY.1 NB ((fx.1 (g₀ + 260)).trans kb) ar
  have Q0₀ := fun N => @mh_hs_of M N t₀ (g₀ + 260) (min r₀ r') (max r₀ r') (min c₀ c') (max c₀ c') tl kb
  have q1₀ := (fx.1 g₀).trans k6₀
  have q2₀ := (fx.2.2.1 g₀ 0).trans g0
  have q3₀ := (fx.2.2.1 g₀ 4).trans g4
  have tb₀ := tl.1
  have q2n : gr (mg_put4 M (g₀ + 260) (min r₀ r') (min c₀ c') (max r₀ r') (max c₀ c')) g₀ 0 ≠ 0 := by omega
  have q3n : gr (mg_put4 M (g₀ + 260) (min r₀ r') (min c₀ c') (max r₀ r') (max c₀ c')) g₀ 4 ≠ 0 := by omega
  have q4₀ : kd (mg_put4 M (g₀ + 260) (min r₀ r') (min c₀ c') (max r₀ r') (max c₀ c')) (gr (mg_put4 M (g₀ + 260) (min r₀ r') (min c₀ c') (max r₀ r') (max c₀ c')) g₀ 0) = 5 := by rw [q2₀]; exact (fx.1 t₀).trans kt
  have ND₀ : g₀ ≠ g₀ + 260 := by omega
  generalize mg_put4 M (g₀ + 260) (min r₀ r') (min c₀ c') (max r₀ r') (max c₀ c') = Y at *
  have SQ₀ : ∀ N, mh_hl Y N t₀ (g₀ + 260) → kd N g₀ = 6 ∧ gr N g₀ 4 = g₀ + 260 ∧ mg_Mt D l 16 [.inr (.inl (g₀ + 260))] N (fun v₀ M' => v₀ = some (.inl ((gi N (g₀ + 260) 2 - gi N (g₀ + 260) 0 + 1) * (gi N (g₀ + 260) 3 - gi N (g₀ + 260) 1 + 1))) ∧ M' = N) mg_no := by
    rintro N ⟨z1, z2, z3⟩
    refine ⟨(z1.1 g₀).trans q1₀, (z1.2.2.1 g₀ 4).trans q3₀, ?_⟩
    exact cX0_squares2 hl ((z1.1 _).trans ((fx.1 _).trans kb)) (mh_fx_tb z1 nt tlY.1.1) z2
  clear ar fx tlY NB tb₀
  clear G tl nb tbu clu ck cl₀
  refine hK₀ _ _ _ _ _ ?_
  (repeat' (((conv => whnf); first | (show (_ : Option mg_V) = _ ∧ _; assumption) | (show K _ _ _ _ _; assumption) | (show mm_th _ _ _ _; assumption) | refine And.intro (by first | assumption | omega | (simp only [true_and]; first | done | assumption | omega)) ?_ | (refine And.intro (fun _ => ?_) (fun _ => ?_) <;> first | (exfalso; omega) | skip) | intro _ | fail)))
  all_goals (try ((conv => whnf); (refine Exists.intro _ (Exists.intro _ (And.intro (c1₀) (And.intro ?_ (fun _ _ h₀ => h₀.elim)))); rintro _ _ ⟨rfl, e₀⟩; have e2₀ := e₀.symm; clear e₀; subst e2₀); (repeat' (((conv => whnf); first | (show (_ : Option mg_V) = _ ∧ _; assumption) | (show K _ _ _ _ _; assumption) | (show mm_th _ _ _ _; assumption) | refine And.intro (by first | assumption | omega | (simp only [true_and]; first | done | assumption | omega)) ?_ | (refine And.intro (fun _ => ?_) (fun _ => ?_) <;> first | (exfalso; omega) | skip) | intro _ | fail)))))
  all_goals (try ((conv => whnf); (refine Exists.intro _ (Exists.intro _ (And.intro (c2₀) (And.intro ?_ (fun _ _ h₀ => h₀.elim)))); rintro _ _ ⟨rfl, e₀⟩; have e2₀ := e₀.symm; clear e₀; subst e2₀); (repeat' (((conv => whnf); first | (show (_ : Option mg_V) = _ ∧ _; assumption) | (show K _ _ _ _ _; assumption) | (show mm_th _ _ _ _; assumption) | refine And.intro (by first | assumption | omega | (simp only [true_and]; first | done | assumption | omega)) ?_ | (refine And.intro (fun _ => ?_) (fun _ => ?_) <;> first | (exfalso; omega) | skip) | intro _ | fail)))))
  all_goals ((conv => whnf); rw [g4])
  (refine Exists.intro _ (Exists.intro _ (And.intro (sp₀) (And.intro ?_ (fun _ _ h₀ => h₀.elim)))); rintro _ _ ⟨rfl, e₀⟩; have e2₀ := e₀.symm; clear e₀; subst e2₀)
  (repeat' (((conv => whnf); first | (show (_ : Option mg_V) = _ ∧ _; assumption) | (show K _ _ _ _ _; assumption) | (show mm_th _ _ _ _; assumption) | refine And.intro (by first | assumption | omega | (simp only [true_and]; first | done | assumption | omega)) ?_ | (refine And.intro (fun _ => ?_) (fun _ => ?_) <;> first | (exfalso; omega) | skip) | intro _ | fail)))
  all_goals ((conv => whnf); rw [q2₀, q3₀])
  refine Exists.intro _ (Exists.intro _ (And.intro (gh) (And.intro ?_ (fun _ _ h₀ => h₀.elim))))
  rintro _ N ⟨rfl, Q1₀⟩
  obtain ⟨y1, y2, y4⟩ := SQ₀ N Q1₀
  have Q2₀ := Q0₀ N Q1₀
  have y2n : gr N g₀ 4 ≠ 0 := by omega
  have y3 : kd N (gr N g₀ 4) = 1 := by rw [y2]; exact (Q2₀.1.1 _).trans kb
  have Q₀ : some (Sum.inl ((gi N (g₀ + 260) 2 - gi N (g₀ + 260) 0 + 1) * (gi N (g₀ + 260) 3 - gi N (g₀ + 260) 1 + 1)) : mg_V) = some (.inl ((gi N (g₀ + 260) 2 - gi N (g₀ + 260) 0 + 1) * (gi N (g₀ + 260) 3 - gi N (g₀ + 260) 1 + 1))) ∧ mh_hs M N t₀ (g₀ + 260) (min r₀ r') (max r₀ r') (min c₀ c') (max c₀ c') := ⟨rfl, Q2₀⟩
  clear Q0₀ Q1₀ Q2₀ SQ₀ gh
  (repeat' (((conv => whnf); first | (show (_ : Option mg_V) = _ ∧ _; assumption) | (show K _ _ _ _ _; assumption) | (show mm_th _ _ _ _; assumption) | refine And.intro (by first | assumption | omega | (simp only [true_and]; first | done | assumption | omega)) ?_ | (refine And.intro (fun _ => ?_) (fun _ => ?_) <;> first | (exfalso; omega) | skip) | intro _ | fail)))
  all_goals ((conv => whnf); rw [y2])
  (refine Exists.intro _ (Exists.intro _ (And.intro (y4) (And.intro ?_ (fun _ _ h₀ => h₀.elim)))); rintro _ _ ⟨rfl, e₀⟩; have e2₀ := e₀.symm; clear e₀; subst e2₀)
  (repeat' (((conv => whnf); first | (show (_ : Option mg_V) = _ ∧ _; assumption) | (show K _ _ _ _ _; assumption) | (show mm_th _ _ _ _; assumption) | refine And.intro (by first | assumption | omega | (simp only [true_and]; first | done | assumption | omega)) ?_ | (refine And.intro (fun _ => ?_) (fun _ => ?_) <;> first | (exfalso; omega) | skip) | intro _ | fail)))
set_option maxRecDepth 100000 in
theorem cX5_squaresFor1 {D : mg_D} {l : Launch} (hl : l.stackTraces = false) {M : mg_M} {g₀ t₀ u₀ : Nat} {r₀ c₀ r' c' : Int} (K9 : mh_K M g₀ t₀ u₀) (h₀ : ¬ (mh_rg (gi M t₀ 0) (gi M t₀ 1) r₀ c₀ ∧ mh_rg (gi M t₀ 0) (gi M t₀ 1) r' c')) : mg_Mt D l 92 [.inr (.inl g₀), .inl r₀, .inl c₀, .inl r', .inl c'] M mh_nN (mh_tX 1 M) := by
  refine mg_of2 hl ok_X5_squaresFor al_X5_squaresFor rfl (fun K hK₀ => ?_)
  obtain ⟨⟨G, g1, g3₀, g4, g5₀⟩, ⟨ka, kb, kk, kg, ck⟩, pl, ⟨tl, nb⟩, ⟨tbu, clu⟩, rb⟩ := K9
  have k6₀ := G.1
  have g0 := G.2.1
  have kt := G.2.2.1
  have tn₀ := G.2.2.2
  have g0n : gr M g₀ 0 ≠ 0 := by omega
  have k0₀ : kd M (gr M g₀ 0) = 5 := by rw [g0]; exact kt
  have cl₀ := tl.2.1
  have bb := tl.1.2.2
  have s5 : gr M t₀ 5 = t₀ + 3 := tl.1.1.2.2.2.1
  have s3₀ : gr M t₀ 3 = t₀ + 1 := tl.1.1.2.1
  have s4₀ : gr M t₀ 4 = t₀ + 2 := tl.1.1.2.2.1
  have t5₀ : gr M (gr M g₀ 0) 5 = t₀ + 3 := by rw [g0]; exact s5
  have t5n : gr M (gr M g₀ 0) 5 ≠ 0 := by omega
  have kc₀ : kd M (gr M (gr M g₀ 0) 5) = 4 := by rw [t5₀]; exact cl₀.1
  have t3₀ : gr M (gr M g₀ 0) 3 = t₀ + 1 := by rw [g0]; exact s3₀
  have t3n : gr M (gr M g₀ 0) 3 ≠ 0 := by omega
  have kh : kd M (gr M (gr M g₀ 0) 3) = 8 := by rw [t3₀]; exact tl.1.2.1.1.1
  have lh : ln M (gr M (gr M g₀ 0) 3) = 12 := by rw [t3₀]; exact tl.1.2.1.1.2
  have t4₀ : gr M (gr M g₀ 0) 4 = t₀ + 2 := by rw [g0]; exact s4₀
  have t4n : gr M (gr M g₀ 0) 4 ≠ 0 := by omega
  have kw : kd M (gr M (gr M g₀ 0) 4) = 8 := by rw [t4₀]; exact tl.1.2.1.2.1.1
  have lw : ln M (gr M (gr M g₀ 0) 4) = 10 := by rw [t4₀]; exact tl.1.2.1.2.1.2
  have g3n : gr M g₀ 3 ≠ 0 := by omega
  have k3₀ : kd M (gr M g₀ 3) = 1 := by rw [g3₀]; exact ka
  have g4n : gr M g₀ 4 ≠ 0 := by omega
  have k4₀ : kd M (gr M g₀ 4) = 1 := by rw [g4]; exact kb
  have g5n : gr M g₀ 5 ≠ 0 := by omega
  have k5₀ : kd M (gr M g₀ 5) = 2 := by rw [g5₀]; exact kk
  by_cases h1 : mh_rg (gi M t₀ 0) (gi M t₀ 1) r₀ c₀
  · have c1₀ := @cX5_checkSquare0 D l hl M g₀ t₀ r₀ c₀ G h1
    have c2₀ := @cX5_checkSquare1 D l hl M g₀ t₀ r' c' G (fun w₀ => h₀ ⟨h1, w₀⟩)
    clear h1
    clear G tl nb tbu clu ck cl₀
    refine hK₀ _ _ _ _ _ ?_
    (repeat' (((conv => whnf); first | (show (_ : Option mg_V) = _ ∧ _; assumption) | (show K _ _ _ _ _; assumption) | (show mm_th _ _ _ _; assumption) | refine And.intro (by first | assumption | omega | (simp only [true_and]; first | done | assumption | omega)) ?_ | (refine And.intro (fun _ => ?_) (fun _ => ?_) <;> first | (exfalso; omega) | skip) | intro _ | fail)))
    all_goals (try ((conv => whnf); (refine Exists.intro _ (Exists.intro _ (And.intro (c1₀) (And.intro ?_ (fun _ _ h₀ => h₀.elim)))); rintro _ _ ⟨rfl, e₀⟩; have e2₀ := e₀.symm; clear e₀; subst e2₀); (repeat' (((conv => whnf); first | (show (_ : Option mg_V) = _ ∧ _; assumption) | (show K _ _ _ _ _; assumption) | (show mm_th _ _ _ _; assumption) | refine And.intro (by first | assumption | omega | (simp only [true_and]; first | done | assumption | omega)) ?_ | (refine And.intro (fun _ => ?_) (fun _ => ?_) <;> first | (exfalso; omega) | skip) | intro _ | fail)))))
    all_goals ((conv => whnf); skip)
    (refine Exists.intro _ (Exists.intro _ (And.intro (c2₀) (And.intro (fun _ _ h₀ => h₀.elim) ?_))); rintro _ _ ⟨rfl, n9, hn9, rfl⟩; (conv => whnf); first | exact ⟨rfl, n9, hn9, rfl⟩ | exact ⟨n9, hn9, rfl⟩)
  · have c1₀ := @cX5_checkSquare1 D l hl M g₀ t₀ r₀ c₀ G h1
    clear h1
    clear G tl nb tbu clu ck cl₀
    refine hK₀ _ _ _ _ _ ?_
    (repeat' (((conv => whnf); first | (show (_ : Option mg_V) = _ ∧ _; assumption) | (show K _ _ _ _ _; assumption) | (show mm_th _ _ _ _; assumption) | refine And.intro (by first | assumption | omega | (simp only [true_and]; first | done | assumption | omega)) ?_ | (refine And.intro (fun _ => ?_) (fun _ => ?_) <;> first | (exfalso; omega) | skip) | intro _ | fail)))
    all_goals ((conv => whnf); skip)
    (refine Exists.intro _ (Exists.intro _ (And.intro (c1₀) (And.intro (fun _ _ h₀ => h₀.elim) ?_))); rintro _ _ ⟨rfl, n9, hn9, rfl⟩; (conv => whnf); first | exact ⟨rfl, n9, hn9, rfl⟩ | exact ⟨n9, hn9, rfl⟩)
set_option maxRecDepth 100000 in
theorem cX5_select0 {D : mg_D} {l : Launch} (hl : l.stackTraces = false) {M : mg_M} {g₀ t₀ u₀ : Nat} {r₀ c₀ r' c' : Int} (K9 : mh_K M g₀ t₀ u₀) (h₀ : mh_rg (gi M t₀ 0) (gi M t₀ 1) r₀ c₀) (h' : mh_rg (gi M t₀ 0) (gi M t₀ 1) r' c') : mg_Mt D l 89 [.inr (.inl g₀), .inl r₀, .inl c₀, .inl r', .inl c'] M (fun v₀ N => v₀ = some (.inl ((gi N (g₀ + 259) 2 - gi N (g₀ + 259) 0 + 1) * (gi N (g₀ + 259) 3 - gi N (g₀ + 259) 1 + 1))) ∧ mh_hs M N t₀ (g₀ + 259) (min r₀ r') (max r₀ r') (min c₀ c') (max c₀ c')) mg_no := by
  refine mg_of2 hl ok_X5_select al_X5_select rfl (fun K hK₀ => ?_)
  obtain ⟨⟨G, g1, g3₀, g4, g5₀⟩, ⟨ka, kb, kk, kg, ck⟩, pl, ⟨tl, nb⟩, ⟨tbu, clu⟩, rb⟩ := K9
  have k6₀ := G.1
  have g0 := G.2.1
  have kt := G.2.2.1
  have tn₀ := G.2.2.2
  have g0n : gr M g₀ 0 ≠ 0 := by omega
  have k0₀ : kd M (gr M g₀ 0) = 5 := by rw [g0]; exact kt
  have cl₀ := tl.2.1
  have bb := tl.1.2.2
  have s5 : gr M t₀ 5 = t₀ + 3 := tl.1.1.2.2.2.1
  have s3₀ : gr M t₀ 3 = t₀ + 1 := tl.1.1.2.1
  have s4₀ : gr M t₀ 4 = t₀ + 2 := tl.1.1.2.2.1
  have t5₀ : gr M (gr M g₀ 0) 5 = t₀ + 3 := by rw [g0]; exact s5
  have t5n : gr M (gr M g₀ 0) 5 ≠ 0 := by omega
  have kc₀ : kd M (gr M (gr M g₀ 0) 5) = 4 := by rw [t5₀]; exact cl₀.1
  have t3₀ : gr M (gr M g₀ 0) 3 = t₀ + 1 := by rw [g0]; exact s3₀
  have t3n : gr M (gr M g₀ 0) 3 ≠ 0 := by omega
  have kh : kd M (gr M (gr M g₀ 0) 3) = 8 := by rw [t3₀]; exact tl.1.2.1.1.1
  have lh : ln M (gr M (gr M g₀ 0) 3) = 12 := by rw [t3₀]; exact tl.1.2.1.1.2
  have t4₀ : gr M (gr M g₀ 0) 4 = t₀ + 2 := by rw [g0]; exact s4₀
  have t4n : gr M (gr M g₀ 0) 4 ≠ 0 := by omega
  have kw : kd M (gr M (gr M g₀ 0) 4) = 8 := by rw [t4₀]; exact tl.1.2.1.2.1.1
  have lw : ln M (gr M (gr M g₀ 0) 4) = 10 := by rw [t4₀]; exact tl.1.2.1.2.1.2
  have g3n : gr M g₀ 3 ≠ 0 := by omega
  have k3₀ : kd M (gr M g₀ 3) = 1 := by rw [g3₀]; exact ka
  have g4n : gr M g₀ 4 ≠ 0 := by omega
  have k4₀ : kd M (gr M g₀ 4) = 1 := by rw [g4]; exact kb
  have g5n : gr M g₀ 5 ≠ 0 := by omega
  have k5₀ : kd M (gr M g₀ 5) = 2 := by rw [g5₀]; exact kk
  have c1₀ := @cX5_checkSquare0 D l hl M g₀ t₀ r₀ c₀ G h₀
  have c2₀ := @cX5_checkSquare0 D l hl M g₀ t₀ r' c' G h'
  have nt : t₀ ≠ g₀ + 259 := by omega
  have sp₀ : mg_Mt D l 15 [.inr (.inl (g₀ + 259)), .inl r₀, .inl c₀, .inl r', .inl c'] M (fun v₀ M' => v₀ = none ∧ M' = mg_put4 M (g₀ + 259) (min r₀ r') (min c₀ c') (max r₀ r') (max c₀ c')) mg_no := @cX0_span D l hl M (g₀ + 259) r₀ c₀ r' c' ka
  have ar := mh_p4_ar (M := M) (t₀ := t₀) (b₀ := g₀ + 259) (f₀ := min r₀ r') (e₀ := max r₀ r') (a₀ := min c₀ c') (d₀ := max c₀ c') nt (by omega)
  have fx := @mh_fx_p4 M (g₀ + 259) (min r₀ r') (min c₀ c') (max r₀ r') (max c₀ c')
  have tlY := (mh_fx_tl fx ka tl)
  have NB : mh_nb (mg_put4 M (g₀ + 259) (min r₀ r') (min c₀ c') (max r₀ r') (max c₀ c')) t₀ := fun p₀ q₀ h1 h2 h3 h4 => by rw [tlY.2.1]; exact nb p₀ q₀ h1 (by rw [← tlY.2.2.2.1]; exact h2) h3 (by rw [← tlY.2.2.2.2.1]; exact h4)
  have gh := @cX4_growHull D l hl (mg_put4 M (g₀ + 259) (min r₀ r') (min c₀ c') (max r₀ r') (max c₀ c')) t₀ (g₀ + 259) tlY.1 ((fx.1 (g₀ + 259)).trans ka) ar
  have Q0₀ := fun N => @mh_hs_of M N t₀ (g₀ + 259) (min r₀ r') (max r₀ r') (min c₀ c') (max c₀ c') tl ka
  have q1₀ := (fx.1 g₀).trans k6₀
  have q2₀ := (fx.2.2.1 g₀ 0).trans g0
  have q3₀ := (fx.2.2.1 g₀ 3).trans g3₀
  have tb₀ := tl.1
  have q2n : gr (mg_put4 M (g₀ + 259) (min r₀ r') (min c₀ c') (max r₀ r') (max c₀ c')) g₀ 0 ≠ 0 := by omega
  have q3n : gr (mg_put4 M (g₀ + 259) (min r₀ r') (min c₀ c') (max r₀ r') (max c₀ c')) g₀ 3 ≠ 0 := by omega
  have q4₀ : kd (mg_put4 M (g₀ + 259) (min r₀ r') (min c₀ c') (max r₀ r') (max c₀ c')) (gr (mg_put4 M (g₀ + 259) (min r₀ r') (min c₀ c') (max r₀ r') (max c₀ c')) g₀ 0) = 5 := by rw [q2₀]; exact (fx.1 t₀).trans kt
  have ND₀ : g₀ ≠ g₀ + 259 := by omega
  generalize mg_put4 M (g₀ + 259) (min r₀ r') (min c₀ c') (max r₀ r') (max c₀ c') = Y at *
  have SQ₀ : ∀ N, mh_hl Y N t₀ (g₀ + 259) → kd N g₀ = 6 ∧ gr N g₀ 3 = g₀ + 259 ∧ mg_Mt D l 16 [.inr (.inl (g₀ + 259))] N (fun v₀ M' => v₀ = some (.inl ((gi N (g₀ + 259) 2 - gi N (g₀ + 259) 0 + 1) * (gi N (g₀ + 259) 3 - gi N (g₀ + 259) 1 + 1))) ∧ M' = N) mg_no := by
    rintro N ⟨z1, z2, z3⟩
    refine ⟨(z1.1 g₀).trans q1₀, (z1.2.2.1 g₀ 3).trans q3₀, ?_⟩
    exact cX0_squares2 hl ((z1.1 _).trans ((fx.1 _).trans ka)) (mh_fx_tb z1 nt tlY.1.1) z2
  clear ar fx tlY NB tb₀
  clear G tl nb tbu clu ck cl₀
  refine hK₀ _ _ _ _ _ ?_
  (repeat' (((conv => whnf); first | (show (_ : Option mg_V) = _ ∧ _; assumption) | (show K _ _ _ _ _; assumption) | (show mm_th _ _ _ _; assumption) | refine And.intro (by first | assumption | omega | (simp only [true_and]; first | done | assumption | omega)) ?_ | (refine And.intro (fun _ => ?_) (fun _ => ?_) <;> first | (exfalso; omega) | skip) | intro _ | fail)))
  all_goals (try ((conv => whnf); (refine Exists.intro _ (Exists.intro _ (And.intro (c1₀) (And.intro ?_ (fun _ _ h₀ => h₀.elim)))); rintro _ _ ⟨rfl, e₀⟩; have e2₀ := e₀.symm; clear e₀; subst e2₀); (repeat' (((conv => whnf); first | (show (_ : Option mg_V) = _ ∧ _; assumption) | (show K _ _ _ _ _; assumption) | (show mm_th _ _ _ _; assumption) | refine And.intro (by first | assumption | omega | (simp only [true_and]; first | done | assumption | omega)) ?_ | (refine And.intro (fun _ => ?_) (fun _ => ?_) <;> first | (exfalso; omega) | skip) | intro _ | fail)))))
  all_goals (try ((conv => whnf); (refine Exists.intro _ (Exists.intro _ (And.intro (c2₀) (And.intro ?_ (fun _ _ h₀ => h₀.elim)))); rintro _ _ ⟨rfl, e₀⟩; have e2₀ := e₀.symm; clear e₀; subst e2₀); (repeat' (((conv => whnf); first | (show (_ : Option mg_V) = _ ∧ _; assumption) | (show K _ _ _ _ _; assumption) | (show mm_th _ _ _ _; assumption) | refine And.intro (by first | assumption | omega | (simp only [true_and]; first | done | assumption | omega)) ?_ | (refine And.intro (fun _ => ?_) (fun _ => ?_) <;> first | (exfalso; omega) | skip) | intro _ | fail)))))
  all_goals ((conv => whnf); rw [g3₀])
  (refine Exists.intro _ (Exists.intro _ (And.intro (sp₀) (And.intro ?_ (fun _ _ h₀ => h₀.elim)))); rintro _ _ ⟨rfl, e₀⟩; have e2₀ := e₀.symm; clear e₀; subst e2₀)
  (repeat' (((conv => whnf); first | (show (_ : Option mg_V) = _ ∧ _; assumption) | (show K _ _ _ _ _; assumption) | (show mm_th _ _ _ _; assumption) | refine And.intro (by first | assumption | omega | (simp only [true_and]; first | done | assumption | omega)) ?_ | (refine And.intro (fun _ => ?_) (fun _ => ?_) <;> first | (exfalso; omega) | skip) | intro _ | fail)))
  all_goals ((conv => whnf); rw [q2₀, q3₀])
  refine Exists.intro _ (Exists.intro _ (And.intro (gh) (And.intro ?_ (fun _ _ h₀ => h₀.elim))))
  rintro _ N ⟨rfl, Q1₀⟩
  obtain ⟨y1, y2, y4⟩ := SQ₀ N Q1₀
  have Q2₀ := Q0₀ N Q1₀
  have y2n : gr N g₀ 3 ≠ 0 := by omega
  have y3 : kd N (gr N g₀ 3) = 1 := by rw [y2]; exact (Q2₀.1.1 _).trans ka
  have Q₀ : some (Sum.inl ((gi N (g₀ + 259) 2 - gi N (g₀ + 259) 0 + 1) * (gi N (g₀ + 259) 3 - gi N (g₀ + 259) 1 + 1)) : mg_V) = some (.inl ((gi N (g₀ + 259) 2 - gi N (g₀ + 259) 0 + 1) * (gi N (g₀ + 259) 3 - gi N (g₀ + 259) 1 + 1))) ∧ mh_hs M N t₀ (g₀ + 259) (min r₀ r') (max r₀ r') (min c₀ c') (max c₀ c') := ⟨rfl, Q2₀⟩
  clear Q0₀ Q1₀ Q2₀ SQ₀ gh
  (repeat' (((conv => whnf); first | (show (_ : Option mg_V) = _ ∧ _; assumption) | (show K _ _ _ _ _; assumption) | (show mm_th _ _ _ _; assumption) | refine And.intro (by first | assumption | omega | (simp only [true_and]; first | done | assumption | omega)) ?_ | (refine And.intro (fun _ => ?_) (fun _ => ?_) <;> first | (exfalso; omega) | skip) | intro _ | fail)))
  all_goals ((conv => whnf); rw [y2])
  (refine Exists.intro _ (Exists.intro _ (And.intro (y4) (And.intro ?_ (fun _ _ h₀ => h₀.elim)))); rintro _ _ ⟨rfl, e₀⟩; have e2₀ := e₀.symm; clear e₀; subst e2₀)
  (repeat' (((conv => whnf); first | (show (_ : Option mg_V) = _ ∧ _; assumption) | (show K _ _ _ _ _; assumption) | (show mm_th _ _ _ _; assumption) | refine And.intro (by first | assumption | omega | (simp only [true_and]; first | done | assumption | omega)) ?_ | (refine And.intro (fun _ => ?_) (fun _ => ?_) <;> first | (exfalso; omega) | skip) | intro _ | fail)))
set_option maxRecDepth 100000 in
theorem cX5_select1 {D : mg_D} {l : Launch} (hl : l.stackTraces = false) {M : mg_M} {g₀ t₀ u₀ : Nat} {r₀ c₀ r' c' : Int} (K9 : mh_K M g₀ t₀ u₀) (h₀ : ¬ (mh_rg (gi M t₀ 0) (gi M t₀ 1) r₀ c₀ ∧ mh_rg (gi M t₀ 0) (gi M t₀ 1) r' c')) : mg_Mt D l 89 [.inr (.inl g₀), .inl r₀, .inl c₀, .inl r', .inl c'] M mh_nN (mh_tX 1 M) := by
  refine mg_of2 hl ok_X5_select al_X5_select rfl (fun K hK₀ => ?_)
  obtain ⟨⟨G, g1, g3₀, g4, g5₀⟩, ⟨ka, kb, kk, kg, ck⟩, pl, ⟨tl, nb⟩, ⟨tbu, clu⟩, rb⟩ := K9
  have k6₀ := G.1
  have g0 := G.2.1
  have kt := G.2.2.1
  have tn₀ := G.2.2.2
  have g0n : gr M g₀ 0 ≠ 0 := by omega
  have k0₀ : kd M (gr M g₀ 0) = 5 := by rw [g0]; exact kt
  have cl₀ := tl.2.1
  have bb := tl.1.2.2
  have s5 : gr M t₀ 5 = t₀ + 3 := tl.1.1.2.2.2.1
  have s3₀ : gr M t₀ 3 = t₀ + 1 := tl.1.1.2.1
  have s4₀ : gr M t₀ 4 = t₀ + 2 := tl.1.1.2.2.1
  have t5₀ : gr M (gr M g₀ 0) 5 = t₀ + 3 := by rw [g0]; exact s5
  have t5n : gr M (gr M g₀ 0) 5 ≠ 0 := by omega
  have kc₀ : kd M (gr M (gr M g₀ 0) 5) = 4 := by rw [t5₀]; exact cl₀.1
  have t3₀ : gr M (gr M g₀ 0) 3 = t₀ + 1 := by rw [g0]; exact s3₀
  have t3n : gr M (gr M g₀ 0) 3 ≠ 0 := by omega
  have kh : kd M (gr M (gr M g₀ 0) 3) = 8 := by rw [t3₀]; exact tl.1.2.1.1.1
  have lh : ln M (gr M (gr M g₀ 0) 3) = 12 := by rw [t3₀]; exact tl.1.2.1.1.2
  have t4₀ : gr M (gr M g₀ 0) 4 = t₀ + 2 := by rw [g0]; exact s4₀
  have t4n : gr M (gr M g₀ 0) 4 ≠ 0 := by omega
  have kw : kd M (gr M (gr M g₀ 0) 4) = 8 := by rw [t4₀]; exact tl.1.2.1.2.1.1
  have lw : ln M (gr M (gr M g₀ 0) 4) = 10 := by rw [t4₀]; exact tl.1.2.1.2.1.2
  have g3n : gr M g₀ 3 ≠ 0 := by omega
  have k3₀ : kd M (gr M g₀ 3) = 1 := by rw [g3₀]; exact ka
  have g4n : gr M g₀ 4 ≠ 0 := by omega
  have k4₀ : kd M (gr M g₀ 4) = 1 := by rw [g4]; exact kb
  have g5n : gr M g₀ 5 ≠ 0 := by omega
  have k5₀ : kd M (gr M g₀ 5) = 2 := by rw [g5₀]; exact kk
  by_cases h1 : mh_rg (gi M t₀ 0) (gi M t₀ 1) r₀ c₀
  · have c1₀ := @cX5_checkSquare0 D l hl M g₀ t₀ r₀ c₀ G h1
    have c2₀ := @cX5_checkSquare1 D l hl M g₀ t₀ r' c' G (fun w₀ => h₀ ⟨h1, w₀⟩)
    clear h1
    clear G tl nb tbu clu ck cl₀
    refine hK₀ _ _ _ _ _ ?_
    (repeat' (((conv => whnf); first | (show (_ : Option mg_V) = _ ∧ _; assumption) | (show K _ _ _ _ _; assumption) | (show mm_th _ _ _ _; assumption) | refine And.intro (by first | assumption | omega | (simp only [true_and]; first | done | assumption | omega)) ?_ | (refine And.intro (fun _ => ?_) (fun _ => ?_) <;> first | (exfalso; omega) | skip) | intro _ | fail)))
    all_goals (try ((conv => whnf); (refine Exists.intro _ (Exists.intro _ (And.intro (c1₀) (And.intro ?_ (fun _ _ h₀ => h₀.elim)))); rintro _ _ ⟨rfl, e₀⟩; have e2₀ := e₀.symm; clear e₀; subst e2₀); (repeat' (((conv => whnf); first | (show (_ : Option mg_V) = _ ∧ _; assumption) | (show K _ _ _ _ _; assumption) | (show mm_th _ _ _ _; assumption) | refine And.intro (by first | assumption | omega | (simp only [true_and]; first | done | assumption | omega)) ?_ | (refine And.intro (fun _ => ?_) (fun _ => ?_) <;> first | (exfalso; omega) | skip) | intro _ | fail)))))
    all_goals ((conv => whnf); skip)
    (refine Exists.intro _ (Exists.intro _ (And.intro (c2₀) (And.intro (fun _ _ h₀ => h₀.elim) ?_))); rintro _ _ ⟨rfl, n9, hn9, rfl⟩; (conv => whnf); first | exact ⟨rfl, n9, hn9, rfl⟩ | exact ⟨n9, hn9, rfl⟩)
  · have c1₀ := @cX5_checkSquare1 D l hl M g₀ t₀ r₀ c₀ G h1
    clear h1
    clear G tl nb tbu clu ck cl₀
    refine hK₀ _ _ _ _ _ ?_
    (repeat' (((conv => whnf); first | (show (_ : Option mg_V) = _ ∧ _; assumption) | (show K _ _ _ _ _; assumption) | (show mm_th _ _ _ _; assumption) | refine And.intro (by first | assumption | omega | (simp only [true_and]; first | done | assumption | omega)) ?_ | (refine And.intro (fun _ => ?_) (fun _ => ?_) <;> first | (exfalso; omega) | skip) | intro _ | fail)))
    all_goals ((conv => whnf); skip)
    (refine Exists.intro _ (Exists.intro _ (And.intro (c1₀) (And.intro (fun _ _ h₀ => h₀.elim) ?_))); rintro _ _ ⟨rfl, n9, hn9, rfl⟩; (conv => whnf); first | exact ⟨rfl, n9, hn9, rfl⟩ | exact ⟨n9, hn9, rfl⟩)
def mh_tq (M : mg_M) (t₀ : Nat) (p₀ q₀ : Nat) : Int := if gi M (mh_co M t₀ p₀ q₀) 0 = p₀ ∧ gi M (mh_co M t₀ p₀ q₀) 1 = q₀ then 1 else 0
theorem mh_tq_sum {M : mg_M} {t₀ : Nat} (tl : mh_tl M t₀) (nb : mh_nb M t₀) : mh_sum (fun p₀ => mh_sum (fun q₀ => mh_tq M t₀ p₀ q₀) (gi M t₀ 1).toNat) (gi M t₀ 0).toNat = gi M (t₀ + 3) 0 := by
  have bb := tl.1.2.2
  have own₀ := tl.2.2.2.1
  have z₀ := tl.2.1.2.2.2.2.2.2.1
  have e1₀ : ∀ p₀ : Nat, p₀ < (gi M t₀ 0).toNat → ∀ q₀ : Nat, q₀ < (gi M t₀ 1).toNat → mh_tq M t₀ p₀ q₀ = mh_sum (fun i₀ => if gi M (gr M (t₀ + 3 + 1) i₀) 0 = p₀ ∧ gi M (gr M (t₀ + 3 + 1) i₀) 1 = q₀ then 1 else 0) (gi M (t₀ + 3) 0).toNat := by
    intro p₀ hp q₀ hq
    obtain ⟨j₀, hj, w₀, eo⟩ := @mh_tl_ow M t₀ p₀ q₀ tl (by omega) (by omega) (nb p₀ q₀ (by omega) (by omega) (by omega) (by omega))
    have ej := own₀ j₀ hj p₀ q₀ w₀
    unfold mh_tq
    rw [mh_co_at (by omega) ej]
    have e₀ : ∀ i₀ : Nat, i₀ < (gi M (t₀ + 3) 0).toNat → (if gi M (gr M (t₀ + 3 + 1) i₀) 0 = p₀ ∧ gi M (gr M (t₀ + 3 + 1) i₀) 1 = q₀ then (1 : Int) else 0) = if i₀ = j₀ then (if gi M (gr M (t₀ + 3 + 1) j₀) 0 = p₀ ∧ gi M (gr M (t₀ + 3 + 1) j₀) 1 = q₀ then 1 else 0) else 0 := by
      intro i₀ hi
      by_cases x₀ : i₀ = j₀
      · rw [x₀, if_pos (Eq.refl j₀)]
      · rw [if_neg x₀, if_neg]
        rintro ⟨y1, y2⟩
        have v₀ := mh_ok_cv (tl.2.2.1 i₀ (by omega))
        rw [y1, y2] at v₀
        have := own₀ i₀ (by omega) p₀ q₀ v₀
        omega
    rw [mh_sum_cg _ e₀]
    exact (mh_sum_pt _ (by omega)).symm
  have e2₀ : mh_sum (fun p₀ => mh_sum (fun q₀ => mh_tq M t₀ p₀ q₀) (gi M t₀ 1).toNat) (gi M t₀ 0).toNat = mh_sum (fun p₀ => mh_sum (fun q₀ => mh_sum (fun i₀ => if gi M (gr M (t₀ + 3 + 1) i₀) 0 = p₀ ∧ gi M (gr M (t₀ + 3 + 1) i₀) 1 = q₀ then 1 else 0) (gi M (t₀ + 3) 0).toNat) (gi M t₀ 1).toNat) (gi M t₀ 0).toNat := mh_sum_cg _ (fun p₀ hp => mh_sum_cg _ (fun q₀ hq => e1₀ p₀ hp q₀ hq))
  have e3₀ : ∀ p₀ : Nat, mh_sum (fun q₀ => mh_sum (fun i₀ => if gi M (gr M (t₀ + 3 + 1) i₀) 0 = p₀ ∧ gi M (gr M (t₀ + 3 + 1) i₀) 1 = q₀ then (1 : Int) else 0) (gi M (t₀ + 3) 0).toNat) (gi M t₀ 1).toNat = mh_sum (fun i₀ => mh_sum (fun q₀ => if gi M (gr M (t₀ + 3 + 1) i₀) 0 = p₀ ∧ gi M (gr M (t₀ + 3 + 1) i₀) 1 = q₀ then (1 : Int) else 0) (gi M t₀ 1).toNat) (gi M (t₀ + 3) 0).toNat := fun p₀ => (mh_sum_sw _ _ _)
  rw [e2₀]
  simp only [e3₀]
  rw [mh_sum_sw]
  have e4₀ : mh_sum (fun _ => 1) (gi M (t₀ + 3) 0).toNat = gi M (t₀ + 3) 0 := by
    rw [mh_sum_cm, Int.mul_one, Int.toNat_of_nonneg (by omega)]
  refine (mh_sum_cg _ (fun i₀ hi => ?_)).trans e4₀
  have o := tl.2.2.1 i₀ (by omega)
  unfold mh_ok at o
  have e5₀ : ∀ p₀ : Nat, mh_sum (fun q₀ => if gi M (gr M (t₀ + 3 + 1) i₀) 0 = p₀ ∧ gi M (gr M (t₀ + 3 + 1) i₀) 1 = q₀ then (1 : Int) else 0) (gi M t₀ 1).toNat = if p₀ = (gi M (gr M (t₀ + 3 + 1) i₀) 0).toNat then 1 else 0 := by
    intro p₀
    have h1 := @mh_sum_pt (if p₀ = (gi M (gr M (t₀ + 3 + 1) i₀) 0).toNat then 1 else 0) (gi M (gr M (t₀ + 3 + 1) i₀) 1).toNat (gi M t₀ 1).toNat (by omega)
    refine (mh_sum_cg _ (fun q₀ hq => ?_)).trans h1
    (repeat' split) <;> first | rfl | omega
  simp only [e5₀]
  exact mh_sum_pt _ (by omega)
set_option maxRecDepth 100000 in
theorem cX5_cellsBySquares {D : mg_D} {l : Launch} (hl : l.stackTraces = false) {M : mg_M} {g₀ t₀ u₀ : Nat} (K9 : mh_K M g₀ t₀ u₀) : mg_Mt D l 75 [.inr (.inl g₀)] M (fun v₀ N => v₀ = some (.inl (gi M (t₀ + 3) 0)) ∧ N = M) mg_no := by
  refine mg_of2 hl ok_X5_cellsBySquares al_X5_cellsBySquares rfl (fun K hK₀ => ?_)
  obtain ⟨⟨G, g1, g3₀, g4, g5₀⟩, ⟨ka, kb, kk, kg, ck⟩, pl, ⟨tl, nb⟩, ⟨tbu, clu⟩, rb⟩ := K9
  have k6₀ := G.1
  have g0 := G.2.1
  have kt := G.2.2.1
  have tn₀ := G.2.2.2
  have g0n : gr M g₀ 0 ≠ 0 := by omega
  have k0₀ : kd M (gr M g₀ 0) = 5 := by rw [g0]; exact kt
  have cl₀ := tl.2.1
  have bb := tl.1.2.2
  have s5 : gr M t₀ 5 = t₀ + 3 := tl.1.1.2.2.2.1
  have s3₀ : gr M t₀ 3 = t₀ + 1 := tl.1.1.2.1
  have s4₀ : gr M t₀ 4 = t₀ + 2 := tl.1.1.2.2.1
  have t5₀ : gr M (gr M g₀ 0) 5 = t₀ + 3 := by rw [g0]; exact s5
  have t5n : gr M (gr M g₀ 0) 5 ≠ 0 := by omega
  have kc₀ : kd M (gr M (gr M g₀ 0) 5) = 4 := by rw [t5₀]; exact cl₀.1
  have t3₀ : gr M (gr M g₀ 0) 3 = t₀ + 1 := by rw [g0]; exact s3₀
  have t3n : gr M (gr M g₀ 0) 3 ≠ 0 := by omega
  have kh : kd M (gr M (gr M g₀ 0) 3) = 8 := by rw [t3₀]; exact tl.1.2.1.1.1
  have lh : ln M (gr M (gr M g₀ 0) 3) = 12 := by rw [t3₀]; exact tl.1.2.1.1.2
  have t4₀ : gr M (gr M g₀ 0) 4 = t₀ + 2 := by rw [g0]; exact s4₀
  have t4n : gr M (gr M g₀ 0) 4 ≠ 0 := by omega
  have kw : kd M (gr M (gr M g₀ 0) 4) = 8 := by rw [t4₀]; exact tl.1.2.1.2.1.1
  have lw : ln M (gr M (gr M g₀ 0) 4) = 10 := by rw [t4₀]; exact tl.1.2.1.2.1.2
  have g3n : gr M g₀ 3 ≠ 0 := by omega
  have k3₀ : kd M (gr M g₀ 3) = 1 := by rw [g3₀]; exact ka
  have g4n : gr M g₀ 4 ≠ 0 := by omega
  have k4₀ : kd M (gr M g₀ 4) = 1 := by rw [g4]; exact kb
  have g5n : gr M g₀ 5 ≠ 0 := by omega
  have k5₀ : kd M (gr M g₀ 5) = 2 := by rw [g5₀]; exact kk
  have ts := mh_tq_sum tl nb
  have q01 : ∀ p₀ q₀ : Nat, 0 ≤ mh_tq M t₀ p₀ q₀ ∧ mh_tq M t₀ p₀ q₀ ≤ 1 := fun p₀ q₀ => by unfold mh_tq; split <;> omega
  have LP₀ : K 4 [(0, Sum.inr (Sum.inl g₀)), (1, Sum.inl 0), (2, Sum.inl 0)] [] M 0 := by
    refine mh_for (P := fun p₀ s₀ => s₀ = mh_sum (fun p₀ => mh_sum (fun q₀ => mh_tq M t₀ p₀ q₀) (gi M t₀ 1).toNat) p₀.toNat) (G := fun p₀ s₀ => K 4 [(0, Sum.inr (Sum.inl g₀)), (1, Sum.inl s₀), (2, Sum.inl p₀)] [] M 0) (lo := 0) (hi := gi M t₀ 0) (by omega) ?_ ?_ 0 rfl
    · intro s₀ hs
      rw [ts] at hs
      have Q₀ : some (Sum.inl s₀ : mg_V) = some (.inl (gi M (t₀ + 3) 0)) ∧ M = M := ⟨by rw [hs], rfl⟩
      have e0₀ : gi M (gr M g₀ 0) 0 = gi M t₀ 0 := by rw [g0]
      clear hs ts q01
      clear G tl nb tbu clu ck cl₀
      refine hK₀ _ _ _ _ _ ?_
      (repeat' (((conv => whnf); first | (show (_ : Option mg_V) = _ ∧ _; assumption) | (show K _ _ _ _ _; assumption) | (show mm_th _ _ _ _; assumption) | refine And.intro (by first | assumption | omega | (simp only [true_and]; first | done | assumption | omega)) ?_ | (refine And.intro (fun _ => ?_) (fun _ => ?_) <;> first | (exfalso; omega) | skip) | intro _ | fail)))
    · intro p₀ s₀ p0₀ p1₀ hs nex
      have sb₀ := mh_suml (fun p₀ => mh_sum (fun q₀ => mh_tq M t₀ p₀ q₀) (gi M t₀ 1).toNat) 20 p₀.toNat (fun i₀ _ => by
        have := mh_suml (fun q₀ => mh_tq M t₀ i₀ q₀) 1 (gi M t₀ 1).toNat (fun j₀ _ => q01 i₀ j₀)
        show 0 ≤ mh_sum (fun q₀ => mh_tq M t₀ i₀ q₀) (gi M t₀ 1).toNat ∧ mh_sum (fun q₀ => mh_tq M t₀ i₀ q₀) (gi M t₀ 1).toNat ≤ 20
        omega)
      rw [← hs] at sb₀
      have es := @mh_sumI (fun p₀ => mh_sum (fun q₀ => mh_tq M t₀ p₀ q₀) (gi M t₀ 1).toNat) p₀ p0₀
      rw [← hs] at es
      have LP2 : K 17 [(0, Sum.inr (Sum.inl g₀)), (1, Sum.inl s₀), (2, Sum.inl p₀), (3, Sum.inl 0)] [] M 0 := by
        refine mh_for (P := fun q₀ s' => s' = s₀ + mh_sum (fun q₀ => mh_tq M t₀ p₀.toNat q₀) q₀.toNat) (G := fun q₀ s' => K 17 [(0, Sum.inr (Sum.inl g₀)), (1, Sum.inl s'), (2, Sum.inl p₀), (3, Sum.inl q₀)] [] M 0) (lo := 0) (hi := gi M t₀ 1) (by omega) ?_ ?_ s₀ (by show s₀ = s₀ + 0; omega)
        · intro s' hs'
          have n2₀ := nex s' (by rw [es, hs'])
          have e0₀ : gi M (gr M g₀ 0) 1 = gi M t₀ 1 := by rw [g0]
          have sb2 := mh_suml (fun q₀ => mh_tq M t₀ p₀.toNat q₀) 1 (gi M t₀ 1).toNat (fun j₀ _ => q01 _ j₀)
          clear nex es ts q01 hs
          clear G tl nb tbu clu ck cl₀
          refine hK₀ _ _ _ _ _ ?_
          (repeat' (((conv => whnf); first | (show (_ : Option mg_V) = _ ∧ _; assumption) | (show K _ _ _ _ _; assumption) | (show mm_th _ _ _ _; assumption) | refine And.intro (by first | assumption | omega | (simp only [true_and]; first | done | assumption | omega)) ?_ | (refine And.intro (fun _ => ?_) (fun _ => ?_) <;> first | (exfalso; omega) | skip) | intro _ | fail)))
        · intro q₀ s' r0 r1₀ hs' nex2
          have es2 := @mh_sumI (fun q₀ => mh_tq M t₀ p₀.toNat q₀) q₀ r0
          have sb2 := mh_suml (fun q₀ => mh_tq M t₀ p₀.toNat q₀) 1 q₀.toNat (fun j₀ _ => q01 _ j₀)
          have c3₀ := @cX4_cellAt D l hl M t₀ p₀ q₀ tl (by omega) (by omega) (nb p₀ q₀ (by omega) (by omega) (by omega) (by omega))
          have sm₀ := (@mh_co_sm M t₀ p₀ q₀ tl nb (by omega) (by omega)).1
          have eq9₀ : mh_tq M t₀ p₀.toNat q₀.toNat = if gi M (mh_co M t₀ p₀ q₀) 0 = p₀ ∧ gi M (mh_co M t₀ p₀ q₀) 1 = q₀ then 1 else 0 := by
            unfold mh_tq
            rw [Int.toNat_of_nonneg p0₀, Int.toNat_of_nonneg r0]
          have n3₀ : ∀ z₀, z₀ = s' + (if gi M (mh_co M t₀ p₀ q₀) 0 = p₀ ∧ gi M (mh_co M t₀ p₀ q₀) 1 = q₀ then 1 else 0) → K 17 [(0, Sum.inr (Sum.inl g₀)), (1, Sum.inl z₀), (2, Sum.inl p₀), (3, Sum.inl (q₀ + 1))] [] M 0 := by
            intro z₀ hz
            refine nex2 z₀ ?_
            rw [es2, eq9₀]
            omega
          have e0₀ : gi M (gr M g₀ 0) 1 = gi M t₀ 1 := by rw [g0]
          clear nex nex2 es es2 ts q01 hs eq9₀
          clear G tl nb tbu clu ck cl₀
          refine hK₀ _ _ _ _ _ ?_
          (repeat' (((conv => whnf); first | (show (_ : Option mg_V) = _ ∧ _; assumption) | (show K _ _ _ _ _; assumption) | (show mm_th _ _ _ _; assumption) | refine And.intro (by first | assumption | omega | (simp only [true_and]; first | done | assumption | omega)) ?_ | (refine And.intro (fun _ => ?_) (fun _ => ?_) <;> first | (exfalso; omega) | skip) | intro _ | fail)))
          all_goals ((conv => whnf); (try rw [g0]); (try rw [s5]); (try rw [s3₀]); (try rw [s4₀]); (try rw [g3₀]); (try rw [g4]); (try rw [g5₀]))
          (refine Exists.intro _ (Exists.intro _ (And.intro (c3₀) (And.intro ?_ (fun _ _ h₀ => h₀.elim)))); rintro _ _ ⟨rfl, e₀⟩; have e2₀ := e₀.symm; clear e₀; subst e2₀)
          (repeat' (((conv => whnf); first | (show (_ : Option mg_V) = _ ∧ _; assumption) | (show K _ _ _ _ _; assumption) | (show mm_th _ _ _ _; assumption) | refine And.intro (by first | assumption | omega | (simp only [true_and]; first | done | assumption | omega)) ?_ | (refine And.intro (fun _ => ?_) (fun _ => ?_) <;> first | (exfalso; omega) | skip) | intro _ | fail)))
          all_goals ((conv => whnf); exact n3₀ _ (by split <;> omega))
      have e0₀ : gi M (gr M g₀ 0) 0 = gi M t₀ 0 := by rw [g0]
      clear nex es ts q01 hs
      clear G tl nb tbu clu ck cl₀
      refine hK₀ _ _ _ _ _ ?_
      (repeat' (((conv => whnf); first | (show (_ : Option mg_V) = _ ∧ _; assumption) | (show K _ _ _ _ _; assumption) | (show mm_th _ _ _ _; assumption) | refine And.intro (by first | assumption | omega | (simp only [true_and]; first | done | assumption | omega)) ?_ | (refine And.intro (fun _ => ?_) (fun _ => ?_) <;> first | (exfalso; omega) | skip) | intro _ | fail)))
  clear ts q01
  clear G tl nb tbu clu ck cl₀
  refine hK₀ _ _ _ _ _ ?_
  (repeat' (((conv => whnf); first | (show (_ : Option mg_V) = _ ∧ _; assumption) | (show K _ _ _ _ _; assumption) | (show mm_th _ _ _ _; assumption) | refine And.intro (by first | assumption | omega | (simp only [true_and]; first | done | assumption | omega)) ?_ | (refine And.intro (fun _ => ?_) (fun _ => ?_) <;> first | (exfalso; omega) | skip) | intro _ | fail)))
