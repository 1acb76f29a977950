/-! MergeGrid.takeBack -/
set_option maxRecDepth 100000 in
theorem cX5_takeBack0 {D : mg_D} {l : Launch} (hl : l.stackTraces = false) {M : mg_M} {g₀ t₀ u₀ : Nat} {Y : mg_M} (K9 : mh_K M g₀ t₀ u₀) (h₀ : gi M g₀ 2 = 1) (tlu : mh_tl M u₀) (nbu : mh_nb M u₀) (hu : 1 ≤ gi M u₀ 0 ∧ 1 ≤ gi M u₀ 1) (hY : Y = sr (sr M g₀ 1 t₀) g₀ 0 u₀) : mg_Mt D l 109 [.inr (.inl g₀)] M (fun v₀ N => v₀ = some (.inl (if gi M (u₀ + 3) 0 = gi M (t₀ + 3) 0 then 1 else 0)) ∧ mh_hs Y N u₀ (g₀ + 259) 0 0 0 0) mg_no := by
  refine mg_of2 hl ok_X5_takeBack al_X5_takeBack rfl (fun K hK₀ => ?_)
  have F9 := mh_gF_of K9
  have pl0 := F9.2.2.2.2
  have rY : ∀ a₀ k₀, a₀ ≠ g₀ → gr Y a₀ k₀ = gr M a₀ k₀ := fun a₀ k₀ hn => by rw [hY, gr_sr, if_neg (fun w₀ => hn w₀.1), gr_sr, if_neg (fun w₀ => hn w₀.1)]
  have vY : ∀ a₀ k₀, gi Y a₀ k₀ = gi M a₀ k₀ := fun a₀ k₀ => by rw [hY]; rfl
  have kY : ∀ a₀, kd Y a₀ = kd M a₀ := fun a₀ => by rw [hY]; rfl
  have lY : ∀ a₀, ln Y a₀ = ln M a₀ := fun a₀ => by rw [hY]; rfl
  have gY0 : gr Y g₀ 0 = u₀ := by rw [hY, gr_sr, if_pos ⟨rfl, rfl⟩]
  have gY1 : gr Y g₀ 1 = t₀ := by rw [hY, gr_sr, if_neg (by omega), gr_sr, if_pos ⟨rfl, rfl⟩]
  have gYk : ∀ k₀, k₀ ≠ 0 → k₀ ≠ 1 → gr Y g₀ k₀ = gr M g₀ k₀ := fun k₀ h0 h1 => by rw [hY, gr_sr, if_neg (fun w₀ => h0 w₀.2), gr_sr, if_neg (fun w₀ => h1 w₀.2)]
  have eu : mh_eq M Y u₀ := fun a₀ h1 h2 => ⟨kY a₀, lY a₀, fun k₀ => rY a₀ k₀ (by omega), fun k₀ => vY a₀ k₀⟩
  have tlY := (mh_eq_tl eu tlu nbu).1
  have GY : mh_G0 Y g₀ u₀ := ⟨(kY g₀).trans F9.1.1, gY0, (kY u₀).trans F9.2.2.1.1, by omega⟩
  have SF := @cX5_selectFirst D l hl Y g₀ u₀ (g₀ + 259) GY ((gYk 3 (by omega) (by omega)).trans F9.1.2.2.2.1) (by omega) ((kY _).trans F9.2.2.2.1.1) tlY (by rw [vY, vY]; exact hu)
  have k6₀ := F9.1.1
  have g0 := F9.1.2.1
  have g1 := F9.1.2.2.1
  have kt := F9.2.1.1
  have ku := F9.2.2.1.1
  have s5 := F9.2.1.2.1
  have r5₀ := F9.2.2.1.2.1
  have kct := F9.2.1.2.2.2.2.1
  have kcu := F9.2.2.1.2.2.2.2.1
  have g0n : gr M g₀ 0 ≠ 0 := by omega
  have g1n : gr M g₀ 1 ≠ 0 := by omega
  have hY' : sr (sr M g₀ 1 (gr M g₀ 0)) g₀ 0 (gr M g₀ 1) = Y := by rw [hY, g0, g1]
  have b1 : kd (sr M g₀ 1 (gr M g₀ 0)) g₀ = 6 := k6₀
  have b2 : kd (sr (sr M g₀ 1 (gr M g₀ 0)) g₀ 0 (gr M g₀ 1)) g₀ = 6 := k6₀
  have yk6 := GY.1
  clear eu tlY GY tlu nbu K9 F9 hY
  refine hK₀ _ _ _ _ _ ?_
  (repeat' (((conv => whnf); first | (show (_ : Option mg_V) = _ ∧ _; assumption) | (show K _ _ _ _ _; assumption) | (show mm_th _ _ _ _; assumption) | refine And.intro (by first | assumption | omega | (simp only [true_and]; first | done | assumption | omega)) ?_ | (refine And.intro (fun _ => ?_) (fun _ => ?_) <;> first | (exfalso; omega) | skip) | intro _ | fail)))
  all_goals ((conv => whnf); rw [hY'])
  refine Exists.intro _ (Exists.intro _ (And.intro (SF) (And.intro ?_ (fun _ _ h₀ => h₀.elim))))
  rintro _ N ⟨rfl, q2₀⟩
  have fr₀ := q2₀.1
  have n1₀ := (fr₀.1 g₀).trans ((kY g₀).trans k6₀)
  have n2₀ := (fr₀.2.2.1 g₀ 0).trans gY0
  have n3₀ := (fr₀.2.2.1 g₀ 1).trans gY1
  have n2n : gr N g₀ 0 ≠ 0 := by omega
  have n3n : gr N g₀ 1 ≠ 0 := by omega
  have n4₀ : kd N (gr N g₀ 0) = 5 := by rw [n2₀]; exact (fr₀.1 u₀).trans ((kY u₀).trans ku)
  have n5₀ : kd N (gr N g₀ 1) = 5 := by rw [n3₀]; exact (fr₀.1 t₀).trans ((kY t₀).trans kt)
  have n6₀ : gr N (gr N g₀ 0) 5 = u₀ + 3 := by rw [n2₀]; exact (fr₀.2.2.1 u₀ 5).trans ((rY u₀ 5 (by omega)).trans r5₀)
  have n7 : gr N (gr N g₀ 1) 5 = t₀ + 3 := by rw [n3₀]; exact (fr₀.2.2.1 t₀ 5).trans ((rY t₀ 5 (by omega)).trans s5)
  have n6n : gr N (gr N g₀ 0) 5 ≠ 0 := by omega
  have n7n : gr N (gr N g₀ 1) 5 ≠ 0 := by omega
  have n8 : kd N (gr N (gr N g₀ 0) 5) = 4 := by rw [n6₀]; exact (fr₀.1 _).trans ((kY _).trans kcu)
  have n9 : kd N (gr N (gr N g₀ 1) 5) = 4 := by rw [n7]; exact (fr₀.1 _).trans ((kY _).trans kct)
  have m1₀ : gi N (gr N (gr N g₀ 0) 5) 0 = gi M (u₀ + 3) 0 := by rw [n6₀]; exact (fr₀.2.2.2.2.2.2 _ 0 (by omega)).trans (vY _ 0)
  have m2₀ : gi N (gr N (gr N g₀ 1) 5) 0 = gi M (t₀ + 3) 0 := by rw [n7]; exact (fr₀.2.2.2.2.2.2 _ 0 (by omega)).trans (vY _ 0)
  clear SF fr₀ rY vY kY lY gYk
  (repeat' (((conv => whnf); first | (show (_ : Option mg_V) = _ ∧ _; assumption) | (show K _ _ _ _ _; assumption) | (show mm_th _ _ _ _; assumption) | refine And.intro (by first | assumption | omega | (simp only [true_and]; first | done | assumption | omega)) ?_ | (refine And.intro (fun _ => ?_) (fun _ => ?_) <;> first | (exfalso; omega) | skip) | intro _ | fail)))
  all_goals ((conv => whnf); refine And.intro ?_ q2₀; congr 2; first | (rw [if_pos (by omega)]) | (rw [if_neg (by omega)]))
