def mh_bt (M : mg_M) (t u : Nat) : mg_M := cpy (cpy (cpy (si (si (si M t 0 (gi M u 0)) t 1 (gi M u 1)) t 2 (gi M u 2)) (u + 1) (t + 1) 12) (u + 2) (t + 2) 10) (u + 126) (t + 126) 120
theorem mh_bt_cL {M : mg_M} {t u c : Nat} (h : mg_cL M c) (h0 : c ≠ t) (h1 : c ≠ t + 1) (h2 : c ≠ t + 2) (h3 : c ≠ t + 126) : mg_cL (mh_bt M t u) c := by
  refine mh_fr_cL h (fun _ => rfl) (fun _ => rfl) (fun _ _ => rfl) ?_
  unfold mh_bt
  simp only [gi_cpy, gi_si, h0, h1, h2, h3, false_and, if_false]
set_option maxRecDepth 100000 in
theorem cX4_become {D : mg_D} {l : Launch} (hl : l.stackTraces = false) {M : mg_M} {t u : Nat} (ht : mg_tb M t) (hu : mg_tb M u) (hc : mg_cL M (t + 3)) (hd : mg_cL M (u + 3)) (htu : t + 130 ≤ u ∨ u + 130 ≤ t) : mg_Mt D l 42 [.inr (.inl t), .inr (.inl u)] M (fun v N => v = none ∧ N = mh_bc (t + 3) (u + 3) (mh_bt M t u) (gi (mh_bt M t u) (u + 3) 0).toNat) mg_no := by
  refine mg_of2 hl ok_X4_become al_X4_become rfl (fun K hK => ?_)
  obtain ⟨⟨g1, g2, g3, g4, g5, g6, g7⟩, ⟨⟨b1, b2⟩, ⟨b3, b4⟩, ⟨b5, b6⟩, ⟨b7, b8⟩, b9, b10⟩, d1⟩ := ht
  obtain ⟨⟨G1, G2, G3, G4, G5, G6, G7⟩, ⟨⟨B1, B2⟩, ⟨B3, B4⟩, ⟨B5, B6⟩, ⟨B7, B8⟩, B9, B10⟩, D1⟩ := hu
  refine hK _ _ _ _ _ ?_
  (repeat' (((conv => whnf); first | refine And.intro (by first | omega | (simp only [kd_si, ln_si, gr_si, kd_cpy, ln_cpy, gr_cpy, g2, g3, g4, g5, G2, G3, G4, G5, b1, b2, b3, b4, b5, b6, B1, B2, B3, B4, B5, B6, true_and]; first | done | omega)) ?_ | (refine And.intro (fun _ => ?_) (fun _ => ?_) <;> first | (exfalso; omega) | skip) | intro _ | fail)))
  (conv => whnf)
  have hut : ¬ (u = t) := by omega
  have q1 : mg_cL (mh_bt M t u) (t + 3) := mh_bt_cL hc (by omega) (by omega) (by omega) (by omega)
  have q2 : mg_cL (mh_bt M t u) (u + 3) := mh_bt_cL hd (by omega) (by omega) (by omega) (by omega)
  simp only [kd_si, ln_si, gr_si, kd_cpy, ln_cpy, gr_cpy, g2, g3, g4, g5, G2, G3, G4, G5, b1, b2, b3, b4, b5, b6, B1, B2, B3, B4, B5, B6, true_and, gi_si, hut, false_and, if_false]
  refine And.intro hc.1 ?_
  (conv => whnf)
  refine Exists.intro _ (Exists.intro _ (And.intro (cX3_become (M := mh_bt M t u) hl q1 q2 (by omega)) (And.intro ?_ (fun _ _ h => h.elim))))
  rintro _ _ ⟨rfl, e⟩
  (conv => whnf)
  exact And.intro rfl e
