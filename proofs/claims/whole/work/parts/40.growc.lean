def mh_gc (t b n : Nat) : Nat → Int → mg_M → mg_M
  | 0, _, M => M
  | p + 1, o, M => if o < mh_sq M b then mh_gc t b n p (mh_sq M b) (mh_tc t b M n) else M
set_option maxRecDepth 100000 in
theorem cX4_growByCells {D : mg_D} {l : Launch} (hl : l.stackTraces = false) {M : mg_M} {t b : Nat} (tl : mh_tl M t) (hb : kd M b = 1) (har : mh_ar M t b) : mg_Mt D l 60 [.inr (.inl t), .inr (.inl b)] M (fun v N => v = none ∧ N = mh_gc t b (gi M (t + 3) 0).toNat 22 0 M) mg_no := by
  refine mg_of2 hl ok_X4_growByCells al_X4_growByCells rfl (fun K hK => ?_)
  have ht := tl.1
  have hc := tl.2.1
  have hs := mh_tl_sm tl
  have ho := tl.2.2.1
  have g1 := ht.1.1
  have c4 := hc.1
  have z := hc.2.2.2.2.2.2.1
  have g8 := hc.2.2.2.2.2.2.2.1
  have nt : t ≠ b := fun e => by rw [e] at g1; omega
  have nc : t + 3 ≠ b := fun e => by rw [e] at c4; omega
  have na : ∀ i : Nat, i < (gi M (t + 3) 0).toNat → gr M (t + 3 + 1) i ≠ b := fun i hi q => by have := (g8 i (by omega)).1; rw [q] at this; omega
  refine hK _ _ _ _ _ ?_
  (repeat' (((conv => whnf); first | refine And.intro (by first | omega | (simp only [Int.toNat_natCast, true_and]; first | done | omega)) ?_ | (refine And.intro (fun _ => ?_) (fun _ => ?_) <;> first | (exfalso; omega) | skip) | intro _ | fail)))
  (conv => whnf)
  have L : ∀ p : Nat, ∀ o j : Int, ∀ N : mg_M, 0 ≤ j ∧ j + p = 22 → mh_fx b M N → mh_ar N t b → mh_gc t b (gi M (t + 3) 0).toNat p o N = mh_gc t b (gi M (t + 3) 0).toNat 22 0 M → K 4 [(0, Sum.inr (Sum.inl t)), (1, Sum.inr (Sum.inl b)), (2, Sum.inl o), (3, Sum.inl j)] [] N 0 := by
    intro p
    induction p with
    | zero =>
      intro o j N hj f ar hp
      have kb : kd N b = 1 := by rw [f.1]; exact hb
      have tN := mh_fx_tb f nt ht
      refine hK _ _ _ _ _ ?_
      (repeat' (((conv => whnf); first | refine And.intro (by first | omega | (simp only [Int.toNat_natCast, true_and]; first | done | omega)) ?_ | (refine And.intro (fun _ => ?_) (fun _ => ?_) <;> first | (exfalso; omega) | skip) | intro _ | fail)))
      all_goals (try ((conv => whnf); (refine Exists.intro _ (Exists.intro _ (And.intro (cX0_squares2 hl kb tN ar) (And.intro ?_ (fun _ _ h => h.elim)))); rintro _ _ ⟨rfl, e⟩; have e2 := e.symm; clear e; subst e2); (repeat' (((conv => whnf); first | refine And.intro (by first | omega | (simp only [Int.toNat_natCast, true_and]; first | done | omega)) ?_ | (refine And.intro (fun _ => ?_) (fun _ => ?_) <;> first | (exfalso; omega) | skip) | intro _ | fail)))))
      all_goals ((conv => whnf); first | exact hp | exact And.intro rfl hp)
    | succ p ih =>
      intro o j N hj f ar hp
      have kb : kd N b = 1 := by rw [f.1]; exact hb
      have kt : kd N t = 5 := by rw [f.1]; exact g1
      have tN := mh_fx_tb f nt ht
      have cN := mh_fx_cL f nc hc
      have zN : gi N (t + 3) 0 = gi M (t + 3) 0 := f.2.2.2.2.2.2 (t + 3) 0 nc
      have oN : ∀ i : Nat, i < (gi M (t + 3) 0).toNat → mh_ok N t i := by
        intro i hi
        have o := ho i (by omega)
        have q := na i hi
        unfold mh_ok at *
        rw [f.2.2.1, f.2.2.2.2.2.2 _ 0 q, f.2.2.2.2.2.2 _ 1 q, f.2.2.2.2.2.2 _ 2 q, f.2.2.2.2.2.2 _ 3 q, f.2.2.2.2.2.2 t 0 nt, f.2.2.2.2.2.2 t 1 nt]
        exact o
      have sN : mg_cS N (t + 3) := by
        intro i hi
        exact mh_ok_sm tN (oN i (by omega)) (by have := (cN.2.2.2.2.2.2.2.1 i (by omega)).1; exact this)
      have e : mh_gc t b (gi M (t + 3) 0).toNat (p + 1) o N = if o < mh_sq N b then mh_gc t b (gi M (t + 3) 0).toNat p (mh_sq N b) (mh_tc t b N (gi M (t + 3) 0).toNat) else N := rfl
      rw [e] at hp
      refine hK _ _ _ _ _ ?_
      (repeat' (((conv => whnf); first | refine And.intro (by first | omega | (simp only [Int.toNat_natCast, true_and]; first | done | omega)) ?_ | (refine And.intro (fun _ => ?_) (fun _ => ?_) <;> first | (exfalso; omega) | skip) | intro _ | fail)))
      all_goals (try ((conv => whnf); (refine Exists.intro _ (Exists.intro _ (And.intro (cX0_squares2 hl kb tN ar) (And.intro ?_ (fun _ _ h => h.elim)))); rintro _ _ ⟨rfl, e⟩; have e2 := e.symm; clear e; subst e2); (repeat' (((conv => whnf); first | refine And.intro (by first | omega | (simp only [Int.toNat_natCast, true_and]; first | done | omega)) ?_ | (refine And.intro (fun _ => ?_) (fun _ => ?_) <;> first | (exfalso; omega) | skip) | intro _ | fail)))))
      all_goals (try ((conv => whnf); (refine Exists.intro _ (Exists.intro _ (And.intro (cX0_squares2 hl kb tN ar) (And.intro ?_ (fun _ _ h => h.elim)))); rintro _ _ ⟨rfl, e⟩; have e2 := e.symm; clear e; subst e2); (repeat' (((conv => whnf); first | refine And.intro (by first | omega | (simp only [Int.toNat_natCast, true_and]; first | done | omega)) ?_ | (refine And.intro (fun _ => ?_) (fun _ => ?_) <;> first | (exfalso; omega) | skip) | intro _ | fail)))))
      all_goals (try ((conv => whnf); (refine Exists.intro _ (Exists.intro _ (And.intro (cX4_takeInCells hl tN cN sN kb) (And.intro ?_ (fun _ _ h => h.elim)))); rintro _ _ ⟨rfl, e⟩; have e2 := e.symm; clear e; subst e2); (repeat' (((conv => whnf); first | refine And.intro (by first | omega | (simp only [Int.toNat_natCast, true_and]; first | done | omega)) ?_ | (refine And.intro (fun _ => ?_) (fun _ => ?_) <;> first | (exfalso; omega) | skip) | intro _ | fail)))))
      · rw [if_neg (by omega)] at hp
        first | exact hp | ((conv => whnf); exact And.intro rfl hp) | ((conv => whnf); exact hp)
      · rw [if_pos (by omega)] at hp
        (conv => whnf)
        rw [zN]
        exact ih _ _ _ (by omega) (mh_fx_tr f mh_tc_fx) (mh_tc_ar nt (fun i hi => by rw [f.2.2.1]; exact na i hi) ar oN) hp
  exact L 22 0 0 M (by omega) mh_fx_rfl har rfl
