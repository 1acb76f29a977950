theorem mg_toN (i : Int) : (i.toNat : Int) = max i 0 := by omega
section MGA
variable {p : Program} {l : Launch} {e : Env} {R : Room} {s : State} {m : MethodId} {args : Array Value} {below : List Frame} {meth : Method} {c : Code} {Q : State → Prop} {D : mg_D} {nL AC AS : Nat} {cc : ByteArray} {pc : Nat} {L : mg_L} {st : List mg_V} {M : mg_M} {B : Nat}
theorem mg_cF8 {r : Nat} (h : kd M r = 8) : mg_cF D M r = .inl (D.2.2.1 8, ln M r, .inl (fun j => Int32.ofInt (gi M r j))) := by
  unfold mg_cF; rw [if_neg (by omega), if_pos h]
theorem mg_cF9 {r : Nat} (h : kd M r = 9) : mg_cF D M r = .inl (D.2.2.1 9, ln M r, .inr (.inr (.inr (.inr (fun j => mg_rO (gr M r j)))))) := by
  unfold mg_cF; rw [if_neg (by omega), if_neg (by omega), if_pos h]
theorem mg_cF10 {r : Nat} (h : kd M r = 10) : mg_cF D M r = .inl (D.2.2.1 10, ln M r, .inr (.inl (fun j => Int64.ofInt (gl M r j)))) := by
  unfold mg_cF; rw [if_neg (by omega), if_neg (by omega), if_neg (by omega), if_pos h]
theorem mg_cF11 {r : Nat} (h : kd M r = 11) : mg_cF D M r = .inl (D.2.2.1 11, ln M r, .inr (.inr (.inr (.inl (fun j => gd M r j))))) := by
  unfold mg_cF; rw [if_neg (by omega), if_neg (by omega), if_neg (by omega), if_neg (by omega)]
theorem gs_iald (hx : p.tables.exec = Jvm.exec) (hb : c.code = cc) (hK : va_K (D.1, D.2.1) mg_cl (mg_tys D) s) {r : Nat} {i : Int} (h : kd M r = 8 ∧ 0 ≤ i ∧ i < ln M r) (hdg : decode cc pc = .ok (.iaload, 1)) (k : mg_G p l e R s m args below meth c Q D nL AC AS (pc + 1) L (.inl (gi M r i.toNat) :: st) M B) : mg_G p l e R s m args below meth c Q D nL AC AS pc L (.inl i :: .inr (.inl r) :: st) M B := by
  intro H locs cells slots ls hH hS hF hst hc hs
  refine mg_ok2 hst fun hi hst1 => ?_
  have hi : -2147483648 ≤ i ∧ i < 2147483648 := hi
  have k2 := k H locs cells slots ls hH hS hF (mg_okc (hH.2.2.2.2.2.2.1 r i.toNat) (fun w hw => hst1 w (List.mem_cons_of_mem _ hw))) hc hs
  obtain ⟨f1, f2⟩ := hH.2.2.2.1 r (by omega) (by omega)
  rw [mg_cF8 h.1] at f1
  refine va_iald (D := (D.1, D.2.1)) (cl := mg_cl) hx hb hK (mg_P1 f1) 0 0 rfl rfl (mg_in hi h.2.1 h.2.2) hdg ?_
  rw [mg_clp hi]
  exact k2
theorem gs_ialdS (hx : p.tables.exec = Jvm.exec) (hb : c.code = cc) {r : Nat} {i : Int} (h : kd M r = 12 ∧ 0 ≤ i ∧ i < ln M r) (hdg : decode cc pc = .ok (.iaload, 1)) (k : mg_G p l e R s m args below meth c Q D nL AC AS (pc + 1) L (.inl (gi M r i.toNat) :: st) M B) : mg_G p l e R s m args below meth c Q D nL AC AS pc L (.inl i :: .inr (.inl r) :: st) M B := by
  intro H locs cells slots ls hH hS hF hst hc hs
  refine mg_ok2 hst fun hi hst1 => ?_
  have hi : -2147483648 ≤ i ∧ i < 2147483648 := hi
  have k2 := k H locs cells slots ls hH hS hF (mg_okc (hH.2.2.2.2.2.2.1 r i.toNat) (fun w hw => hst1 w (List.mem_cons_of_mem _ hw))) hc hs
  obtain ⟨⟨scr, h1, h2, h3, h4, h5⟩, f2⟩ := hH.2.2.2.2.1 r h.1
  have hin := mg_in hi h.2.1 h.2.2
  exact W.iald (v := .int (Int32.ofInt (gi M r i.toNat))) hx hb h1 h2 h3 (by rw [h4]; exact hin) (by rw [mg_clp hi]; exact h5 _ (by omega)) rfl rfl hdg k2
theorem gs_aald (hx : p.tables.exec = Jvm.exec) (hb : c.code = cc) (hK : va_K (D.1, D.2.1) mg_cl (mg_tys D) s) {r : Nat} {i : Int} (h : kd M r = 9 ∧ 0 ≤ i ∧ i < ln M r) (h0 : gr M r i.toNat ≠ 0) (hdg : decode cc pc = .ok (.aaload, 1)) (k : mg_G p l e R s m args below meth c Q D nL AC AS (pc + 1) L (.inr (.inl (gr M r i.toNat)) :: st) M B) : mg_G p l e R s m args below meth c Q D nL AC AS pc L (.inl i :: .inr (.inl r) :: st) M B := by
  intro H locs cells slots ls hH hS hF hst hc hs
  refine mg_ok2 hst fun hi hst1 => ?_
  have hi : -2147483648 ≤ i ∧ i < 2147483648 := hi
  have k2 := k H locs cells slots ls hH hS hF (mg_okc trivial (fun w hw => hst1 w (List.mem_cons_of_mem _ hw))) hc hs
  obtain ⟨f1, f2⟩ := hH.2.2.2.1 r (by omega) (by omega)
  rw [mg_cF9 h.1] at f1
  refine va_aldq (D := (D.1, D.2.1)) (cl := mg_cl) hx hb hK (mg_P1 f1) 0 1 rfl rfl (mg_in hi h.2.1 h.2.2) hdg ?_
  rw [mg_clp hi, mg_rf h0]
  exact k2
theorem gs_lald (hx : p.tables.exec = Jvm.exec) (hb : c.code = cc) (hK : va_K (D.1, D.2.1) mg_cl (mg_tys D) s) {r : Nat} {i : Int} (h : kd M r = 10 ∧ 0 ≤ i ∧ i < ln M r) (hdg : decode cc pc = .ok (.laload, 1)) (k : mg_G p l e R s m args below meth c Q D nL AC AS (pc + 1) L (.inr (.inr (.inl (gl M r i.toNat))) :: st) M B) : mg_G p l e R s m args below meth c Q D nL AC AS pc L (.inl i :: .inr (.inl r) :: st) M B := by
  intro H locs cells slots ls hH hS hF hst hc hs
  refine mg_ok2 hst fun hi hst1 => ?_
  have hi : -2147483648 ≤ i ∧ i < 2147483648 := hi
  have k2 := k H locs cells slots ls hH hS hF (mg_okc (hH.2.2.2.2.2.2.2 r i.toNat) (fun w hw => hst1 w (List.mem_cons_of_mem _ hw))) hc hs
  obtain ⟨f1, f2⟩ := hH.2.2.2.1 r (by omega) (by omega)
  rw [mg_cF10 h.1] at f1
  refine va_lald (D := (D.1, D.2.1)) (cl := mg_cl) hx hb hK (mg_P1 f1) 0 2 rfl rfl (mg_in hi h.2.1 h.2.2) hdg ?_
  rw [mg_clp hi]
  exact k2
theorem gs_dald (hx : p.tables.exec = Jvm.exec) (hb : c.code = cc) (hK : va_K (D.1, D.2.1) mg_cl (mg_tys D) s) {r : Nat} {i : Int} (h : kd M r = 11 ∧ 0 ≤ i ∧ i < ln M r) (hdg : decode cc pc = .ok (.daload, 1)) (k : mg_G p l e R s m args below meth c Q D nL AC AS (pc + 1) L (.inr (.inr (.inr (.inl (gd M r i.toNat)))) :: st) M B) : mg_G p l e R s m args below meth c Q D nL AC AS pc L (.inl i :: .inr (.inl r) :: st) M B := by
  intro H locs cells slots ls hH hS hF hst hc hs
  refine mg_ok2 hst fun hi hst1 => ?_
  have hi : -2147483648 ≤ i ∧ i < 2147483648 := hi
  have k2 := k H locs cells slots ls hH hS hF (mg_okc trivial (fun w hw => hst1 w (List.mem_cons_of_mem _ hw))) hc hs
  obtain ⟨f1, f2⟩ := hH.2.2.2.1 r (by omega) (by omega)
  rw [mg_cF11 h.1] at f1
  refine va_dald (D := (D.1, D.2.1)) (cl := mg_cl) hx hb hK (mg_P1 f1) 0 3 rfl rfl (mg_in hi h.2.1 h.2.2) hdg ?_
  rw [mg_clp hi]
  exact k2
theorem gs_iast (hx : p.tables.exec = Jvm.exec) (hb : c.code = cc) (hK : va_K (D.1, D.2.1) mg_cl (mg_tys D) s) {r : Nat} {i x : Int} (h : kd M r = 8 ∧ 0 ≤ i ∧ i < ln M r) (hdg : decode cc pc = .ok (.iastore, 1)) (k : mg_G p l e R s m args below meth c Q D nL AC AS (pc + 1) L st (si M r i.toNat x) B) : mg_G p l e R s m args below meth c Q D nL AC AS pc L (.inl x :: .inl i :: .inr (.inl r) :: st) M B := by
  intro H locs cells slots ls hH hS hF hst hc hs
  refine mg_ok2 hst fun hx1 hst1 => mg_ok2 hst1 fun hi hst2 => ?_
  have hi : -2147483648 ≤ i ∧ i < 2147483648 := hi
  have hx1 : -2147483648 ≤ x ∧ x < 2147483648 := hx1
  obtain ⟨f1, f2⟩ := hH.2.2.2.1 r (by omega) (by omega)
  rw [mg_cF8 h.1] at f1
  have hin := mg_in hi h.2.1 h.2.2
  refine W.iast (x := Int32.ofInt x) (j := Int32.ofInt i) hx hb f1 ((hK.2 0 _ rfl).1 _ _) (fun q => by cases q) (by show ¬ (_ ∨ (arrV _ _ _).slots.size ≤ _); rw [arrV_size]; exact hin) rfl rfl hdg fun H1 e1 z oq => ?_
  refine k H1 _ cells slots ls (mg_H_upd hH f2 rfl (fun _ => rfl) (fun _ => rfl) (fun a ha => ⟨fun k => ?_, fun _ => rfl, fun _ => rfl, fun _ => rfl⟩) (fun a k => ?_) hH.2.2.2.2.2.2.2 z oq ?_) (hS.put z oq f2) hF (fun w hw => hst2 w (List.mem_cons_of_mem _ hw)) hc hs
  · show (if a = r ∧ _ then _ else _) = _
    rw [if_neg (fun q => ha q.1)]; rfl
  · show _ ≤ (if a = r ∧ _ then _ else _) ∧ (if a = r ∧ _ then _ else _) < _
    split
    · exact hx1
    · exact hH.2.2.2.2.2.2.1 a k
  · rw [mg_cF8 (M := si M r i.toNat x) h.1]
    show H1[r]? = some (vp_cell _ _)
    rw [e1]
    rw [vp_cell_i, vp_cell_i, arrV_store, mg_clp hi]
    congr 2
    funext q
    show (if q = i.toNat then _ else _) = Value.int (Int32.ofInt (if r = r ∧ q = i.toNat then x else M.2.1 r q))
    by_cases hq : q = i.toNat
    · rw [if_pos hq, if_pos ⟨rfl, hq⟩]
    · rw [if_neg hq, if_neg (fun z => hq z.2)]; rfl
theorem gs_aast (hx : p.tables.exec = Jvm.exec) (hb : c.code = cc) (hK : va_K (D.1, D.2.1) mg_cl (mg_tys D) s) {r v : Nat} {i : Int} (h : kd M r = 9 ∧ 0 ≤ i ∧ i < ln M r) (hv : kd M v = 3) (hdg : decode cc pc = .ok (.aastore, 1)) (k : mg_G p l e R s m args below meth c Q D nL AC AS (pc + 1) L st (sr M r i.toNat v) B) : mg_G p l e R s m args below meth c Q D nL AC AS pc L (.inr (.inl v) :: .inl i :: .inr (.inl r) :: st) M B := by
  intro H locs cells slots ls hH hS hF hst hc hs
  refine mg_ok2 hst fun hx1 hst1 => mg_ok2 hst1 fun hi hst2 => ?_
  have hi : -2147483648 ≤ i ∧ i < 2147483648 := hi
  obtain ⟨f1, f2⟩ := hH.2.2.2.1 r (by omega) (by omega)
  obtain ⟨v1, v2⟩ := hH.2.2.2.1 v (by omega) (by omega)
  have v3 : mg_cF D M v = .inr (2, mg_fs M v 3) := by unfold mg_cF; rw [hv]; rfl
  rw [v3] at v1
  rw [mg_cF9 h.1] at f1
  have hin := mg_in hi h.2.1 h.2.2
  obtain ⟨r', hr', cellV, g1, g2, g3, -⟩ := v1
  cases Option.some.inj (hr'.symm.trans (mg_clk (a := 3) (by omega) (by omega)))
  have hcls := (hK.1 2 _ (mg_clk (a := 3) (by omega) (by omega))).2
  obtain ⟨kA, comp, k1, k2, k3, -⟩ := (hK.2 1 _ rfl).2
  have hcomp : comp = D.1 2 := Option.some.inj (k3.symm.trans hcls.1)
  subst hcomp
  obtain ⟨kC, hkC, -⟩ := hcls.2
  refine W.aast (j := Int32.ofInt i) hx hb f1 (fun q h => by cases h) (fun h => by cases h) k1 k2 rfl hkC ⟨mg_neg hi h.2.1, by show (Int32.ofInt i).toNatClampNeg < (arrV _ (ln M r) _).slots.size; rw [arrV_size, mg_clp hi]; have := h.2.2; omega⟩ g1 (fun q h => by rw [g3] at h; cases h) (by rw [g2]; exact hkC) (by rw [g2]; exact va_assign hcls) rfl rfl hdg fun H1 e1 z oq => ?_
  refine k H1 _ cells slots ls (mg_H_upd hH f2 rfl (fun _ => rfl) (fun _ => rfl) (fun a ha => ⟨fun _ => rfl, fun k => ?_, fun _ => rfl, fun _ => rfl⟩) hH.2.2.2.2.2.2.1 hH.2.2.2.2.2.2.2 z oq ?_) (hS.put z oq f2) hF (fun w hw => hst2 w (List.mem_cons_of_mem _ hw)) hc hs
  · show (if a = r ∧ _ then _ else _) = _
    rw [if_neg (fun q => ha q.1)]; rfl
  · rw [mg_cF9 (M := sr M r i.toNat v) h.1]
    show H1[r]? = some (vp_cell _ _)
    rw [e1]
    rw [vp_cell_q, vp_cell_q, arrV_store, mg_clp hi]
    congr 2
    funext q
    show (if q = i.toNat then _ else _) = va_rf (mg_rO (if r = r ∧ q = i.toNat then v else M.2.2.1 r q))
    by_cases hq : q = i.toNat
    · rw [if_pos hq, if_pos ⟨rfl, hq⟩, mg_rf (by have := hH.2.2.1; omega)]
    · rw [if_neg hq, if_neg (fun z => hq z.2)]; rfl
theorem gs_last (hx : p.tables.exec = Jvm.exec) (hb : c.code = cc) (hK : va_K (D.1, D.2.1) mg_cl (mg_tys D) s) {r : Nat} {i x : Int} (h : kd M r = 10 ∧ 0 ≤ i ∧ i < ln M r) (hdg : decode cc pc = .ok (.lastore, 1)) (k : mg_G p l e R s m args below meth c Q D nL AC AS (pc + 1) L st (sl M r i.toNat x) B) : mg_G p l e R s m args below meth c Q D nL AC AS pc L (.inr (.inr (.inl x)) :: .inl i :: .inr (.inl r) :: st) M B := by
  intro H locs cells slots ls hH hS hF hst hc hs
  refine mg_ok2 hst fun hx1 hst1 => mg_ok2 hst1 fun hi hst2 => ?_
  have hi : -2147483648 ≤ i ∧ i < 2147483648 := hi
  have hx1 : -9223372036854775808 ≤ x ∧ x < 9223372036854775808 := hx1
  obtain ⟨f1, f2⟩ := hH.2.2.2.1 r (by omega) (by omega)
  rw [mg_cF10 h.1] at f1
  have hin := mg_in hi h.2.1 h.2.2
  refine W.last (x := Int64.ofInt x) (j := Int32.ofInt i) hx hb f1 ((hK.2 2 _ rfl).1 _ _) (fun q => by cases q) (by show ¬ (_ ∨ (arrV _ _ _).slots.size ≤ _); rw [arrV_size]; exact hin) rfl rfl hdg fun H1 e1 z oq => ?_
  refine k H1 _ cells slots ls (mg_H_upd hH f2 rfl (fun _ => rfl) (fun _ => rfl) (fun a ha => ⟨fun _ => rfl, fun _ => rfl, fun k => ?_, fun _ => rfl⟩) hH.2.2.2.2.2.2.1 (fun a k => ?_) z oq ?_) (hS.put z oq f2) hF (fun w hw => hst2 w (List.mem_cons_of_mem _ hw)) hc hs
  · show (if a = r ∧ _ then _ else _) = _
    rw [if_neg (fun q => ha q.1)]; rfl
  · show _ ≤ (if a = r ∧ _ then _ else _) ∧ (if a = r ∧ _ then _ else _) < _
    split
    · exact hx1
    · exact hH.2.2.2.2.2.2.2 a k
  · rw [mg_cF10 (M := sl M r i.toNat x) h.1]
    show H1[r]? = some (vp_cell _ _)
    rw [e1]
    rw [vp_cell_l, vp_cell_l, arrV_store, mg_clp hi]
    congr 2
    funext q
    show (if q = i.toNat then _ else _) = Value.long (Int64.ofInt (if r = r ∧ q = i.toNat then x else M.2.2.2.1 r q))
    by_cases hq : q = i.toNat
    · rw [if_pos hq, if_pos ⟨rfl, hq⟩]
    · rw [if_neg hq, if_neg (fun z => hq z.2)]; rfl
theorem gs_dast (hx : p.tables.exec = Jvm.exec) (hb : c.code = cc) (hK : va_K (D.1, D.2.1) mg_cl (mg_tys D) s) {r : Nat} {i : Int} {x : UInt64} (h : kd M r = 11 ∧ 0 ≤ i ∧ i < ln M r) (hdg : decode cc pc = .ok (.dastore, 1)) (k : mg_G p l e R s m args below meth c Q D nL AC AS (pc + 1) L st (sd M r i.toNat x) B) : mg_G p l e R s m args below meth c Q D nL AC AS pc L (.inr (.inr (.inr (.inl x))) :: .inl i :: .inr (.inl r) :: st) M B := by
  intro H locs cells slots ls hH hS hF hst hc hs
  refine mg_ok2 hst fun hx1 hst1 => mg_ok2 hst1 fun hi hst2 => ?_
  have hi : -2147483648 ≤ i ∧ i < 2147483648 := hi
  obtain ⟨f1, f2⟩ := hH.2.2.2.1 r (by omega) (by omega)
  rw [mg_cF11 h.1] at f1
  have hin := mg_in hi h.2.1 h.2.2
  refine W.dast (x := x) (j := Int32.ofInt i) hx hb f1 ((hK.2 3 _ rfl).1 _ _) (fun q => by cases q) (by show ¬ (_ ∨ (arrV _ _ _).slots.size ≤ _); rw [arrV_size]; exact hin) rfl rfl hdg fun H1 e1 z oq => ?_
  refine k H1 _ cells slots ls (mg_H_upd hH f2 rfl (fun _ => rfl) (fun _ => rfl) (fun a ha => ⟨fun _ => rfl, fun _ => rfl, fun _ => rfl, fun k => ?_⟩) hH.2.2.2.2.2.2.1 hH.2.2.2.2.2.2.2 z oq ?_) (hS.put z oq f2) hF (fun w hw => hst2 w (List.mem_cons_of_mem _ hw)) hc hs
  · show (if a = r ∧ _ then _ else _) = _
    rw [if_neg (fun q => ha q.1)]; rfl
  · rw [mg_cF11 (M := sd M r i.toNat x) h.1]
    show H1[r]? = some (vp_cell _ _)
    rw [e1]
    rw [vp_cell_d, vp_cell_d, arrV_store, mg_clp hi]
    congr 2
    funext q
    show (if q = i.toNat then _ else _) = Value.double (if r = r ∧ q = i.toNat then x else M.2.2.2.2 r q)
    by_cases hq : q = i.toNat
    · rw [if_pos hq, if_pos ⟨rfl, hq⟩]
    · rw [if_neg hq, if_neg (fun z => hq z.2)]; rfl
theorem gs_alen (hx : p.tables.exec = Jvm.exec) (hb : c.code = cc) (hK : va_K (D.1, D.2.1) mg_cl (mg_tys D) s) {r : Nat} (h : kd M r = 8 ∨ kd M r = 9 ∨ kd M r = 12) (hln : ln M r < 2147483648) (hdg : decode cc pc = .ok (.arraylength, 1)) (k : mg_G p l e R s m args below meth c Q D nL AC AS (pc + 1) L (.inl (ln M r : Int) :: st) M B) : mg_G p l e R s m args below meth c Q D nL AC AS pc L (.inr (.inl r) :: st) M B := by
  intro H locs cells slots ls hH hS hF hst hc hs
  have k2 := k H locs cells slots ls hH hS hF (mg_okc (by show _ ∧ _; omega) (fun w hw => hst w (List.mem_cons_of_mem _ hw))) hc hs
  have e1 : Int32.ofNat (ln M r) = Int32.ofInt (ln M r : Int) := Int32.ofInt_eq_ofNat.symm
  rcases h with h | h | h
  · obtain ⟨f1, f2⟩ := hH.2.2.2.1 r (by omega) (by omega)
    rw [mg_cF8 h] at f1
    exact va_alen (D := (D.1, D.2.1)) (cl := mg_cl) hx hb hK (mg_P1 f1) 0 0 rfl rfl e1 hdg k2
  · obtain ⟨f1, f2⟩ := hH.2.2.2.1 r (by omega) (by omega)
    rw [mg_cF9 h] at f1
    exact va_alen (D := (D.1, D.2.1)) (cl := mg_cl) hx hb hK (mg_P1 f1) 0 1 rfl rfl e1 hdg k2
  · obtain ⟨⟨scr, h1, h2, h3, h4, h5⟩, f2⟩ := hH.2.2.2.2.1 r h
    exact W.alen (n := Int32.ofInt (ln M r : Int)) hx hb h1 h2 (by rw [h4]; exact e1) rfl rfl hdg k2
end MGA
