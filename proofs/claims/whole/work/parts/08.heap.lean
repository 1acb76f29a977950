/-! one row an instruction: objects and arrays -/
theorem mg_mem {l : List Cond} {ps : List Nat} (h : l.map some = ps.map (fun i => lw_tbl[i]?)) (hg : l.all goodWord = true) : ∀ w ∈ l, w ∈ mg_T := by
  intro w hw
  refine List.mem_filter.mpr ⟨?_, List.all_eq_true.mp hg w hw⟩
  have h1 : some w ∈ ps.map (fun i => lw_tbl[i]?) := by rw [← h]; exact List.mem_map.mpr ⟨w, hw, rfl⟩
  obtain ⟨i, -, hi⟩ := List.mem_map.mp h1
  exact List.mem_of_getElem? hi
theorem mg_lays {a : Nat} (h1 : 1 ≤ a) (h7 : a ≤ 7) : ∀ w ∈ u_ws (mg_R a) (mg_F a) (mg_N a), w ∈ mg_T := by
  have : a = 1 ∨ a = 2 ∨ a = 3 ∨ a = 4 ∨ a = 5 ∨ a = 6 ∨ a = 7 := by omega
  rcases this with rfl | rfl | rfl | rfl | rfl | rfl | rfl
  · exact mg_mem mg_lay1.1 mg_lay1.2
  · exact mg_mem mg_lay2.1 mg_lay2.2
  · exact mg_mem mg_lay3.1 mg_lay3.2
  · exact mg_mem mg_lay4.1 mg_lay4.2
  · exact mg_mem mg_lay5.1 mg_lay5.2
  · exact mg_mem mg_lay6.1 mg_lay6.2
  · exact mg_mem mg_lay7.1 mg_lay7.2
theorem mg_nms {a : Nat} (h1 : 1 ≤ a) (h7 : a ≤ 7) : (∀ x, x < mg_N a → ∀ y, y < mg_N a → x ≠ y → (mg_F a x).2.1 ≠ (mg_F a y).2.1) ∧ (∀ k, k < mg_N a → parseFieldDescriptor (mg_F a k).2.2.1 = some (mg_ty a k)) ∧ (∀ k, k < mg_N a → (mg_F a k).1 = mg_R a) := by
  have : a = 1 ∨ a = 2 ∨ a = 3 ∨ a = 4 ∨ a = 5 ∨ a = 6 ∨ a = 7 := by omega
  rcases this with rfl | rfl | rfl | rfl | rfl | rfl | rfl
  · exact mg_nm1
  · exact mg_nm2
  · exact mg_nm3
  · exact mg_nm4
  · exact mg_nm5
  · exact mg_nm6
  · exact mg_nm7
theorem mg_clk {a : Nat} (h1 : 1 ≤ a) (h7 : a ≤ 7) : mg_cl[a - 1]? = some (mg_R a, mg_F a, mg_N a) := by
  have : a = 1 ∨ a = 2 ∨ a = 3 ∨ a = 4 ∨ a = 5 ∨ a = 6 ∨ a = 7 := by omega
  rcases this with rfl | rfl | rfl | rfl | rfl | rfl | rfl <;> rfl
/-- 0 int, 1 reference, 2 boolean -/
def mg_tc (a b : Nat) : Nat := match mg_ty a b with
  | .int => 0
  | .boolean => 2
  | .object _ => 1
  | .array _ => 1
  | _ => 3
theorem mg_fs_at {M : mg_M} {r a k : Nat} (hk : k < mg_N a) : (mg_fs M r a)[k]? = some (mg_fv M r a k) := by
  simp [mg_fs, hk]
theorem mg_fv_i {M : mg_M} {r a k : Nat} (h : mg_tc a k ≠ 1) (h3 : mg_tc a k ≠ 3) : mg_fv M r a k = .int (Int32.ofInt (gi M r k)) := by
  unfold mg_tc at h h3
  unfold mg_fv
  cases h9 : mg_ty a k <;> simp_all
theorem mg_fv_r {M : mg_M} {r a k : Nat} (h : mg_tc a k = 1) : mg_fv M r a k = va_rf (mg_rO (gr M r k)) := by
  unfold mg_tc at h
  unfold mg_fv
  cases h9 : mg_ty a k <;> simp_all
theorem mg_rf {n : Nat} (h : n ≠ 0) : va_rf (mg_rO n) = .ref n := by
  simp [mg_rO, h, va_rf]
theorem mg_P1 {D : mg_D} {q : Nat × va_E} {H : Heap} (h : va_at (D.1, D.2.1) mg_cl q H) : va_P (D.1, D.2.1) mg_cl [q] H := by
  intro k q' hk
  match k, hk with
  | 0, hk => cases hk; exact h
  | k + 1, hk => cases hk
theorem mg_H_upd {D : mg_D} {M M' : mg_M} {s : State} {H H' : Heap} (hH : mg_H D M s H) {r : Nat} (hr : D.2.2.2 ≤ r) (hnx : nx M' = nx M) (hkd : ∀ a, kd M' a = kd M a) (hln : ∀ a, ln M' a = ln M a)
    (hoth : ∀ a, a ≠ r → (∀ k, gi M' a k = gi M a k) ∧ (∀ k, gr M' a k = gr M a k) ∧ (∀ k, gl M' a k = gl M a k) ∧ (∀ k, gd M' a k = gd M a k))
    (h1 : ∀ a k, -2147483648 ≤ gi M' a k ∧ gi M' a k < 2147483648) (h2 : ∀ a k, -9223372036854775808 ≤ gl M' a k ∧ gl M' a k < 9223372036854775808)
    (hz : H'.size = H.size) (oq : ∀ q, q ≠ r → H'[q]? = H[q]?) (hat : va_at (D.1, D.2.1) mg_cl (r, mg_cF D M' r) H') : mg_H D M' s H' := by
  obtain ⟨g1, g2, g3, g4, g5, g6, -, -⟩ := hH
  refine ⟨by rw [hnx, hz]; exact g1, by rw [hz]; exact g2, g3, fun a q1 q2 => ?_, fun a q1 => ?_, fun a => by rw [hkd]; exact g6 a, h1, h2⟩
  · rw [hkd] at q1 q2
    obtain ⟨f1, f2⟩ := g4 a q1 q2
    by_cases ha : a = r
    · subst ha
      exact ⟨hat, f2⟩
    · obtain ⟨o1, o2, o3, o4⟩ := hoth a ha
      have e : mg_cF D M' a = mg_cF D M a := by
        unfold mg_cF mg_fs mg_fv
        simp only [hkd, hln, o1, o2, o3, o4]
      rw [e]
      exact ⟨f1.kept (oq a ha), f2⟩
  · rw [hkd] at q1
    obtain ⟨f1, f2⟩ := g5 a q1
    have ha : a ≠ r := by omega
    obtain ⟨o1, -⟩ := hoth a ha
    refine ⟨?_, f2⟩
    obtain ⟨scr, e1, e2, e3, e4, e5⟩ := f1
    refine ⟨scr, by rw [oq a ha]; exact e1, e2, e3, by rw [hln]; exact e4, fun j hj => ?_⟩
    rw [hln] at hj
    rw [e5 j hj]; simp only [o1]
section MGH
variable {p : Program} {l : Launch} {e : Env} {R : Room} {s : State} {m : MethodId} {args : Array Value} {below : List Frame} {meth : Method} {c : Code} {Q : State → Prop} {D : mg_D} {nL AC AS : Nat} {cc : ByteArray} {pc : Nat} {L : mg_L} {st : List mg_V} {M : mg_M} {B : Nat}
theorem gs_getf (hx : p.tables.exec = Jvm.exec) (hb : c.code = cc) (hts : ∀ w ∈ mg_T, w.before args s = true) {own : String} (hown : s.vm.findClass own = some m.cls) (hK : va_K (D.1, D.2.1) mg_cl (mg_tys D) s)
    {i a b r : Nat} (ha : 1 ≤ a) (ha7 : a ≤ 7) (hb2 : b < mg_N a) (hl : Cond.fieldLink own i (mg_F a b).1 (mg_F a b).2.1 (mg_F a b).2.2.1 ∈ mg_T) (hr : kd M r = a) (hdg : decode cc pc = .ok (.getfield i, 3))
    {v : mg_V} (hv : mg_fv M r a b = mg_tv v) (hok : (-2147483648 ≤ gi M r b ∧ gi M r b < 2147483648) → mg_ok v) (k : mg_G p l e R s m args below meth c Q D nL AC AS (pc + 3) L (v :: st) M B) : mg_G p l e R s m args below meth c Q D nL AC AS pc L (.inr (.inl r) :: st) M B := by
  intro H locs cells slots ls hH hS hF hst hc hs
  have k2 := k H locs cells slots ls hH hS hF (mg_okc (hok (hH.2.2.2.2.2.2.1 r b)) (fun w hw => hst w (List.mem_cons_of_mem _ hw))) hc hs
  obtain ⟨f1, f2⟩ := hH.2.2.2.1 r (by omega) (by omega)
  have f3 : mg_cF D M r = .inr (a - 1, mg_fs M r a) := by unfold mg_cF; rw [hr, if_pos ha7]
  rw [f3] at f1
  refine va_get (D := (D.1, D.2.1)) (ws := [(r, .inr (a - 1, mg_fs M r a))]) (C := mg_R a) (T := mg_F a) (N := mg_N a) hx hb hts (mg_lays ha ha7) hown hK (mg_P1 f1) 0 rfl (mg_clk ha ha7) b hb2 (hts _ hl) (fun _ h => h) (mg_fs_at hb2) hdg ?_
  rw [hv]
  exact k2
theorem gs_put0 (hx : p.tables.exec = Jvm.exec) (hb : c.code = cc) (hts : ∀ w ∈ mg_T, w.before args s = true) {own : String} (hown : s.vm.findClass own = some m.cls) (hK : va_K (D.1, D.2.1) mg_cl (mg_tys D) s)
    {i a b r : Nat} (ha : 1 ≤ a) (ha7 : a ≤ 7) (hb2 : b < mg_N a) (hl : Cond.fieldLink own i (mg_F a b).1 (mg_F a b).2.1 (mg_F a b).2.2.1 ∈ mg_T) (hr : kd M r = a) (hdg : decode cc pc = .ok (.putfield i, 3))
    (hfin : (mg_F a b).2.2.2 = false ∨ ((mg_F a b).2.2.2 = true ∧ own = mg_R a ∧ meth.name = "<init>"))
    {v : mg_V} (hn : narrow (mg_ty a b) (mg_tv v) = mg_tv v) (hf : fits (mg_ty a b) (mg_tv v) = true) {M' : mg_M} (hnx : nx M' = nx M) (hkd : ∀ a, kd M' a = kd M a) (hln : ∀ a, ln M' a = ln M a)
    (hoth : ∀ a, a ≠ r → (∀ k, gi M' a k = gi M a k) ∧ (∀ k, gr M' a k = gr M a k) ∧ (∀ k, gl M' a k = gl M a k) ∧ (∀ k, gd M' a k = gd M a k))
    (h1 : mg_ok v → (∀ a k, -2147483648 ≤ gi M a k ∧ gi M a k < 2147483648) → ∀ a k, -2147483648 ≤ gi M' a k ∧ gi M' a k < 2147483648) (h2 : ∀ a k, gl M' a k = gl M a k)
    (hfv : ∀ j, j < mg_N a → mg_fv M' r a j = if j = b then mg_tv v else mg_fv M r a j)
    (k : mg_G p l e R s m args below meth c Q D nL AC AS (pc + 3) L st M' B) : mg_G p l e R s m args below meth c Q D nL AC AS pc L (v :: .inr (.inl r) :: st) M B := by
  intro H locs cells slots ls hH hS hF hst hc hs
  obtain ⟨f1, f2⟩ := hH.2.2.2.1 r (by omega) (by omega)
  have f3 : mg_cF D M r = .inr (a - 1, mg_fs M r a) := by unfold mg_cF; rw [hr, if_pos ha7]
  have f3' : mg_cF D M' r = .inr (a - 1, mg_fs M' r a) := by unfold mg_cF; rw [hkd, hr, if_pos ha7]
  rw [f3] at f1
  have hin := mg_lays ha ha7
  obtain ⟨n1, n2, n3⟩ := mg_nms ha ha7
  have hap := va_apart (own := own) hts hin (mg_ty a) n2 n1 hK (mg_clk ha ha7)
  obtain ⟨rr, g1, cell, q1, q2, q3, q4⟩ := f1
  cases Option.some.inj (g1.symm.trans (mg_clk ha ha7))
  obtain ⟨hSl, hfc, kC, hkC, hkind⟩ := hK.1 (a - 1) _ (mg_clk ha ha7)
  obtain ⟨cf, kf, fi, f, hi, hsl⟩ := hSl b hb2
  have hlay := hts _ (hin _ (u_in_lay hb2))
  have hst2 := (u_facts hfc hkC (u_lays hts hin hb2) hi).1
  have kk : ∀ H' : Heap, H'[r]? = some (cell.setSlot f.slot (mg_tv v)) → H'.size = H.size → (∀ q, q ≠ r → H'[q]? = H[q]?) → W p l e R s m args below meth c H' (locs ++ [⟨r, f.slot⟩]) cells slots Q (F0 m (pc + 3) ls (st.map mg_tv)) := by
    intro H' e1 e2 e3
    refine k H' _ cells slots ls (mg_H_upd hH f2 hnx hkd hln hoth (h1 (hst _ List.mem_cons_self) hH.2.2.2.2.2.2.1) (fun a k => by rw [h2]; exact hH.2.2.2.2.2.2.2 a k) e2 e3 ?_) (hS.put e2 e3 f2) hF (fun w hw => hst w (List.mem_cons_of_mem _ (List.mem_cons_of_mem _ hw))) hc hs
    rw [f3']
    rw [hsl] at e1
    refine ⟨_, mg_clk ha ha7, t_OB.to (V := updV (vp_V (mg_fs M r a)) b (mg_tv v)) ⟨_, e1, q2, q3, t_set q4 hap hb2 (mg_tv v)⟩ (fun j hj => ?_)⟩
    have w1 : vp_V (mg_fs M r a) j = mg_fv M r a j := by unfold vp_V; rw [List.getD_eq_getElem?_getD, mg_fs_at hj]; rfl
    have w2 : vp_V (mg_fs M' r a) j = mg_fv M' r a j := by unfold vp_V; rw [List.getD_eq_getElem?_getD, mg_fs_at hj]; rfl
    rw [w2, hfv j hj]
    unfold updV
    rw [w1]
  unfold u_lay at hlay
  rcases hfin with hfin | ⟨hfin, hdecl, hin2⟩
  · rw [if_neg (by rw [hfin]; decide)] at hlay
    have h6 := u_store hfc hkC hkind hlay hi (n2 b hb2) hn hf
    exact W.putK hx hb (f := f) ⟨hown, hts _ hl, ⟨_, _, _, hi⟩, hst2⟩ (by rw [q2]; exact h6) q1 q3 (by rw [hsl]; exact k2_hasslot (q4 b hb2)) rfl rfl hdg kk
  · rw [if_pos hfin] at hlay
    have hcf : m.cls = cf := by
      obtain ⟨_, _, c', _, _, _, -, -, hf', -, -, -, hown2, -⟩ := Cond.laysFinal_spec hlay
      have e1 : c' = cf := by have := hi.symm.trans hf'; simp at this; exact this.1.symm
      rw [n3 b hb2, ← hdecl] at hown2
      rw [← e1]; exact Option.some.inj (hown.symm.trans hown2)
    have h6 := u_fits hfc hkC hkind (Or.inr hlay) hi (n2 b hb2) hn hf
    exact W.putFinK hx hb hown (hts _ hl) hi hst2 hcf hin2 (by rw [q2]; exact h6) q1 q3 (by rw [hsl]; exact k2_hasslot (q4 b hb2)) rfl rfl hdg kk
end MGH
