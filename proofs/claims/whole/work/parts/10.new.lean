theorem mg_tcs {a : Nat} (h1 : 1 ≤ a) (h7 : a ≤ 7) : ∀ k, k < mg_N a → mg_tc a k ≠ 3 := by
  have : a = 1 ∨ a = 2 ∨ a = 3 ∨ a = 4 ∨ a = 5 ∨ a = 6 ∨ a = 7 := by omega
  rcases this with rfl | rfl | rfl | rfl | rfl | rfl | rfl <;> decide +kernel
theorem mg_N160 {a : Nat} (h1 : 1 ≤ a) (h7 : a ≤ 7) : mg_N a ≤ 160 := by
  have : a = 1 ∨ a = 2 ∨ a = 3 ∨ a = 4 ∨ a = 5 ∨ a = 6 ∨ a = 7 := by omega
  rcases this with rfl | rfl | rfl | rfl | rfl | rfl | rfl <;> decide
theorem mg_H_al {D : mg_D} {M : mg_M} {s : State} {H H' : Heap} (hH : mg_H D M s H) {c n : Nat} (hc1 : 0 < c) (hc : c ≤ 11) (hz : H'.size = H.size + 1) (oq : ∀ q, q < H.size → H'[q]? = H[q]?)
    (hat : va_at (D.1, D.2.1) mg_cl (nx M, mg_cF D (al M c n) (nx M)) H') : mg_H D (al M c n) s H' := by
  obtain ⟨g1, g2, g3, g4, g5, g6, g7, g8⟩ := hH
  have hk : ∀ a, kd (al M c n) a = if a = nx M then c else kd M a := fun _ => rfl
  refine ⟨by rw [hz, ← g1]; rfl, by omega, g3, fun a q1 q2 => ?_, fun a q1 => ?_, fun a => ?_, fun a k => ?_, fun a k => ?_⟩
  · by_cases ha : a = nx M
    · subst ha
      exact ⟨hat, by omega⟩
    · rw [hk, if_neg ha] at q1 q2
      obtain ⟨f1, f2⟩ := g4 a q1 q2
      have e : mg_cF D (al M c n) a = mg_cF D M a := by
        have o1 : ∀ k, gi (al M c n) a k = gi M a k := fun k => if_neg ha
        have o2 : ∀ k, gr (al M c n) a k = gr M a k := fun k => if_neg ha
        have o3 : ∀ k, gl (al M c n) a k = gl M a k := fun k => if_neg ha
        have o4 : ∀ k, gd (al M c n) a k = gd M a k := fun k => if_neg ha
        have o5 : ln (al M c n) a = ln M a := if_neg ha
        have o6 : kd (al M c n) a = kd M a := by rw [hk, if_neg ha]
        unfold mg_cF mg_fs mg_fv
        simp only [o1, o2, o3, o4, o5, o6]
      rw [e]
      exact ⟨f1.kept (oq a f1.lt), f2⟩
  · have ha : a ≠ nx M := by
      intro ha
      rw [hk, if_pos ha] at q1
      omega
    rw [hk, if_neg ha] at q1
    obtain ⟨⟨scr, e1, e2, e3, e4, e5⟩, f2⟩ := g5 a q1
    have o1 : ∀ k, gi (al M c n) a k = gi M a k := fun k => if_neg ha
    have o5 : ln (al M c n) a = ln M a := if_neg ha
    refine ⟨⟨scr, by rw [oq a (by omega)]; exact e1, e2, e3, by rw [o5]; exact e4, fun j hj => ?_⟩, f2⟩
    rw [o5] at hj
    rw [e5 j hj]; simp only [o1]
  · rw [hk]
    split
    · omega
    · exact g6 a
  · show _ ≤ (if a = M.1.1 then _ else _) ∧ (if a = M.1.1 then _ else _) < _
    split
    · omega
    · exact g7 a k
  · show _ ≤ (if a = M.1.1 then _ else _) ∧ (if a = M.1.1 then _ else _) < _
    split
    · omega
    · exact g8 a k
section MGN
variable {p : Program} {l : Launch} {e : Env} {R : Room} {s : State} {m : MethodId} {args : Array Value} {below : List Frame} {meth : Method} {c : Code} {Q : State → Prop} {D : mg_D} {nL AC AS : Nat} {cc : ByteArray} {pc : Nat} {L : mg_L} {st : List mg_V} {M : mg_M} {B : Nat}
theorem gs_new (hx : p.tables.exec = Jvm.exec) (hb : c.code = cc) (hts : ∀ w ∈ mg_T, w.before args s = true) {own : String} (hown : s.vm.findClass own = some m.cls) (hK : va_K (D.1, D.2.1) mg_cl (mg_tys D) s) (hAC : AC ≤ R.cells) (hAS : AS ≤ R.slots)
    {i a : Nat} (ha : 1 ≤ a) (ha7 : a ≤ 7) (hcl : Cond.classLink own i (mg_R a) ∈ mg_T) (hin1 : Cond.instantiable (mg_R a) (mg_N a) ∈ mg_T) (hin2 : Cond.initialized (mg_R a) ∈ mg_T) (hB : 1 ≤ B) (hdg : decode cc pc = .ok (.new i, 3))
    (k : mg_G p l e R s m args below meth c Q D nL AC AS (pc + 3) L (.inr (.inl (nx M)) :: st) (al M a 0) (B - 1)) : mg_G p l e R s m args below meth c Q D nL AC AS pc L st M B := by
  intro H locs cells slots ls hH hS hF hst hc hs
  have hKn := hK.1 (a - 1) _ (mg_clk ha ha7)
  have hN := mg_N160 ha ha7
  have g1 : nx M = H.size := hH.1
  refine W.newcK hx hb hown (hts _ hcl) (hts _ hin1) (hts _ hin2) rfl hdg (by omega) (by omega) hKn.2.1 rfl fun H1 kC hkC e1 z1 o1 => ?_
  have k2 := k H1 locs (cells + 1) (slots + mg_N a) ls (mg_H_al hH (by omega) (by omega) z1 o1 ?_) ⟨Nat.le_trans hS.1 (by omega), fun x h1 h2 => (o1 x (Nat.lt_of_lt_of_le h1 hS.1)).trans (hS.2.1 x h1 h2), hS.2.2⟩ hF (mg_okc trivial hst) (by omega) (by omega)
  · rw [← g1]
    exact k2
  · have f3 : mg_cF D (al M a 0) (nx M) = .inr (a - 1, mg_fs (al M a 0) (nx M) a) := by
      have o6 : kd (al M a 0) (nx M) = a := if_pos rfl
      unfold mg_cF; rw [o6, if_pos ha7]
    rw [f3]
    refine ⟨_, mg_clk ha ha7, ?_⟩
    rw [g1]
    refine (u_born (mg_ty a) hts (mg_lays ha ha7) hKn hkC e1 (mg_nms ha ha7).2.1).to (fun j hj => ?_)
    rw [← g1]
    have w1 : vp_V (mg_fs (al M a 0) (nx M) a) j = mg_fv (al M a 0) (nx M) a j := by unfold vp_V; rw [List.getD_eq_getElem?_getD, mg_fs_at hj]; rfl
    rw [w1]
    have ht := mg_tcs ha ha7 j hj
    have o1 : gi (al M a 0) (nx M) j = 0 := if_pos rfl
    have o2 : gr (al M a 0) (nx M) j = 0 := if_pos rfl
    unfold mg_tc at ht
    unfold mg_fv
    rw [o1, o2]
    cases h9 : mg_ty a j <;> simp_all <;> rfl
theorem gs_newa (hx : p.tables.exec = Jvm.exec) (hb : c.code = cc) (hts : ∀ w ∈ mg_T, w.before args s = true) (hK : va_K (D.1, D.2.1) mg_cl (mg_tys D) s) (hAC : AC ≤ R.cells) (hAS : AS ≤ R.slots)
    {a : Nat} {t : ArrayType} (ha : (t = .int ∧ a = 8) ∨ (t = .long ∧ a = 10) ∨ (t = .double ∧ a = 11)) (hw : Cond.arrayClass (newarray.typeOf t) ∈ mg_T) {n : Int} (hn : 0 ≤ n ∧ n ≤ 160 ∧ 1 ≤ B) (hdg : decode cc pc = .ok (.newarray t, 2))
    (k : mg_G p l e R s m args below meth c Q D nL AC AS (pc + 2) L (.inr (.inl (nx M)) :: st) (al M a n.toNat) (B - 1)) : mg_G p l e R s m args below meth c Q D nL AC AS pc L (.inl n :: st) M B := by
  intro H locs cells slots ls hH hS hF hst hc hs
  have g1 : nx M = H.size := hH.1
  have hn2 : -2147483648 ≤ n ∧ n < 2147483648 := by omega
  refine va_newaK (n := Int32.ofInt n) (N := n.toNat) hx hb (hts _ hw) rfl hdg rfl (mg_neg hn2 hn.1) (mg_clp hn2) (by rcases ha with ⟨rfl, -⟩ | ⟨rfl, -⟩ | ⟨rfl, -⟩ <;> simp only [newarray.typeOf, componentBytes] <;> omega) (by omega) (by omega) rfl fun H1 cA e1 z1 o1 hAr hNm => ?_
  have k2 := k H1 locs (cells + 1) (slots + n.toNat) ls (mg_H_al hH (by omega) (by omega) z1 o1 ?_) ⟨Nat.le_trans hS.1 (by omega), fun x h1 h2 => (o1 x (Nat.lt_of_lt_of_le h1 hS.1)).trans (hS.2.1 x h1 h2), hS.2.2⟩ hF (mg_okc trivial (fun w hw => hst w (List.mem_cons_of_mem _ hw))) (by omega) (by omega)
  · rw [← g1]
    exact k2
  · have o6 : kd (al M a n.toNat) (nx M) = a := if_pos rfl
    have o7 : ln (al M a n.toNat) (nx M) = n.toNat := if_pos rfl
    have o1 : ∀ j, gi (al M a n.toNat) (nx M) j = 0 := fun j => if_pos rfl
    have o3 : ∀ j, gl (al M a n.toNat) (nx M) j = 0 := fun j => if_pos rfl
    have o4 : ∀ j, gd (al M a n.toNat) (nx M) j = 0 := fun j => if_pos rfl
    rcases ha with ⟨rfl, rfl⟩ | ⟨rfl, rfl⟩ | ⟨rfl, rfl⟩
    · rw [mg_cF8 o6, o7]
      have hc2 : cA = D.2.2.1 8 := Option.some.inj (hNm.symm.trans (hK.2 0 _ rfl).2)
      subst hc2
      rw [g1]
      show H1[H.size]? = some (vp_cell _ _)
      rw [e1, vp_cell_i]
      rw [← g1]
      simp only [o1]
      rfl
    · rw [mg_cF10 o6, o7]
      have hc2 : cA = D.2.2.1 10 := Option.some.inj (hNm.symm.trans (hK.2 2 _ rfl).2)
      subst hc2
      rw [g1]
      show H1[H.size]? = some (vp_cell _ _)
      rw [e1, vp_cell_l]
      rw [← g1]
      simp only [o3]
      rfl
    · rw [mg_cF11 o6, o7]
      have hc2 : cA = D.2.2.1 11 := Option.some.inj (hNm.symm.trans (hK.2 3 _ rfl).2)
      subst hc2
      rw [g1]
      show H1[H.size]? = some (vp_cell _ _)
      rw [e1, vp_cell_d]
      rw [← g1]
      simp only [o4]
      rfl
theorem gs_anew (hx : p.tables.exec = Jvm.exec) (hb : c.code = cc) (hts : ∀ w ∈ mg_T, w.before args s = true) {own : String} (hown : s.vm.findClass own = some m.cls) (hK : va_K (D.1, D.2.1) mg_cl (mg_tys D) s) (hAC : AC ≤ R.cells) (hAS : AS ≤ R.slots)
    {i : Nat} (hcl : Cond.classLink own i "MergeGrid$Cell" ∈ mg_T) (hov : va_AO "MergeGrid$Cell" s) {n : Int} (hn : 0 ≤ n ∧ n ≤ 160 ∧ 1 ≤ B) (hdg : decode cc pc = .ok (.anewarray i, 3))
    (k : mg_G p l e R s m args below meth c Q D nL AC AS (pc + 3) L (.inr (.inl (nx M)) :: st) (al M 9 n.toNat) (B - 1)) : mg_G p l e R s m args below meth c Q D nL AC AS pc L (.inl n :: st) M B := by
  intro H locs cells slots ls hH hS hF hst hc hs
  have g1 : nx M = H.size := hH.1
  have hn2 : -2147483648 ≤ n ∧ n < 2147483648 := by omega
  refine W.anew (n := Int32.ofInt n) hx hb hown (hts _ hcl) (va_AO.use hov) rfl hdg rfl (mg_neg hn2 hn.1) (by rw [mg_clp hn2]; omega) (by omega) (by rw [mg_clp hn2]; omega) fun cA kA comp f1 f2 f3 f4 => ?_
  rw [mg_clp hn2]
  generalize hH1 : H.push ({ cls := cA, slots := Array.replicate n.toNat .null, vm := .none } : Cell) = H1
  have z1 : H1.size = H.size + 1 := by rw [← hH1, Array.size_push]
  have e1 : H1[H.size]? = some (arrV cA n.toNat (fun _ => .null)) := by rw [← hH1, Array.getElem?_push_size, ← arrV_new]
  have o1 : ∀ q : Nat, q < H.size → H1[q]? = H[q]? := fun q hq => by rw [← hH1, Array.getElem?_push, if_neg (Nat.ne_of_lt hq)]
  have k2 := k H1 locs (cells + 1) (slots + n.toNat) ls (mg_H_al hH (by omega) (by omega) z1 o1 ?_) ⟨Nat.le_trans hS.1 (by omega), fun x h1 h2 => (o1 x (Nat.lt_of_lt_of_le h1 hS.1)).trans (hS.2.1 x h1 h2), hS.2.2⟩ hF (mg_okc trivial (fun w hw => hst w (List.mem_cons_of_mem _ hw))) (by omega) (by omega)
  · rw [← g1]
    exact k2
  · have o6 : kd (al M 9 n.toNat) (nx M) = 9 := if_pos rfl
    have o7 : ln (al M 9 n.toNat) (nx M) = n.toNat := if_pos rfl
    have o2 : ∀ j, gr (al M 9 n.toNat) (nx M) j = 0 := fun j => if_pos rfl
    rw [mg_cF9 o6, o7]
    obtain ⟨kA2, comp2, k1, k2', k3, k4⟩ := (hK.2 1 _ rfl).2
    have hc2 : cA = D.2.2.1 9 := Option.some.inj (f1.symm.trans k4)
    subst hc2
    rw [g1]
    show H1[H.size]? = some (vp_cell _ _)
    rw [e1, vp_cell_q]
    rw [← g1]
    simp only [o2]
    rfl
theorem gs_copy (hx : p.tables.exec = Jvm.exec) (hb : c.code = cc) (hml : c.maxLocals = nL) (hts : ∀ w ∈ mg_T, w.before args s = true) {own : String} (hown : s.vm.findClass own = some m.cls) (hK : va_K (D.1, D.2.1) mg_cl (mg_tys D) s) (hRf : 1 ≤ R.frames) (hRl : 60 ≤ R.locals)
    {i a b : Nat} {n : Int} (hlink : Cond.methodLink own i arraycopyName ∈ mg_T) (hnat : Cond.native arraycopyName ∈ mg_T) (hstat : Cond.static arraycopyName ∈ mg_T) (hini : Cond.initialized "java/lang/System" ∈ mg_T)
    (h : 0 ≤ n ∧ kd M a = 8 ∧ kd M b = 8 ∧ n ≤ ln M a ∧ n ≤ ln M b) (hlen : st.length ≤ 4) (hdg : decode cc pc = .ok (.invokestatic i, 3)) (k : mg_G p l e R s m args below meth c Q D nL AC AS (pc + 3) L st (cpy M a b n.toNat) B) :
    mg_G p l e R s m args below meth c Q D nL AC AS pc L (.inl n :: .inl 0 :: .inr (.inl b) :: .inl 0 :: .inr (.inl a) :: st) M B := by
  intro H locs cells slots ls hH hS hF hst hc hs
  obtain ⟨h0, ha, hb2, hla, hlb⟩ := h
  refine mg_ok2 hst fun hn hst1 => ?_
  have hn : -2147483648 ≤ n ∧ n < 2147483648 := hn
  have hst2 : ∀ w ∈ st, mg_ok w := fun w hw => hst1 w (by simp [hw])
  obtain ⟨f1, f2⟩ := hH.2.2.2.1 a (by omega) (by omega)
  obtain ⟨f3, f4⟩ := hH.2.2.2.1 b (by omega) (by omega)
  rw [mg_cF8 ha] at f1
  rw [mg_cF8 hb2] at f3
  have z0 : (0 : Int32).toNatClampNeg = 0 := rfl
  have e9 : copied (vp_cell (D.2.2.1 8) (ln M a, .inl (fun j => Int32.ofInt (gi M a j)))) (vp_cell (D.2.2.1 8) (ln M b, .inl (fun j => Int32.ofInt (gi M b j)))) 0 0 (Int32.ofInt n) = vp_cell (D.2.2.1 8) (ln M b, .inl (va_cpy (fun j => Int32.ofInt (gi M a j)) (fun j => Int32.ofInt (gi M b j)) 0 0 n.toNat)) := by
    have := va_copied (fun z => Value.int z) (D.2.2.1 8) (D.2.2.1 8) (n0 := ln M a) (n1 := ln M b) (sp := 0) (dp := 0) (n := n.toNat) (fun j => Int32.ofInt (gi M a j)) (fun j => Int32.ofInt (gi M b j)) (by omega)
    unfold copied
    rw [mg_clp hn]
    exact this
  have hsum := mg_sum st
  have hnf : nativeFrameWords "java/lang/System" "arraycopy" 5 + 11 ≤ 50 := by decide +kernel
  intro T hT X
  obtain ⟨-, k0, hk0, cm0, hkk0⟩ := (hK.2 0 _ rfl).1 (ln M a) (fun j => .int (Int32.ofInt (gi M a j)))
  obtain ⟨-, k1, hk1, cm1, hkk1⟩ := (hK.2 0 _ rfl).1 (ln M b) (fun j => .int (Int32.ofInt (gi M b j)))
  obtain ⟨vm', X', step⟩ := X.arraycopy hx hown (hts _ hlink) (hts _ hnat) (hts _ hstat) (hts _ hini) (src := a) (dst := b) (cs := vp_cell (D.2.2.1 8) (ln M a, .inl (fun j => Int32.ofInt (gi M a j)))) (cd := vp_cell (D.2.2.1 8) (ln M b, .inl (fun j => Int32.ofInt (gi M b j)))) (srcPos := 0) (destPos := 0) (n := Int32.ofInt n) (by rw [hT]; exact f1) (by rw [hT]; exact f3)
    (fun _ h => by cases h) (fun _ h => by cases h) (fun h => by cases h) (fun h => by cases h) hk0 hk1 hkk0 hkk1 (by simp [refKind]) (by decide) (by decide) (mg_neg hn h0)
    (by rw [mg_toI hn.1 hn.2]; show ¬ (0 : Int) + _ > ((arrV _ (ln M a) _).slots.size : Int); rw [arrV_size]; omega)
    (by rw [mg_toI hn.1 hn.2]; show ¬ (0 : Int) + _ > ((arrV _ (ln M b) _).slots.size : Int); rw [arrV_size]; omega)
    (fun vm₁ _ i hi => by
      rw [mg_clp hn] at hi
      have e : (vp_cell (D.2.2.1 8) (ln M a, .inl (fun j => Int32.ofInt (gi M a j)))).slots.getD ((0 : Int32).toNatClampNeg + i) .null = .int (Int32.ofInt (gi M a (0 + i))) := by
        rw [z0]
        show (arrV _ (ln M a) (fun j => .int (Int32.ofInt (gi M a j)))).slots.getD _ _ = _
        rw [Array.getD_eq_getD_getElem?, arrV_read _ _ (by omega)]
        rfl
      refine ⟨?_, ?_⟩
      · rw [e]; rfl
      · rw [e]; exact trivial)
    (g := F0 m pc ls (.int (Int32.ofInt n) :: .int 0 :: .ref b :: .int 0 :: .ref a :: st.map mg_tv)) rfl (by rw [hml]; exact hF.1.1) (rest := st.map mg_tv) rfl (by rw [hb]; exact hdg) hRf (by show 2 * 0 + _ + _ ≤ _; omega)
  rw [e9] at X' step
  obtain ⟨H', hH'⟩ : ∃ H' : Heap, H' = H.setIfInBounds b (vp_cell (D.2.2.1 8) (ln M b, .inl (va_cpy (fun j => Int32.ofInt (gi M a j)) (fun j => Int32.ofInt (gi M b j)) 0 0 n.toNat))) := ⟨_, rfl⟩
  have hl : b < H.size := (Array.getElem?_eq_some_iff.mp (show H[b]? = some _ from f3)).1
  have oq : ∀ q : Nat, q ≠ b → H'[q]? = H[q]? := fun q hq => by rw [hH']; simp [Array.getElem?_setIfInBounds, Ne.symm hq]
  have z : H'.size = H.size := by rw [hH']; simp
  have e1 : H'[b]? = some (vp_cell (D.2.2.1 8) (ln M b, .inl (va_cpy (fun j => Int32.ofInt (gi M a j)) (fun j => Int32.ofInt (gi M b j)) 0 0 n.toNat))) := by rw [hH']; simp [Array.getElem?_setIfInBounds, hl]
  have hHn : mg_H D (cpy M a b n.toNat) s H' := by
    refine mg_H_upd hH f4 rfl (fun _ => rfl) (fun _ => rfl) (fun x hx => ⟨fun k => ?_, fun _ => rfl, fun _ => rfl, fun _ => rfl⟩) (fun x k => ?_) hH.2.2.2.2.2.2.2 z oq ?_
    · show (if x = b ∧ _ then _ else _) = _
      rw [if_neg (fun q => hx q.1)]; rfl
    · show _ ≤ (if x = b ∧ _ then _ else _) ∧ (if x = b ∧ _ then _ else _) < _
      split
      · exact hH.2.2.2.2.2.2.1 a k
      · exact hH.2.2.2.2.2.2.1 x k
    · rw [mg_cF8 (M := cpy M a b n.toNat) hb2]
      show H'[b]? = some (vp_cell _ _)
      rw [e1]
      have e5 : va_cpy (fun j => Int32.ofInt (gi M a j)) (fun j => Int32.ofInt (gi M b j)) 0 0 n.toNat = fun j => Int32.ofInt (gi (cpy M a b n.toNat) b j) := by
        funext j
        show (if 0 ≤ j ∧ j < 0 + n.toNat then Int32.ofInt (gi M a (0 + (j - 0))) else Int32.ofInt (gi M b j)) = Int32.ofInt (if b = b ∧ j < n.toNat then M.2.1 a j else M.2.1 b j)
        by_cases hj : j < n.toNat
        · rw [if_pos ⟨by omega, by omega⟩, if_pos ⟨rfl, hj⟩, Nat.zero_add, Nat.sub_zero]; rfl
        · rw [if_neg (fun z => hj (by omega)), if_neg (fun z => hj z.2)]; rfl
      rw [e5]
      rfl
  have hheap : ((T.setVm vm').setCell b (vp_cell (D.2.2.1 8) (ln M b, .inl (va_cpy (fun j => Int32.ofInt (gi M a j)) (fun j => Int32.ofInt (gi M b j)) 0 0 n.toNat)))).heap = H' := by rw [hH', ← hT]; rfl
  have k2 : ∀ L2 : List Loc, (∀ q ∈ L2, q.base = b) → W p l e R s m args below meth c H' (locs ++ L2) cells slots Q (F0 m (pc + 3) ls (st.map mg_tv)) := fun L2 hL2 => k H' (locs ++ L2) cells slots ls hHn ⟨by rw [z]; exact hS.1, fun q g1 g2 => by rw [oq q (fun e => g2 (by rw [e]; exact f4))]; exact hS.2.1 q g1 g2, fun q hq => by
      rcases List.mem_append.mp hq with h | h
      · exact hS.2.2 q h
      · rw [hL2 q h]
        exact f4⟩ hF hst2 hc hs
  obtain ⟨t, a1, b1⟩ := k2 _ (fun q hq => by obtain ⟨z, -, hz⟩ := List.mem_map.mp hq; rw [← hz]) _ hheap X'
  exact ⟨t, step t a1, b1⟩
end MGN
