/-! the check of decoded code; the walk is sound -/
def mg_chk1 (o : Nat) (ini : Bool) (nL dp : Nat) (nh : Bool) (C : mg_C) (cc : ByteArray) (pc : Nat) (i : Instr) (len a b c d : Nat) : Bool := match i with
  | .iconst n => decide (-2147483648 ≤ n ∧ n < 2147483648) && Nat.beq len 1
  | .bipush n => decide ((-2147483648 ≤ n ∧ n < 2147483648) ∧ (Int8.ofInt n).toInt32 = Int32.ofInt n) && Nat.beq len 2
  | .sipush n => decide ((-2147483648 ≤ n ∧ n < 2147483648) ∧ (Int16.ofInt n).toInt32 = Int32.ofInt n) && Nat.beq len 3
  | .lconst n => decide (n.val = a) && Nat.beq len 1
  | .ldc2_w i => decide ((o, i, a) ∈ mg_kp ∧ a < 9223372036854775808) && Nat.beq len 3
  | .fconst f => decide (f = 0) && Nat.beq len 1
  | .dconst f => decide (f = 0) && Nat.beq len 1
  | .iload_n n => decide (n.val = a) && Nat.beq len 1
  | .iload i => decide (i = a) && Nat.beq len 2
  | .aload_n n => decide (n.val = a) && Nat.beq len 1
  | .aload i => decide (i = a) && Nat.beq len 2
  | .lload_n n => decide (n.val = a) && Nat.beq len 1
  | .lload i => decide (i = a) && Nat.beq len 2
  | .dload_n n => decide (n.val = a) && Nat.beq len 1
  | .dload i => decide (i = a) && Nat.beq len 2
  | .istore_n n => decide (n.val = a ∧ a < nL) && Nat.beq len 1
  | .istore i => decide (i = a ∧ a < nL) && Nat.beq len 2
  | .astore_n n => decide (n.val = a ∧ a < nL) && Nat.beq len 1
  | .astore i => decide (i = a ∧ a < nL) && Nat.beq len 2
  | .lstore_n n => decide (n.val = a ∧ a + 1 < nL) && Nat.beq len 1
  | .lstore i => decide (i = a ∧ a + 1 < nL) && Nat.beq len 2
  | .dstore_n n => decide (n.val = a ∧ a + 1 < nL) && Nat.beq len 1
  | .dstore i => decide (i = a ∧ a + 1 < nL) && Nat.beq len 2
  | .iinc i n => decide (i = a ∧ a < nL) && Nat.beq len 3
  | .iadd => Nat.beq len 1
  | .isub => Nat.beq len 1
  | .imul => Nat.beq len 1
  | .idiv => Nat.beq len 1
  | .irem => Nat.beq len 1
  | .iand => Nat.beq len 1
  | .l2i => Nat.beq len 1
  | .ladd => Nat.beq len 1
  | .lsub => Nat.beq len 1
  | .f2d => Nat.beq len 1
  | .fdiv => Nat.beq len 1
  | .ddiv => Nat.beq len 1
  | .i2c => Nat.beq len 1
  | .i2l => Nat.beq len 1
  | .lcmp => Nat.beq len 1
  | .i2f => Nat.beq len 1
  | .i2d => Nat.beq len 1
  | .dcmp op => Nat.beq len 1
  | .dup => Nat.beq len 1
  | .dup2 => Nat.beq len 1
  | .pop => Nat.beq len 1
  | .ifCond op off => decide ((pc : Int) + off = (a : Int)) && Nat.beq len 3
  | .if_icmp op off => decide ((pc : Int) + off = (a : Int)) && Nat.beq len 3
  | .goto off => decide ((pc : Int) + off = (a : Int)) && Nat.beq len 3
  | .tableswitch df lo hi offs => decide ((pc : Int) + df = (a : Int) ∧ lo = 0 ∧ hi + 1 = (C.2.2.2.2.length : Int) ∧ offs.toList.map (fun x => (pc : Int) + x) = C.2.2.2.2.map (fun (x : Nat) => (x : Int)) ∧ C.2.2.2.2.length < 1000)
  | .getfield i => decide ((o, i, a, b) ∈ mg_fp ∧ 1 ≤ a ∧ a ≤ 7 ∧ b < mg_N a ∧ c = mg_tc a b ∧ c ≠ 3) && Nat.beq len 3
  | .putfield i => decide ((o, i, a, b) ∈ mg_fp ∧ 1 ≤ a ∧ a ≤ 7 ∧ b < mg_N a ∧ c = mg_tc a b ∧ c ≠ 3) && decide ((mg_F a b).2.2.2 = false ∨ ((mg_F a b).2.2.2 = true ∧ ini = true ∧ o = a)) && Nat.beq len 3
  | .iaload => decide (a = 8 ∨ a = 12) && Nat.beq len 1
  | .aaload => Nat.beq len 1
  | .laload => Nat.beq len 1
  | .daload => Nat.beq len 1
  | .iastore => Nat.beq len 1
  | .aastore => Nat.beq len 1
  | .lastore => Nat.beq len 1
  | .dastore => Nat.beq len 1
  | .arraylength => decide (a = 8 ∨ a = 9 ∨ a = 12) && Nat.beq len 1
  | .newarray t => decide ((t = .int ∧ a = 8) ∨ (t = .long ∧ a = 10) ∨ (t = .double ∧ a = 11)) && Nat.beq len 2
  | .anewarray i => decide ((o, i, 3) ∈ mg_cp) && Nat.beq len 3
  | .new i => (bif Nat.blt a 100 then decide ((o, i, a) ∈ mg_cp ∧ 1 ≤ a ∧ a ≤ 7) else nh && decide (o = 6 ∧ 6 ≤ dp ∧ (i, b, c, a - 100) ∈ mg_tp) && decide (decode cc (pc + 3) = .ok (.dup, 1)) && (bif Nat.beq d 0 then decide (a - 100 ≠ 5 ∧ decode cc (pc + 4) = .ok (.ldc b, 2) ∧ decode cc (pc + 6) = .ok (.invokespecial c, 3) ∧ decode cc (pc + 9) = .ok (.athrow, 1)) else decide (decode cc (pc + 4) = .ok (.ldc_w b, 3) ∧ decode cc (pc + 7) = .ok (.invokespecial c, 3) ∧ decode cc (pc + 10) = .ok (.athrow, 1)))) && Nat.beq len 3
  | .invokevirtual i => decide ((o, i, a) ∈ mg_mp) && (match mg_mt[a - 1]? with | some q => decide (q.2.2.2.2.1 = [] ∧ q.2.2.2.2.2.2.2.2 = d ∧ 1 ≤ d ∧ d ≤ 7 ∧ q.2.2.2.2.2.1 < dp ∧ q.2.2.2.2.2.2.2.1 = b + 1 ∧ q.2.2.2.2.2.2.1 = c) | none => false) && Nat.beq len 3
  | .invokespecial i => (bif Nat.beq a 0 then decide ((o, i, 0) ∈ mg_lp ∧ 2 ≤ dp) else (match mg_mt[a - 1]? with | some q => decide (q.2.2.2.2.1 = [] ∧ 100 ≤ q.2.2.2.2.2.2.2.2 ∧ q.2.2.2.2.2.1 < dp ∧ q.2.2.2.2.2.2.2.1 = b + 1 ∧ q.2.2.2.2.2.2.1 = c ∧ ((o, i, a) ∈ mg_mp ∨ (mg_R o, i, q.1) ∈ mg_nwN)) | none => false)) && Nat.beq len 3
  | .invokestatic i => (bif Nat.blt a 1000 then (match mg_mt[a - 1]? with | some q => decide (q.2.2.2.2.2.2.2.2 = 0 ∧ q.2.2.2.2.2.1 < dp ∧ q.2.2.2.2.2.2.2.1 = b ∧ q.2.2.2.2.2.2.1 = c ∧ (o, i, a) ∈ mg_mp) | none => false) else decide ((o, i, a) ∈ mg_lp ∧ 2 ≤ dp ∧ (a = 1000 ∨ a = 1001 ∨ a = 1002))) && Nat.beq len 3
  | .ireturn => decide (C.2.2.2.1.1 = 1 ∨ C.2.2.2.1.1 = 2) && Nat.beq len 1
  | .areturn => decide (C.2.2.2.1.1 = 3) && Nat.beq len 1
  | .lreturn => decide (C.2.2.2.1.1 = 4) && Nat.beq len 1
  | .freturn => decide (C.2.2.2.1.1 = 5) && Nat.beq len 1
  | .dreturn => decide (C.2.2.2.1.1 = 6) && Nat.beq len 1
  | .return_ => decide (C.2.2.2.1.1 = 0) && Nat.beq len 1
  | _ => false
def mg_chkE (o : Nat) (ini : Bool) (nL dp : Nat) (nh : Bool) (C : mg_C) (cc : ByteArray) (e : mg_E) : Bool := Nat.beq e.2.1 (e.1 + e.2.2.1.2) && decide (decode cc e.1 = .ok e.2.2.1) && mg_chk1 o ini nL dp nh C cc e.1 e.2.2.1.1 e.2.2.1.2 e.2.2.2.1 e.2.2.2.2.1 e.2.2.2.2.2.1 e.2.2.2.2.2.2
theorem mg_ifM {op : Jvm.ClassFile.Cond} {x y : Int} {T F T' F' : Prop} (h : mg_if op x y T F) (ht : T → T') (hf : F → F') : mg_if op x y T' F' := by
  cases op <;> exact ⟨fun q => ht (h.1 q), fun q => hf (h.2 q)⟩
theorem mg_swM {ts : List Nat} {x : Int} {j : Nat} {k k' : Nat → Prop} (h : mg_sw ts x j k) (hk : ∀ t, k t → k' t) : mg_sw ts x j k' := by
  induction ts generalizing j with
  | nil => trivial
  | cons t ts ih => exact ⟨fun q => hk t (h.1 q), ih h.2⟩
theorem mg_swS {ts : List Nat} {x : Int} {j : Nat} {k : Nat → Prop} (h : mg_sw ts x j k) : ∀ i t, ts[i]? = some t → x = ((j + i : Nat) : Int) → k t := by
  induction ts generalizing j with
  | nil => intro i t hi; simp at hi
  | cons t0 ts ih =>
    intro i t hi hx
    cases i with
    | zero => simp at hi; subst hi; exact h.1 (by simpa using hx)
    | succ i => exact ih h.2 i t (by simpa using hi) (by rw [hx]; congr 1; omega)
theorem mg_handM {hs : List (Nat × Nat × Nat × Nat)} {pc x : Nat} {k k' : Nat → Prop} {n : Prop} (h : mg_hand hs pc x k n) (hk : ∀ t, k t → k' t) : mg_hand hs pc x k' n := by
  induction hs with
  | nil => exact h
  | cons q hs ih =>
    obtain ⟨a, b, t, c⟩ := q
    unfold mg_hand at h ⊢
    cases hb : ((Nat.ble a pc && Nat.blt pc b) && Nat.beq c x) with
    | true => rw [hb] at h; exact hk _ h
    | false => rw [hb] at h; exact ih h
theorem mg_filt {w : Cond} (h1 : w ∈ lw_tbl) (h2 : goodWord w = true) : w ∈ mg_T := List.mem_filter.mpr ⟨h1, h2⟩
theorem mg_fpT {o i a b : Nat} (h : (o, i, a, b) ∈ mg_fp) : Cond.fieldLink (mg_R o) i (mg_F a b).1 (mg_F a b).2.1 (mg_F a b).2.2.1 ∈ mg_T := mg_filt (mg_memf mg_fpk _ h) (List.all_eq_true.mp mg_fpg _ h)
theorem mg_cpT {o i a : Nat} (h : (o, i, a) ∈ mg_cp) : Cond.classLink (mg_R o) i (mg_R a) ∈ mg_T := mg_filt (mg_memf mg_cpk _ h) (List.all_eq_true.mp mg_cpg _ h)
theorem mg_lpT {o i a : Nat} (h : (o, i, a) ∈ mg_lp) : Cond.methodLink (mg_R o) i (mg_lib a) ∈ mg_T := mg_filt (mg_memf mg_lpk _ h) (List.all_eq_true.mp mg_lpg _ h)
theorem mg_mpT {o i a : Nat} (h : (o, i, a) ∈ mg_mp) {q : mg_Q} (hq : mg_mt[a - 1]? = some q) : Cond.methodLink (mg_R o) i q.1 ∈ mg_T := by
  have h1 : Cond.methodLink (mg_R o) i (mg_nm a) ∈ mg_T := mg_filt (mg_memf mg_mpk _ h) (List.all_eq_true.mp mg_mpg _ h)
  unfold mg_nm at h1
  rw [hq] at h1
  exact h1
theorem mg_oneT {w : Cond} (h : w ∈ mg_one) : w ∈ mg_T := mg_mem mg_onek.1 mg_onek.2 w h
theorem mg_o {i : Nat} {w : Cond} (h : mg_one[i]? = some w) : w ∈ mg_T := mg_oneT (List.mem_of_getElem? h)
theorem mg_insT {a : Nat} (h1 : 1 ≤ a) (h7 : a ≤ 7) : Cond.instantiable (mg_R a) (mg_N a) ∈ mg_T := by
  have : a = 1 ∨ a = 2 ∨ a = 3 ∨ a = 4 ∨ a = 5 ∨ a = 6 ∨ a = 7 := by omega
  rcases this with rfl | rfl | rfl | rfl | rfl | rfl | rfl
  · exact mg_o (i := 0) rfl
  · exact mg_o (i := 2) rfl
  · exact mg_o (i := 4) rfl
  · exact mg_o (i := 6) rfl
  · exact mg_o (i := 8) rfl
  · exact mg_o (i := 10) rfl
  · exact mg_o (i := 12) rfl
theorem mg_iniT {a : Nat} (h1 : 1 ≤ a) (h7 : a ≤ 7) : Cond.initialized (mg_R a) ∈ mg_T := by
  have : a = 1 ∨ a = 2 ∨ a = 3 ∨ a = 4 ∨ a = 5 ∨ a = 6 ∨ a = 7 := by omega
  rcases this with rfl | rfl | rfl | rfl | rfl | rfl | rfl
  · exact mg_o (i := 1) rfl
  · exact mg_o (i := 3) rfl
  · exact mg_o (i := 5) rfl
  · exact mg_o (i := 7) rfl
  · exact mg_o (i := 9) rfl
  · exact mg_o (i := 11) rfl
  · exact mg_o (i := 13) rfl
theorem mg_exT {a : Nat} (h1 : 1 ≤ a) (h7 : a ≤ 6) : Cond.initialized (mg_ex a) ∈ mg_T := by
  rcases mg_exs h1 h7 with rfl | rfl | rfl | rfl | rfl | rfl
  · exact mg_o (i := 14) rfl
  · exact mg_o (i := 15) rfl
  · exact mg_o (i := 16) rfl
  · exact mg_o (i := 17) rfl
  · exact mg_o (i := 18) rfl
  · exact mg_o (i := 19) rfl
theorem mg_arrT {t : ArrayType} {a : Nat} (h : (t = .int ∧ a = 8) ∨ (t = .long ∧ a = 10) ∨ (t = .double ∧ a = 11)) : Cond.arrayClass (newarray.typeOf t) ∈ mg_T := by
  rcases h with ⟨rfl, -⟩ | ⟨rfl, -⟩ | ⟨rfl, -⟩
  · exact mg_o (i := 20) rfl
  · exact mg_o (i := 21) rfl
  · exact mg_o (i := 22) rfl
theorem mg_mx1 : Cond.static Lib.Math.max.name ∈ mg_T := mg_o (i := 23) rfl
theorem mg_mi1 : Cond.static Lib.Math.min.name ∈ mg_T := mg_o (i := 24) rfl
theorem mg_mx2 : Cond.initialized "java/lang/Math" ∈ mg_T := mg_o (i := 25) rfl
theorem mg_mx3 : Cond.code Lib.Math.max.name Lib.Math.max.code 2 (some .int) ∈ mg_T := mg_o (i := 26) rfl
theorem mg_mi3 : Cond.code Lib.Math.min.name Lib.Math.min.code 2 (some .int) ∈ mg_T := mg_o (i := 27) rfl
theorem mg_ac1 : Cond.native arraycopyName ∈ mg_T := mg_o (i := 28) rfl
theorem mg_ac2 : Cond.static arraycopyName ∈ mg_T := mg_o (i := 29) rfl
theorem mg_ac3 : Cond.initialized "java/lang/System" ∈ mg_T := mg_o (i := 30) rfl
theorem mg_oi1 : Cond.instanceMethod Lib.objectInit ∈ mg_T := mg_o (i := 31) rfl
theorem mg_oi2 : Cond.code Lib.objectInit ⟨#[0xb1]⟩ 1 none ∈ mg_T := mg_o (i := 32) rfl
theorem mg_buyS {C : mg_C} {MT : Nat → List mg_V → mg_M → mg_O → mg_X → Prop} {Xo : mg_X} {K : mg_K} {pc nn a c B : Nat} {ls : mg_L} {as st : List mg_V} {M : mg_M} (h : mg_buy c B fun B => mg_call C MT Xo K pc nn a ls as st M B) :
    c ≤ B ∧ ∃ (N : mg_O) (X : mg_X), st.length ≤ 4 ∧ MT a as M N X ∧ (∀ v M', N v M' → K nn ls (v.toList ++ st) M' (B - c)) ∧ (∀ k M', X k M' → mg_hand C.2.2.1 pc k (fun h => ∀ q : Nat, K h ls [.inr (.inl q)] M' (B - c)) (Xo k M')) := by
  have go : ∀ {B : Nat}, mg_call C MT Xo K pc nn a ls as st M B → ∃ (N : mg_O) (X : mg_X), st.length ≤ 4 ∧ MT a as M N X ∧ (∀ v M', N v M' → K nn ls (v.toList ++ st) M' B) ∧ (∀ k M', X k M' → mg_hand C.2.2.1 pc k (fun h => ∀ q : Nat, K h ls [.inr (.inl q)] M' B) (Xo k M')) := by
    intro B h
    unfold mg_call at h
    cases hl : Nat.ble st.length 4 with
    | false => rw [hl] at h; exact h.elim
    | true =>
      rw [hl] at h
      obtain ⟨N, X, h1, h2, h3⟩ := h
      exact ⟨N, X, Nat.le_of_ble_eq_true hl, h1, h2, h3⟩
  unfold mg_buy at h
  cases hc : Nat.beq c 0 with
  | true =>
    rw [hc] at h
    have := Nat.eq_of_beq_eq_true hc
    subst this
    exact ⟨Nat.zero_le _, go h⟩
  | false =>
    rw [hc] at h
    exact ⟨h.1, go h.2⟩
section MGV
variable {p : Program} {l : Launch} {e : Env} {R : Room} {s : State} {m : MethodId} {args : Array Value} {below : List Frame} {meth : Method} {c : Code} {Q : State → Prop} {D : mg_D} {nL AC AS : Nat} {cc : ByteArray} {pc : Nat} {L : mg_L} {st : List mg_V} {M : mg_M} {B : Nat}
theorem gs_tsw (hx : p.tables.exec = Jvm.exec) (hb : c.code = cc) {df lo hi : Int} {offs : Array Int} {len a : Nat} {ts : List Nat} {x : Int} (h1 : (pc : Int) + df = (a : Int)) (h2 : lo = 0) (h3 : hi + 1 = (ts.length : Int)) (h4 : offs.toList.map (fun x => (pc : Int) + x) = ts.map (fun (x : Nat) => (x : Int))) (h5 : ts.length < 1000)
    (hd : decode cc pc = .ok (.tableswitch df lo hi offs, len)) (k1 : mg_sw ts x 0 (fun t => mg_G p l e R s m args below meth c Q D nL AC AS t L st M B)) (k2 : (x < 0 ∨ (ts.length : Int) ≤ x) → mg_G p l e R s m args below meth c Q D nL AC AS a L st M B) : mg_G p l e R s m args below meth c Q D nL AC AS pc L (.inl x :: st) M B := by
  intro H locs cells slots ls hH hS hF hst hc hs
  refine mg_ok2 hst fun hx1 hst1 => ?_
  have hx1 : -2147483648 ≤ x ∧ x < 2147483648 := hx1
  have e9 : (Int32.ofInt x).toInt = x := mg_toI hx1.1 hx1.2
  by_cases hxr : x < 0 ∨ (ts.length : Int) ≤ x
  · exact lv_tableOut (x := Int32.ofInt x) hx hb hd (by rw [e9]; omega) h1 (k2 hxr H locs cells slots ls hH hS hF hst1 hc hs)
  · obtain ⟨n, rfl⟩ : ∃ n : Nat, x = (n : Int) := ⟨x.toNat, by omega⟩
    have hn : n < ts.length := by omega
    have g1 := congrArg (fun l => l[n]?) h4
    simp only [List.getElem?_map, Array.getElem?_toList, List.getElem?_eq_getElem hn, Option.map_some] at g1
    cases ho : offs[n]? with
    | none => rw [ho] at g1; cases g1
    | some off =>
      rw [ho] at g1
      have g2 := Option.some.inj g1
      exact lv_tableIn (x := Int32.ofInt (n : Int)) hx hb hd (by rw [e9]; omega) (by rw [e9]; omega) (off := off) (by rw [e9, h2, Int.sub_zero, Int.toNat_natCast]; exact ho) g2 ((mg_swS k1 n _ (List.getElem?_eq_getElem hn) (by simp)) H locs cells slots ls hH hS hF hst1 hc hs)
theorem mg_putI (hx : p.tables.exec = Jvm.exec) (hb : c.code = cc) (hts : ∀ w ∈ mg_T, w.before args s = true) {own : String} (hown : s.vm.findClass own = some m.cls) (hK : va_K (D.1, D.2.1) mg_cl (mg_tys D) s)
    {i a b r : Nat} (ha : 1 ≤ a) (ha7 : a ≤ 7) (hb2 : b < mg_N a) (hl : Cond.fieldLink own i (mg_F a b).1 (mg_F a b).2.1 (mg_F a b).2.2.1 ∈ mg_T) (hr : kd M r = a) (hdg : decode cc pc = .ok (.putfield i, 3))
    (hfin : (mg_F a b).2.2.2 = false ∨ ((mg_F a b).2.2.2 = true ∧ own = mg_R a ∧ meth.name = "<init>")) (h3 : mg_tc a b ≠ 3) {x : Int}
    (k : (mg_tc a b = 2 → x = 0 ∨ x = 1) ∧ (mg_tc a b = 1 → False) ∧ mg_G p l e R s m args below meth c Q D nL AC AS (pc + 3) L st (si M r b x) B) : mg_G p l e R s m args below meth c Q D nL AC AS pc L (.inl x :: .inr (.inl r) :: st) M B := by
  obtain ⟨q1, q2, k⟩ := k
  have hnf : narrow (mg_ty a b) (mg_tv (.inl x)) = mg_tv (.inl x) ∧ fits (mg_ty a b) (mg_tv (.inl x)) = true := by
    unfold mg_tc at q1 q2 h3
    cases h9 : mg_ty a b with
    | int => exact ⟨rfl, rfl⟩
    | boolean =>
      rw [h9] at q1
      rcases q1 rfl with rfl | rfl <;> exact ⟨rfl, rfl⟩
    | object _ => rw [h9] at q2; exact (q2 rfl).elim
    | array _ => rw [h9] at q2; exact (q2 rfl).elim
    | _ => rw [h9] at h3; exact absurd rfl h3
  refine gs_put0 hx hb hts hown hK ha ha7 hb2 hl hr hdg hfin (v := .inl x) hnf.1 hnf.2 (M' := si M r b x) rfl (fun _ => rfl) (fun _ => rfl) (fun z hz => ⟨fun k => if_neg (fun q => hz q.1), fun _ => rfl, fun _ => rfl, fun _ => rfl⟩) (fun hok hg z k => ?_) (fun _ _ => rfl) (fun j hj => ?_) k
  · show _ ≤ (if z = r ∧ _ then _ else _) ∧ (if z = r ∧ _ then _ else _) < _
    split
    · exact hok
    · exact hg z k
  · by_cases hjb : j = b
    · subst hjb
      rw [if_pos rfl, mg_fv_i q2 h3]
      have : gi (si M r j x) r j = x := if_pos ⟨rfl, rfl⟩
      rw [this]; rfl
    · rw [if_neg hjb]
      have e1 : gi (si M r b x) r j = gi M r j := if_neg (fun q => hjb q.2)
      have e2 : gr (si M r b x) r j = gr M r j := rfl
      unfold mg_fv
      rw [e1, e2]
theorem mg_putR (hx : p.tables.exec = Jvm.exec) (hb : c.code = cc) (hts : ∀ w ∈ mg_T, w.before args s = true) {own : String} (hown : s.vm.findClass own = some m.cls) (hK : va_K (D.1, D.2.1) mg_cl (mg_tys D) s)
    {i a b r : Nat} (ha : 1 ≤ a) (ha7 : a ≤ 7) (hb2 : b < mg_N a) (hl : Cond.fieldLink own i (mg_F a b).1 (mg_F a b).2.1 (mg_F a b).2.2.1 ∈ mg_T) (hr : kd M r = a) (hdg : decode cc pc = .ok (.putfield i, 3))
    (hfin : (mg_F a b).2.2.2 = false ∨ ((mg_F a b).2.2.2 = true ∧ own = mg_R a ∧ meth.name = "<init>")) (h3 : mg_tc a b = 1) {x : Nat} (hx0 : x ≠ 0)
    (k : mg_G p l e R s m args below meth c Q D nL AC AS (pc + 3) L st (sr M r b x) B) : mg_G p l e R s m args below meth c Q D nL AC AS pc L (.inr (.inl x) :: .inr (.inl r) :: st) M B := by
  have hnf : narrow (mg_ty a b) (mg_tv (.inr (.inl x))) = mg_tv (.inr (.inl x)) ∧ fits (mg_ty a b) (mg_tv (.inr (.inl x))) = true := by
    unfold mg_tc at h3
    cases h9 : mg_ty a b with
    | object _ => exact ⟨rfl, rfl⟩
    | array _ => exact ⟨rfl, rfl⟩
    | _ => rw [h9] at h3; exact absurd h3 (by decide)
  refine gs_put0 hx hb hts hown hK ha ha7 hb2 hl hr hdg hfin (v := .inr (.inl x)) hnf.1 hnf.2 (M' := sr M r b x) rfl (fun _ => rfl) (fun _ => rfl) (fun z hz => ⟨fun _ => rfl, fun k => if_neg (fun q => hz q.1), fun _ => rfl, fun _ => rfl⟩) (fun hok hg => hg) (fun _ _ => rfl) (fun j hj => ?_) k
  by_cases hjb : j = b
  · subst hjb
    rw [if_pos rfl, mg_fv_r h3]
    have : gr (sr M r j x) r j = x := if_pos ⟨rfl, rfl⟩
    rw [this, mg_rf hx0]; rfl
  · rw [if_neg hjb]
    have e1 : gi (sr M r b x) r j = gi M r j := rfl
    have e2 : gr (sr M r b x) r j = gr M r j := if_neg (fun q => hjb q.2)
    unfold mg_fv
    rw [e1, e2]
end MGV

section MGW
variable {p : Program} {l : Launch} {e : Env} {R : Room} {s : State} {m : MethodId} {args : Array Value} {below : List Frame} {meth : Method} {c : Code} {Q : State → Prop} {D : mg_D} {nL AC AS : Nat} {cc : ByteArray} {o dp : Nat} {ini nh : Bool} {C : mg_C}
set_option maxHeartbeats 4000000 in
set_option maxRecDepth 100000 in
theorem mg_stepS (Cx : mg_cx p l R s m args meth c D nL AC AS cc (mg_R o) dp) (hini : ini = true → meth.name = "<init>") {Q0 : mg_O} {Xo : mg_X}
    (HR : ∀ {pc : Nat} {i : Instr} {L : mg_L} {st : List mg_V} {M : mg_M} {B : Nat}, decode cc pc = .ok (i, 1) → mg_rt C.2.2.2.1.1 i st (fun v => Q0 v M) → mg_G p l e R s m args below meth c Q D nL AC AS pc L st M B)
    (HX : ∀ {x : Nat} {M' : mg_M} {pc : Nat} {L : mg_L} {st : List mg_V} {B : Nat} {H1 : Heap} {locs1 : List Loc} {cells slots : Nat} {ls : Array Slot} {q0 : Nat} {ce : Cell}, 1 ≤ x → x ≤ 6 → mg_hand C.2.2.1 pc x (fun h => ∀ q : Nat, mg_G p l e R s m args below meth c Q D nL AC AS h L [.inr (.inl q)] M' B) (Xo x M') → mg_H D M' s H1 → va_S (mg_A D) s.heap H1 locs1 → mg_Fr ls nL L → (∀ v ∈ st, mg_ok v) → cells + B ≤ AC → slots + 160 * B ≤ AS → H1[q0]? = some ce → ce.vm = .none → s.vm.findClass (mg_ex x) = some ce.cls → vx_W p l e R s m args below meth c H1 locs1 cells slots Q (F0 m pc ls (st.map mg_tv)) q0)
    (HT : ∀ {pc i b c9 k : Nat} {L : mg_L} {st : List mg_V} {M : mg_M} {B : Nat}, nh = true → o = 6 → 6 ≤ dp → (i, b, c9, k) ∈ mg_tp → decode cc pc = .ok (.new i, 3) → decode cc (pc + 3) = .ok (.dup, 1) → (k ≠ 5 ∧ decode cc (pc + 4) = .ok (.ldc b, 2) ∧ decode cc (pc + 6) = .ok (.invokespecial c9, 3) ∧ decode cc (pc + 9) = .ok (.athrow, 1)) ∨ (decode cc (pc + 4) = .ok (.ldc_w b, 3) ∧ decode cc (pc + 7) = .ok (.invokespecial c9, 3) ∧ decode cc (pc + 10) = .ok (.athrow, 1)) → 1 ≤ B ∧ st.length ≤ 4 → (∀ n, nx M ≤ n → Xo k (nxt M n)) → mg_G p l e R s m args below meth c Q D nL AC AS pc L st M B)
    {K : mg_K} (hK : ∀ pc ls st M B, K pc ls st M B → mg_G p l e R s m args below meth c Q D nL AC AS pc ls st M B) {pc len a b c9 d : Nat} {i : Instr} {ls : mg_L} {st : List mg_V} {M : mg_M} {B : Nat}
    (hd : decode cc pc = .ok (i, len)) (hc : mg_chk1 o ini nL dp nh C cc pc i len a b c9 d = true) (h : mg_step C (mg_Mt D l) Q0 Xo K pc (pc + len) i a b c9 d ls st M B) : mg_G p l e R s m args below meth c Q D nL AC AS pc ls st M B := by
  have Cx2 := Cx
  obtain ⟨hx, hb, hml, hts, hown, hKK, hWw, hZ, hAC, hAS, hlk, hl9, hRf, hRl, hbase⟩ := Cx2
  cases i
  case iconst n =>
    dsimp only [mg_chk1] at hc
    simp only [Bool.and_eq_true, decide_eq_true_eq, Nat.beq_eq] at hc
    dsimp only [mg_step] at h
    obtain rfl := hc.2
    exact gs_iconst hx hb hc.1 hd (hK _ _ _ _ _ h)
  case bipush n =>
    dsimp only [mg_chk1] at hc
    simp only [Bool.and_eq_true, decide_eq_true_eq, Nat.beq_eq] at hc
    dsimp only [mg_step] at h
    obtain rfl := hc.2
    exact gs_bipush hx hb hc.1.1 hc.1.2 hd (hK _ _ _ _ _ h)
  case sipush n =>
    dsimp only [mg_chk1] at hc
    simp only [Bool.and_eq_true, decide_eq_true_eq, Nat.beq_eq] at hc
    dsimp only [mg_step] at h
    obtain rfl := hc.2
    exact gs_sipush hx hb hc.1.1 hc.1.2 hd (hK _ _ _ _ _ h)
  case lconst n =>
    dsimp only [mg_chk1] at hc
    simp only [Bool.and_eq_true, decide_eq_true_eq, Nat.beq_eq] at hc
    dsimp only [mg_step] at h
    obtain rfl := hc.2
    exact gs_lconst hx hb hc.1 hd (hK _ _ _ _ _ h)
  case ldc2_w i =>
    dsimp only [mg_chk1] at hc
    simp only [Bool.and_eq_true, decide_eq_true_eq, Nat.beq_eq] at hc
    dsimp only [mg_step] at h
    obtain rfl := hc.2
    exact gs_ldc2 hx hb hown (hts _ (List.mem_filter.mpr ⟨mg_memf mg_kpk _ hc.1.1, List.all_eq_true.mp mg_kpg _ hc.1.1⟩)) hc.1.2 hd (hK _ _ _ _ _ h)
  case fconst f =>
    dsimp only [mg_chk1] at hc
    simp only [Bool.and_eq_true, decide_eq_true_eq, Nat.beq_eq] at hc
    dsimp only [mg_step] at h
    obtain rfl := hc.2
    obtain ⟨rfl, -⟩ := hc; exact gs_fconst hx hb hd (hK _ _ _ _ _ h)
  case dconst f =>
    dsimp only [mg_chk1] at hc
    simp only [Bool.and_eq_true, decide_eq_true_eq, Nat.beq_eq] at hc
    dsimp only [mg_step] at h
    obtain rfl := hc.2
    obtain ⟨rfl, -⟩ := hc; exact gs_dconst hx hb hd (hK _ _ _ _ _ h)
  case iload_n n =>
    dsimp only [mg_chk1] at hc
    simp only [Bool.and_eq_true, decide_eq_true_eq, Nat.beq_eq] at hc
    dsimp only [mg_step] at h
    obtain rfl := hc.2
    obtain ⟨v, hv, h⟩ := mg_getS h
    rcases v with x | x | x | x | x <;> first | exact h.elim | skip
    exact gs_iload_n hx hb hc.1 hv hd (hK _ _ _ _ _ h)
  case iload i =>
    dsimp only [mg_chk1] at hc
    simp only [Bool.and_eq_true, decide_eq_true_eq, Nat.beq_eq] at hc
    dsimp only [mg_step] at h
    obtain rfl := hc.2
    obtain ⟨v, hv, h2⟩ := mg_getS h
    rcases v with x | x | x | x | x <;> first | exact h2.elim | skip
    obtain ⟨rfl, -⟩ := hc
    exact gs_iload hx hb hv hd (hK _ _ _ _ _ h2)
  case aload_n n =>
    dsimp only [mg_chk1] at hc
    simp only [Bool.and_eq_true, decide_eq_true_eq, Nat.beq_eq] at hc
    dsimp only [mg_step] at h
    obtain rfl := hc.2
    obtain ⟨v, hv, h⟩ := mg_getS h
    rcases v with x | x | x | x | x <;> first | exact h.elim | skip
    exact gs_aload_n hx hb hc.1 hv hd (hK _ _ _ _ _ h)
  case aload i =>
    dsimp only [mg_chk1] at hc
    simp only [Bool.and_eq_true, decide_eq_true_eq, Nat.beq_eq] at hc
    dsimp only [mg_step] at h
    obtain rfl := hc.2
    obtain ⟨v, hv, h2⟩ := mg_getS h
    rcases v with x | x | x | x | x <;> first | exact h2.elim | skip
    obtain ⟨rfl, -⟩ := hc
    exact gs_aload hx hb hv hd (hK _ _ _ _ _ h2)
  case lload_n n =>
    dsimp only [mg_chk1] at hc
    simp only [Bool.and_eq_true, decide_eq_true_eq, Nat.beq_eq] at hc
    dsimp only [mg_step] at h
    obtain rfl := hc.2
    obtain ⟨v, hv, h⟩ := mg_getS h
    rcases v with x | x | x | x | x <;> first | exact h.elim | skip
    exact gs_lload_n hx hb hc.1 hv hd (hK _ _ _ _ _ h)
  case lload i =>
    dsimp only [mg_chk1] at hc
    simp only [Bool.and_eq_true, decide_eq_true_eq, Nat.beq_eq] at hc
    dsimp only [mg_step] at h
    obtain rfl := hc.2
    obtain ⟨v, hv, h2⟩ := mg_getS h
    rcases v with x | x | x | x | x <;> first | exact h2.elim | skip
    obtain ⟨rfl, -⟩ := hc
    exact gs_lload hx hb hv hd (hK _ _ _ _ _ h2)
  case dload_n n =>
    dsimp only [mg_chk1] at hc
    simp only [Bool.and_eq_true, decide_eq_true_eq, Nat.beq_eq] at hc
    dsimp only [mg_step] at h
    obtain rfl := hc.2
    obtain ⟨v, hv, h⟩ := mg_getS h
    rcases v with x | x | x | x | x <;> first | exact h.elim | skip
    exact gs_dload_n hx hb hc.1 hv hd (hK _ _ _ _ _ h)
  case dload i =>
    dsimp only [mg_chk1] at hc
    simp only [Bool.and_eq_true, decide_eq_true_eq, Nat.beq_eq] at hc
    dsimp only [mg_step] at h
    obtain rfl := hc.2
    obtain ⟨v, hv, h2⟩ := mg_getS h
    rcases v with x | x | x | x | x <;> first | exact h2.elim | skip
    obtain ⟨rfl, -⟩ := hc
    exact gs_dload hx hb hv hd (hK _ _ _ _ _ h2)
  case istore_n n =>
    dsimp only [mg_chk1] at hc
    simp only [Bool.and_eq_true, decide_eq_true_eq, Nat.beq_eq] at hc
    dsimp only [mg_step] at h
    obtain rfl := hc.2
    split at h <;> first | exact h.elim | skip
    exact gs_istore_n hx hb hc.1.1 hc.1.2 hd (hK _ _ _ _ _ (mg_remS h))
  case istore i =>
    dsimp only [mg_chk1] at hc
    simp only [Bool.and_eq_true, decide_eq_true_eq, Nat.beq_eq] at hc
    dsimp only [mg_step] at h
    obtain rfl := hc.2
    split at h <;> first | exact h.elim | skip
    obtain ⟨⟨rfl, hn⟩, -⟩ := hc
    exact gs_istore hx hb hn hd (hK _ _ _ _ _ (mg_remS h))
  case astore_n n =>
    dsimp only [mg_chk1] at hc
    simp only [Bool.and_eq_true, decide_eq_true_eq, Nat.beq_eq] at hc
    dsimp only [mg_step] at h
    obtain rfl := hc.2
    split at h <;> first | exact h.elim | skip
    exact gs_astore_n hx hb hc.1.1 hc.1.2 hd (hK _ _ _ _ _ (mg_remS h))
  case astore i =>
    dsimp only [mg_chk1] at hc
    simp only [Bool.and_eq_true, decide_eq_true_eq, Nat.beq_eq] at hc
    dsimp only [mg_step] at h
    obtain rfl := hc.2
    split at h <;> first | exact h.elim | skip
    obtain ⟨⟨rfl, hn⟩, -⟩ := hc
    exact gs_astore hx hb hn hd (hK _ _ _ _ _ (mg_remS h))
  case lstore_n n =>
    dsimp only [mg_chk1] at hc
    simp only [Bool.and_eq_true, decide_eq_true_eq, Nat.beq_eq] at hc
    dsimp only [mg_step] at h
    obtain rfl := hc.2
    split at h <;> first | exact h.elim | skip
    exact gs_lstore_n hx hb hc.1.1 hc.1.2 hd (hK _ _ _ _ _ (mg_remS h))
  case lstore i =>
    dsimp only [mg_chk1] at hc
    simp only [Bool.and_eq_true, decide_eq_true_eq, Nat.beq_eq] at hc
    dsimp only [mg_step] at h
    obtain rfl := hc.2
    split at h <;> first | exact h.elim | skip
    obtain ⟨⟨rfl, hn⟩, -⟩ := hc
    exact gs_lstore hx hb hn hd (hK _ _ _ _ _ (mg_remS h))
  case dstore_n n =>
    dsimp only [mg_chk1] at hc
    simp only [Bool.and_eq_true, decide_eq_true_eq, Nat.beq_eq] at hc
    dsimp only [mg_step] at h
    obtain rfl := hc.2
    split at h <;> first | exact h.elim | skip
    exact gs_dstore_n hx hb hc.1.1 hc.1.2 hd (hK _ _ _ _ _ (mg_remS h))
  case dstore i =>
    dsimp only [mg_chk1] at hc
    simp only [Bool.and_eq_true, decide_eq_true_eq, Nat.beq_eq] at hc
    dsimp only [mg_step] at h
    obtain rfl := hc.2
    split at h <;> first | exact h.elim | skip
    obtain ⟨⟨rfl, hn⟩, -⟩ := hc
    exact gs_dstore hx hb hn hd (hK _ _ _ _ _ (mg_remS h))
  case iinc i n =>
    dsimp only [mg_chk1] at hc
    simp only [Bool.and_eq_true, decide_eq_true_eq, Nat.beq_eq] at hc
    dsimp only [mg_step] at h
    obtain rfl := hc.2
    obtain ⟨⟨rfl, hn⟩, -⟩ := hc
    obtain ⟨v, hv, h⟩ := mg_getS h
    rcases v with x | x | x | x | x <;> first | exact h.elim | skip
    exact gs_iinc hx hb hv h.1 hn hd (hK _ _ _ _ _ (mg_remS h.2))
  case iadd =>
    dsimp only [mg_chk1] at hc
    simp only [Bool.and_eq_true, decide_eq_true_eq, Nat.beq_eq] at hc
    dsimp only [mg_step] at h
    subst hc
    split at h <;> first | exact h.elim | skip
    exact gs_iadd hx hb h.1 hd (hK _ _ _ _ _ h.2)
  case isub =>
    dsimp only [mg_chk1] at hc
    simp only [Bool.and_eq_true, decide_eq_true_eq, Nat.beq_eq] at hc
    dsimp only [mg_step] at h
    subst hc
    split at h <;> first | exact h.elim | skip
    exact gs_isub hx hb h.1 hd (hK _ _ _ _ _ h.2)
  case imul =>
    dsimp only [mg_chk1] at hc
    simp only [Bool.and_eq_true, decide_eq_true_eq, Nat.beq_eq] at hc
    dsimp only [mg_step] at h
    subst hc
    split at h <;> first | exact h.elim | skip
    exact gs_imul hx hb h.1 hd (hK _ _ _ _ _ h.2)
  case idiv =>
    dsimp only [mg_chk1] at hc
    simp only [Bool.and_eq_true, decide_eq_true_eq, Nat.beq_eq] at hc
    dsimp only [mg_step] at h
    subst hc
    split at h <;> first | exact h.elim | skip
    exact gs_idiv hx hb h.1 hd (hK _ _ _ _ _ h.2)
  case irem =>
    dsimp only [mg_chk1] at hc
    simp only [Bool.and_eq_true, decide_eq_true_eq, Nat.beq_eq] at hc
    dsimp only [mg_step] at h
    subst hc
    split at h <;> first | exact h.elim | skip
    exact gs_irem hx hb h.1 hd (hK _ _ _ _ _ h.2)
  case iand =>
    dsimp only [mg_chk1] at hc
    simp only [Bool.and_eq_true, decide_eq_true_eq, Nat.beq_eq] at hc
    dsimp only [mg_step] at h
    subst hc
    split at h <;> first | exact h.elim | skip
    exact gs_iand hx hb h.1 hd (hK _ _ _ _ _ h.2)
  case l2i =>
    dsimp only [mg_chk1] at hc
    simp only [Bool.and_eq_true, decide_eq_true_eq, Nat.beq_eq] at hc
    dsimp only [mg_step] at h
    subst hc
    split at h <;> first | exact h.elim | skip
    exact gs_l2i hx hb h.1 hd (hK _ _ _ _ _ h.2)
  case ladd =>
    dsimp only [mg_chk1] at hc
    simp only [Bool.and_eq_true, decide_eq_true_eq, Nat.beq_eq] at hc
    dsimp only [mg_step] at h
    subst hc
    split at h <;> first | exact h.elim | skip
    exact gs_ladd hx hb h.1 hd (hK _ _ _ _ _ h.2)
  case lsub =>
    dsimp only [mg_chk1] at hc
    simp only [Bool.and_eq_true, decide_eq_true_eq, Nat.beq_eq] at hc
    dsimp only [mg_step] at h
    subst hc
    split at h <;> first | exact h.elim | skip
    exact gs_lsub hx hb h.1 hd (hK _ _ _ _ _ h.2)
  case f2d =>
    dsimp only [mg_chk1] at hc
    simp only [Bool.and_eq_true, decide_eq_true_eq, Nat.beq_eq] at hc
    dsimp only [mg_step] at h
    subst hc
    split at h <;> first | exact h.elim | skip
    exact gs_f2d hx hb h.1 hd (hK _ _ _ _ _ h.2)
  case fdiv =>
    dsimp only [mg_chk1] at hc
    simp only [Bool.and_eq_true, decide_eq_true_eq, Nat.beq_eq] at hc
    dsimp only [mg_step] at h
    subst hc
    split at h <;> first | exact h.elim | skip
    exact gs_fdiv hx hb h.1 hd (hK _ _ _ _ _ h.2)
  case ddiv =>
    dsimp only [mg_chk1] at hc
    simp only [Bool.and_eq_true, decide_eq_true_eq, Nat.beq_eq] at hc
    dsimp only [mg_step] at h
    subst hc
    split at h <;> first | exact h.elim | skip
    exact gs_ddiv hx hb h.1 hd (hK _ _ _ _ _ h.2)
  case i2c =>
    dsimp only [mg_chk1] at hc
    simp only [Bool.and_eq_true, decide_eq_true_eq, Nat.beq_eq] at hc
    dsimp only [mg_step] at h
    subst hc
    split at h <;> first | exact h.elim | skip
    exact gs_i2c hx hb hd (hK _ _ _ _ _ h)
  case i2l =>
    dsimp only [mg_chk1] at hc
    simp only [Bool.and_eq_true, decide_eq_true_eq, Nat.beq_eq] at hc
    dsimp only [mg_step] at h
    subst hc
    split at h <;> first | exact h.elim | skip
    exact gs_i2l hx hb hd (hK _ _ _ _ _ h)
  case lcmp =>
    dsimp only [mg_chk1] at hc
    simp only [Bool.and_eq_true, decide_eq_true_eq, Nat.beq_eq] at hc
    dsimp only [mg_step] at h
    subst hc
    split at h <;> first | exact h.elim | skip
    exact gs_lcmp hx hb hd (hK _ _ _ _ _ h)
  case i2f =>
    dsimp only [mg_chk1] at hc
    simp only [Bool.and_eq_true, decide_eq_true_eq, Nat.beq_eq] at hc
    dsimp only [mg_step] at h
    subst hc
    split at h <;> first | exact h.elim | skip
    exact gs_i2f hx hb hd (hK _ _ _ _ _ h)
  case i2d =>
    dsimp only [mg_chk1] at hc
    simp only [Bool.and_eq_true, decide_eq_true_eq, Nat.beq_eq] at hc
    dsimp only [mg_step] at h
    subst hc
    split at h <;> first | exact h.elim | skip
    exact gs_i2d hx hb hd (hK _ _ _ _ _ h)
  case dcmp op =>
    dsimp only [mg_chk1] at hc
    simp only [Bool.and_eq_true, decide_eq_true_eq, Nat.beq_eq] at hc
    dsimp only [mg_step] at h
    subst hc
    split at h <;> first | exact h.elim | skip
    exact gs_dcmp hx hb hd (hK _ _ _ _ _ h)
  case dup =>
    dsimp only [mg_chk1] at hc
    simp only [Bool.and_eq_true, decide_eq_true_eq, Nat.beq_eq] at hc
    dsimp only [mg_step] at h
    subst hc
    split at h <;> first | exact h.elim | skip
    · exact gs_dupi hx hb hd (hK _ _ _ _ _ h)
    · exact gs_dupa hx hb hd (hK _ _ _ _ _ h)
  case dup2 =>
    dsimp only [mg_chk1] at hc
    simp only [Bool.and_eq_true, decide_eq_true_eq, Nat.beq_eq] at hc
    dsimp only [mg_step] at h
    subst hc
    split at h <;> first | exact h.elim | skip
    exact gs_dup2 hx hb hd (hK _ _ _ _ _ h)
  case pop =>
    dsimp only [mg_chk1] at hc
    simp only [Bool.and_eq_true, decide_eq_true_eq, Nat.beq_eq] at hc
    dsimp only [mg_step] at h
    subst hc
    split at h <;> first | exact h.elim | skip
    · exact gs_popi hx hb hd (hK _ _ _ _ _ h)
    · exact gs_popa hx hb hd (hK _ _ _ _ _ h)
  case ifCond op off =>
    dsimp only [mg_chk1] at hc
    simp only [Bool.and_eq_true, decide_eq_true_eq, Nat.beq_eq] at hc
    dsimp only [mg_step] at h
    obtain rfl := hc.2
    split at h <;> first | exact h.elim | skip
    exact gs_ifc hx hb hc.1 hd (mg_ifM h (fun h => hK _ _ _ _ _ h) (fun h => hK _ _ _ _ _ h))
  case if_icmp op off =>
    dsimp only [mg_chk1] at hc
    simp only [Bool.and_eq_true, decide_eq_true_eq, Nat.beq_eq] at hc
    dsimp only [mg_step] at h
    obtain rfl := hc.2
    split at h <;> first | exact h.elim | skip
    exact gs_icmp hx hb hc.1 hd (mg_ifM h (fun h => hK _ _ _ _ _ h) (fun h => hK _ _ _ _ _ h))
  case goto off =>
    dsimp only [mg_chk1] at hc
    simp only [Bool.and_eq_true, decide_eq_true_eq, Nat.beq_eq] at hc
    dsimp only [mg_step] at h
    obtain rfl := hc.2
    exact gs_goto hx hb hc.1 hd (hK _ _ _ _ _ h)
  case tableswitch df lo hi offs =>
    dsimp only [mg_chk1] at hc
    simp only [Bool.and_eq_true, decide_eq_true_eq, Nat.beq_eq] at hc
    dsimp only [mg_step] at h
    split at h <;> first | exact h.elim | skip
    exact gs_tsw hx hb hc.1 hc.2.1 hc.2.2.1 hc.2.2.2.1 hc.2.2.2.2 hd (mg_swM h.1 (fun t h => hK _ _ _ _ _ h)) (fun q => hK _ _ _ _ _ (h.2 q))
  case getfield i =>
    dsimp only [mg_chk1] at hc
    simp only [Bool.and_eq_true, decide_eq_true_eq, Nat.beq_eq] at hc
    dsimp only [mg_step] at h
    obtain rfl := hc.2
    split at h <;> first | exact h.elim | skip
    obtain ⟨⟨c1, c2, c3, c4, rfl, c6⟩, -⟩ := hc
    obtain ⟨hr, h⟩ := h
    cases hcc : Nat.beq (mg_tc a b) 1 with
    | true =>
      rw [hcc] at h
      exact gs_getf hx hb hts hown hKK c2 c3 c4 (mg_fpT c1) hr hd (v := .inr (.inl (gr M _ b))) (by rw [mg_fv_r (Nat.eq_of_beq_eq_true hcc), mg_rf h.1]; rfl) (fun _ => trivial) (hK _ _ _ _ _ h.2)
    | false =>
      rw [hcc] at h
      exact gs_getf hx hb hts hown hKK c2 c3 c4 (mg_fpT c1) hr hd (v := .inl (gi M _ b)) (mg_fv_i (fun q => by rw [q] at hcc; exact absurd hcc (by decide)) c6) (fun q => q) (hK _ _ _ _ _ h)
  case putfield i =>
    dsimp only [mg_chk1] at hc
    simp only [Bool.and_eq_true, decide_eq_true_eq, Nat.beq_eq] at hc
    dsimp only [mg_step] at h
    obtain rfl := hc.2
    obtain ⟨⟨⟨c1, c2, c3, c4, rfl, c6⟩, c7⟩, -⟩ := hc
    have hfin : (mg_F a b).2.2.2 = false ∨ ((mg_F a b).2.2.2 = true ∧ mg_R o = mg_R a ∧ meth.name = "<init>") := c7.imp id fun q => ⟨q.1, by rw [q.2.2], hini q.2.1⟩
    split at h <;> first | exact h.elim | skip
    · obtain ⟨hr, h⟩ := h
      refine mg_putI hx hb hts hown hKK c2 c3 c4 (mg_fpT c1) hr hd hfin c6 (B := B) ?_
      cases hcc : Nat.beq (mg_tc a b) 2 with
      | true =>
        rw [hcc] at h
        exact ⟨fun _ => h.1, fun q => (by rw [q] at hcc; exact absurd hcc (by decide)), hK _ _ _ _ _ h.2⟩
      | false =>
        rw [hcc] at h
        cases hc0 : Nat.beq (mg_tc a b) 0 with
        | true =>
          rw [hc0] at h
          exact ⟨fun q => (by rw [q] at hcc; exact absurd hcc (by decide)), fun q => (by rw [q] at hc0; exact absurd hc0 (by decide)), hK _ _ _ _ _ h⟩
        | false => rw [hc0] at h; exact h.elim
    · obtain ⟨hr, h⟩ := h
      cases hcc : Nat.beq (mg_tc a b) 1 with
      | true =>
        rw [hcc] at h
        exact mg_putR hx hb hts hown hKK c2 c3 c4 (mg_fpT c1) hr hd hfin (Nat.eq_of_beq_eq_true hcc) h.1 (hK _ _ _ _ _ h.2)
      | false => rw [hcc] at h; exact h.elim
  case iaload =>
    dsimp only [mg_chk1] at hc
    simp only [Bool.and_eq_true, decide_eq_true_eq, Nat.beq_eq] at hc
    dsimp only [mg_step] at h
    obtain rfl := hc.2
    split at h <;> first | exact h.elim | skip
    rcases hc.1 with rfl | rfl
    · exact gs_iald hx hb hKK h.1 hd (hK _ _ _ _ _ h.2)
    · exact gs_ialdS hx hb h.1 hd (hK _ _ _ _ _ h.2)
  case aaload =>
    dsimp only [mg_chk1] at hc
    simp only [Bool.and_eq_true, decide_eq_true_eq, Nat.beq_eq] at hc
    dsimp only [mg_step] at h
    subst hc
    split at h <;> first | exact h.elim | skip
    exact gs_aald hx hb hKK h.1 h.2.1 hd (hK _ _ _ _ _ h.2.2)
  case laload =>
    dsimp only [mg_chk1] at hc
    simp only [Bool.and_eq_true, decide_eq_true_eq, Nat.beq_eq] at hc
    dsimp only [mg_step] at h
    subst hc
    split at h <;> first | exact h.elim | skip
    exact gs_lald hx hb hKK h.1 hd (hK _ _ _ _ _ h.2)
  case daload =>
    dsimp only [mg_chk1] at hc
    simp only [Bool.and_eq_true, decide_eq_true_eq, Nat.beq_eq] at hc
    dsimp only [mg_step] at h
    subst hc
    split at h <;> first | exact h.elim | skip
    exact gs_dald hx hb hKK h.1 hd (hK _ _ _ _ _ h.2)
  case iastore =>
    dsimp only [mg_chk1] at hc
    simp only [Bool.and_eq_true, decide_eq_true_eq, Nat.beq_eq] at hc
    dsimp only [mg_step] at h
    subst hc
    split at h <;> first | exact h.elim | skip
    exact gs_iast hx hb hKK h.1 hd (hK _ _ _ _ _ h.2)
  case aastore =>
    dsimp only [mg_chk1] at hc
    simp only [Bool.and_eq_true, decide_eq_true_eq, Nat.beq_eq] at hc
    dsimp only [mg_step] at h
    subst hc
    split at h <;> first | exact h.elim | skip
    exact gs_aast hx hb hKK h.1 h.2.1 hd (hK _ _ _ _ _ h.2.2)
  case lastore =>
    dsimp only [mg_chk1] at hc
    simp only [Bool.and_eq_true, decide_eq_true_eq, Nat.beq_eq] at hc
    dsimp only [mg_step] at h
    subst hc
    split at h <;> first | exact h.elim | skip
    exact gs_last hx hb hKK h.1 hd (hK _ _ _ _ _ h.2)
  case dastore =>
    dsimp only [mg_chk1] at hc
    simp only [Bool.and_eq_true, decide_eq_true_eq, Nat.beq_eq] at hc
    dsimp only [mg_step] at h
    subst hc
    split at h <;> first | exact h.elim | skip
    exact gs_dast hx hb hKK h.1 hd (hK _ _ _ _ _ h.2)
  case arraylength =>
    dsimp only [mg_chk1] at hc
    simp only [Bool.and_eq_true, decide_eq_true_eq, Nat.beq_eq] at hc
    dsimp only [mg_step] at h
    obtain rfl := hc.2
    split at h <;> first | exact h.elim | skip
    exact gs_alen hx hb hKK (by rw [h.1]; exact hc.1) h.2.1 hd (hK _ _ _ _ _ h.2.2)
  case newarray t =>
    dsimp only [mg_chk1] at hc
    simp only [Bool.and_eq_true, decide_eq_true_eq, Nat.beq_eq] at hc
    dsimp only [mg_step] at h
    obtain rfl := hc.2
    split at h <;> first | exact h.elim | skip
    exact gs_newa hx hb hts hKK hAC hAS hc.1 (mg_arrT hc.1) h.1 hd (hK _ _ _ _ _ h.2)
  case anewarray i =>
    dsimp only [mg_chk1] at hc
    simp only [Bool.and_eq_true, decide_eq_true_eq, Nat.beq_eq] at hc
    dsimp only [mg_step] at h
    obtain rfl := hc.2
    split at h <;> first | exact h.elim | skip
    exact gs_anew hx hb hts hown hKK hAC hAS (mg_cpT hc.1) hWw.2.2.2.2.2 h.1 hd (hK _ _ _ _ _ h.2)
  case new i =>
    dsimp only [mg_chk1] at hc
    rw [Bool.and_eq_true, Nat.beq_eq] at hc
    dsimp only [mg_step] at h
    obtain rfl : len = 3 := hc.2
    cases ha : Nat.blt a 100 with
    | true =>
      rw [ha] at h hc
      simp only [cond_true, decide_eq_true_eq] at hc
      exact gs_new hx hb hts hown hKK hAC hAS hc.1.2.1 hc.1.2.2 (mg_cpT hc.1.1) (mg_insT hc.1.2.1 hc.1.2.2) (mg_iniT hc.1.2.1 hc.1.2.2) h.1 hd (hK _ _ _ _ _ h.2)
    | false =>
      rw [ha] at h hc
      simp only [cond_false, Bool.and_eq_true, decide_eq_true_eq] at hc
      obtain ⟨⟨⟨⟨c1, c2, c3, c4⟩, c5⟩, c6⟩, -⟩ := hc
      cases hst4 : Nat.ble st.length 4 with
      | false => rw [hst4] at h; exact h.elim
      | true =>
      rw [hst4] at h
      refine HT c1 c2 c3 c4 hd c5 ?_ ⟨h.1, Nat.le_of_ble_eq_true hst4⟩ h.2
      cases hd0 : Nat.beq d 0 with
      | true =>
        rw [hd0] at c6
        simp only [cond_true, decide_eq_true_eq] at c6
        exact Or.inl c6
      | false =>
        rw [hd0] at c6
        simp only [cond_false, decide_eq_true_eq] at c6
        exact Or.inr c6
  case invokevirtual i =>
    dsimp only [mg_chk1] at hc
    simp only [Bool.and_eq_true, decide_eq_true_eq, Nat.beq_eq] at hc
    dsimp only [mg_step] at h
    obtain rfl := hc.2
    obtain ⟨⟨c1, c2⟩, -⟩ := hc
    cases hq : mg_mt[a - 1]? with
    | none => rw [hq] at c2; cases c2
    | some q =>
      rw [hq] at c2
      simp only [decide_eq_true_eq] at c2
      obtain ⟨d1, d2, d3, d4, d5, d6, d7⟩ := c2
      obtain ⟨xs, rest, e1, rfl, h9⟩ := mg_popS h; replace h := h9; clear h9
      rw [List.append_nil] at h
      split at h <;> first | exact h.elim | skip
      next r As hxs =>
      obtain ⟨hr, h⟩ := h
      have hxs2 : xs = As.reverse ++ [.inr (.inl r)] := by rw [← List.reverse_reverse xs, hxs, List.reverse_cons]
      have hAs : As.length = b := by rw [hxs2] at e1; simp at e1; exact e1
      obtain ⟨hB, N, X, hlen, hM, hN, hX⟩ := mg_buyS h
      rw [hxs2, List.append_assoc]
      rw [hxs] at hM
      exact gs_callV Cx hq (mg_mpT c1 hq) d1 (by omega) (by omega) d5 (by omega) (by rw [hr]; exact d2.symm) (by omega) hlen hM hd (fun v M' hv => hK _ _ _ _ _ (by rw [d7]; exact hN v M' hv)) (fun x M' x1 x6 hx9 H1 locs1 cells slots ls9 q0 ce g1 g2 g3 g4 g5 g6 g7 g8 g9 => HX (B := B - c9) x1 x6 (mg_handM (hX x M' hx9) (fun h => fun h9 q => hK _ _ _ _ _ (h9 q))) g1 g2 g3 g4 (by rw [d7] at g5; exact g5) (by rw [d7] at g6; exact g6) g7 g8 g9)
  case invokespecial i =>
    dsimp only [mg_chk1] at hc
    rw [Bool.and_eq_true, Nat.beq_eq] at hc
    dsimp only [mg_step] at h
    obtain rfl : len = 3 := hc.2
    cases ha : Nat.beq a 0 with
    | true =>
      rw [ha] at h hc
      simp only [cond_true, decide_eq_true_eq] at hc h
      cases hlen : Nat.blt 7 st.length with
      | true => rw [hlen] at h; exact h.elim
      | false =>
        rw [hlen] at h
        have hlen : st.length ≤ 7 := by
          rcases Nat.lt_or_ge 7 st.length with z | z
          · rw [show Nat.blt 7 st.length = true from Nat.ble_eq_true_of_le z] at hlen; cases hlen
          · exact z
        simp only [cond_false] at h
        split at h <;> first | exact h.elim | skip
        simp only [List.length_cons] at hlen
        exact gs_oinit Cx hc.1.2 (mg_lpT hc.1.1) mg_oi1 mg_oi2 (by omega) hd (hK _ _ _ _ _ h)
    | false =>
      rw [ha] at h hc
      simp only [cond_false] at hc h
      obtain ⟨c2, -⟩ := hc
      cases hq : mg_mt[a - 1]? with
      | none => rw [hq] at c2; cases c2
      | some q =>
        rw [hq] at c2
        simp only [decide_eq_true_eq] at c2
        obtain ⟨d1, d2, d5, d6, d7, d8⟩ := c2
        obtain ⟨xs, rest, e1, rfl, h9⟩ := mg_popS h; replace h := h9; clear h9
        rw [List.append_nil] at h
        split at h <;> first | exact h.elim | skip
        next r As hxs =>
          obtain ⟨hB, N, X, hlen, hM, hN, hX⟩ := mg_buyS h
          have hxs2 : xs = As.reverse ++ [.inr (.inl r)] := by rw [← List.reverse_reverse xs, hxs, List.reverse_cons]
          have hAs : As.length = b := by rw [hxs2] at e1; simp at e1; exact e1
          rw [hxs2, List.append_assoc]
          rw [hxs] at hM
          exact gs_callI Cx hq (d8.imp (fun z => mg_mpT z hq) id) d1 d2 d5 (by omega) (by omega) hlen hM hd (fun v M' hv => hK _ _ _ _ _ (by rw [d7]; exact hN v M' hv)) (fun x M' x1 x6 hx9 H1 locs1 cells slots ls9 q0 ce g1 g2 g3 g4 g5 g6 g7 g8 g9 => HX (B := B - c9) x1 x6 (mg_handM (hX x M' hx9) (fun h => fun h9 q => hK _ _ _ _ _ (h9 q))) g1 g2 g3 g4 (by rw [d7] at g5; exact g5) (by rw [d7] at g6; exact g6) g7 g8 g9)
  case invokestatic i =>
    dsimp only [mg_chk1] at hc
    rw [Bool.and_eq_true, Nat.beq_eq] at hc
    dsimp only [mg_step] at h
    obtain rfl : len = 3 := hc.2
    cases ha : Nat.blt a 1000 with
    | true =>
      rw [ha] at h hc
      simp only [cond_true] at hc h
      obtain ⟨c2, -⟩ := hc
      cases hq : mg_mt[a - 1]? with
      | none => rw [hq] at c2; cases c2
      | some q =>
        rw [hq] at c2
        simp only [decide_eq_true_eq] at c2
        obtain ⟨d2, d5, d6, d7, d8⟩ := c2
        obtain ⟨xs, rest, e1, rfl, h9⟩ := mg_popS h; replace h := h9; clear h9
        rw [List.append_nil] at h
        obtain ⟨hB, N, X, hlen, hM, hN, hX⟩ := mg_buyS h
        rw [← List.reverse_reverse xs]
        exact gs_callS Cx hq (mg_mpT d8 hq) d2 d5 (by rw [List.length_reverse]; omega) (by omega) hlen hM hd (fun v M' hv => hK _ _ _ _ _ (by rw [d7]; exact hN v M' hv)) (fun x M' x1 x6 hx9 H1 locs1 cells slots ls9 q0 ce g1 g2 g3 g4 g5 g6 g7 g8 g9 => HX (B := B - c9) x1 x6 (mg_handM (hX x M' hx9) (fun h => fun h9 q => hK _ _ _ _ _ (h9 q))) g1 g2 g3 g4 (by rw [d7] at g5; exact g5) (by rw [d7] at g6; exact g6) g7 g8 g9)
    | false =>
      rw [ha] at h hc
      simp only [cond_false, decide_eq_true_eq] at hc h
      obtain ⟨⟨c1, c2, c3⟩, -⟩ := hc
      cases hlen : Nat.blt 9 st.length with
      | true => rw [hlen] at h; exact h.elim
      | false =>
        rw [hlen] at h
        have hlen : st.length ≤ 9 := by
          rcases Nat.lt_or_ge 9 st.length with z | z
          · rw [show Nat.blt 9 st.length = true from Nat.ble_eq_true_of_le z] at hlen; cases hlen
          · exact z
        rcases c3 with rfl | rfl | rfl
        · rw [show Nat.beq 1000 1002 = false from rfl] at h
          simp only [cond_false] at h
          split at h <;> first | exact h.elim | skip
          simp only [List.length_cons] at hlen
          exact gs_max Cx c2 (mg_lpT c1) mg_mx1 mg_mx2 mg_mx3 (by omega) hd (hK _ _ _ _ _ h)
        · rw [show Nat.beq 1001 1002 = false from rfl] at h
          simp only [cond_false] at h
          split at h <;> first | exact h.elim | skip
          simp only [List.length_cons] at hlen
          exact gs_min Cx c2 (mg_lpT c1) mg_mi1 mg_mx2 mg_mi3 (by omega) hd (hK _ _ _ _ _ h)
        · rw [show Nat.beq 1002 1002 = true from rfl] at h
          simp only [cond_true] at h
          split at h <;> first | exact h.elim | skip
          obtain ⟨⟨rfl, rfl, h1, h2, h3, h4, h5⟩, h⟩ := h
          simp only [List.length_cons] at hlen
          exact gs_copy hx hb hml hts hown hKK (by omega) (by omega) (mg_lpT c1) mg_ac1 mg_ac2 mg_ac3 ⟨h1, h2, h3, h4, h5⟩ (by omega) hd (hK _ _ _ _ _ h)
  case ireturn =>
    dsimp only [mg_chk1] at hc
    simp only [Bool.and_eq_true, decide_eq_true_eq, Nat.beq_eq] at hc
    dsimp only [mg_step] at h
    obtain rfl := hc.2
    split at h <;> first | exact h.elim | skip
    refine HR hd ?_
    cases hrk : Nat.beq C.2.2.2.1.1 2 with
    | true =>
      rw [hrk] at h
      exact ⟨Or.inr ⟨Nat.eq_of_beq_eq_true hrk, h.1⟩, h.2⟩
    | false =>
      rw [hrk] at h
      refine ⟨Or.inl ?_, h⟩
      rcases hc.1 with z | z
      · exact z
      · rw [z] at hrk; cases hrk
  case areturn =>
    dsimp only [mg_chk1] at hc
    simp only [Bool.and_eq_true, decide_eq_true_eq, Nat.beq_eq] at hc
    dsimp only [mg_step] at h
    obtain rfl := hc.2
    split at h <;> first | exact h.elim | skip
    exact HR hd ⟨hc.1, h⟩
  case lreturn =>
    dsimp only [mg_chk1] at hc
    simp only [Bool.and_eq_true, decide_eq_true_eq, Nat.beq_eq] at hc
    dsimp only [mg_step] at h
    obtain rfl := hc.2
    split at h <;> first | exact h.elim | skip
    exact HR hd ⟨hc.1, h⟩
  case freturn =>
    dsimp only [mg_chk1] at hc
    simp only [Bool.and_eq_true, decide_eq_true_eq, Nat.beq_eq] at hc
    dsimp only [mg_step] at h
    obtain rfl := hc.2
    split at h <;> first | exact h.elim | skip
    exact HR hd ⟨hc.1, h⟩
  case dreturn =>
    dsimp only [mg_chk1] at hc
    simp only [Bool.and_eq_true, decide_eq_true_eq, Nat.beq_eq] at hc
    dsimp only [mg_step] at h
    obtain rfl := hc.2
    split at h <;> first | exact h.elim | skip
    exact HR hd ⟨hc.1, h⟩
  case return_ =>
    dsimp only [mg_chk1] at hc
    simp only [Bool.and_eq_true, decide_eq_true_eq, Nat.beq_eq] at hc
    dsimp only [mg_step] at h
    obtain rfl := hc.2
    split at h <;> first | exact h.elim | skip
    exact HR hd ⟨hc.1, h⟩
  all_goals exact h.elim
end MGW

