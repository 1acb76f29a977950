theorem mg_ne0 {y : Int} (hy : mg_ok (.inl y)) (h : 0 < y) : ¬ Int32.ofInt y = 0 := by
  have hy1 : -2147483648 ≤ y ∧ y < 2147483648 := hy
  rw [show (0 : Int32) = Int32.ofInt 0 from rfl, mg_eq hy1 (by omega)]
  omega
theorem mg_divr {x y : Int} (hx : mg_ok (.inl x)) (h : 0 ≤ x ∧ 0 < y) : mg_ok (.inl (x / y)) := by
  have hx1 : -2147483648 ≤ x ∧ x < 2147483648 := hx
  have h1 := Int.ediv_nonneg h.1 (Int.le_of_lt h.2)
  have h2 := Int.ediv_le_self y h.1
  show _ ∧ _
  omega
theorem mg_modr {x y : Int} (hy : mg_ok (.inl y)) (h : 0 ≤ x ∧ 0 < y) : mg_ok (.inl (x % y)) := by
  have hy1 : -2147483648 ≤ y ∧ y < 2147483648 := hy
  have h1 := Int.emod_nonneg x (Int.ne_of_gt h.2)
  have h2 := Int.emod_lt_of_pos x h.2
  show _ ∧ _
  omega
theorem mg_i32 (x : Int32) : mg_ok (.inl x.toInt) := ⟨x.le_toInt, x.toInt_lt⟩
section MGI
variable {p : Program} {l : Launch} {e : Env} {R : Room} {s : State} {m : MethodId} {args : Array Value} {below : List Frame} {meth : Method} {c : Code} {Q : State → Prop} {D : mg_D} {nL AC AS : Nat} {cc : ByteArray} {pc : Nat} {L : mg_L} {st : List mg_V} {M : mg_M} {B : Nat}
theorem gs_iadd (hx : p.tables.exec = Jvm.exec) (hb : c.code = cc) {x y : Int} (hr : -2147483648 ≤ x + y ∧ x + y < 2147483648) (hdg : decode cc pc = .ok (.iadd, 1)) (k : mg_G p l e R s m args below meth c Q D nL AC AS (pc + 1) L (.inl (x + y) :: st) M B) : mg_G p l e R s m args below meth c Q D nL AC AS pc L (.inl y :: .inl x :: st) M B :=
  gs_pure k fun H locs cells slots ls hF hst => by
    refine mg_ok2 hst fun hy hst => mg_ok2 hst fun hx1 hst => ⟨mg_okc hr hst, fun k => ?_⟩
    refine lv_iadd hx hb hdg ?_
    have k2 := k
    simp only [List.map_cons, mg_tv] at k2 ⊢
    rw [Int32.ofInt_add] at k2
    exact k2
theorem gs_isub (hx : p.tables.exec = Jvm.exec) (hb : c.code = cc) {x y : Int} (hr : -2147483648 ≤ x - y ∧ x - y < 2147483648) (hdg : decode cc pc = .ok (.isub, 1)) (k : mg_G p l e R s m args below meth c Q D nL AC AS (pc + 1) L (.inl (x - y) :: st) M B) : mg_G p l e R s m args below meth c Q D nL AC AS pc L (.inl y :: .inl x :: st) M B :=
  gs_pure k fun H locs cells slots ls hF hst => by
    refine mg_ok2 hst fun hy hst => mg_ok2 hst fun hx1 hst => ⟨mg_okc hr hst, fun k => ?_⟩
    refine lv_isub hx hb hdg ?_
    have k2 := k
    simp only [List.map_cons, mg_tv] at k2 ⊢
    rw [Int32.ofInt_sub] at k2
    exact k2
theorem gs_imul (hx : p.tables.exec = Jvm.exec) (hb : c.code = cc) {x y : Int} (hr : -2147483648 ≤ x * y ∧ x * y < 2147483648) (hdg : decode cc pc = .ok (.imul, 1)) (k : mg_G p l e R s m args below meth c Q D nL AC AS (pc + 1) L (.inl (x * y) :: st) M B) : mg_G p l e R s m args below meth c Q D nL AC AS pc L (.inl y :: .inl x :: st) M B :=
  gs_pure k fun H locs cells slots ls hF hst => by
    refine mg_ok2 hst fun hy hst => mg_ok2 hst fun hx1 hst => ⟨mg_okc hr hst, fun k => ?_⟩
    refine lv_imul hx hb hdg ?_
    have k2 := k
    simp only [List.map_cons, mg_tv] at k2 ⊢
    rw [Int32.ofInt_mul] at k2
    exact k2
theorem gs_idiv (hx : p.tables.exec = Jvm.exec) (hb : c.code = cc) {x y : Int} (hr : 0 ≤ x ∧ 0 < y) (hdg : decode cc pc = .ok (.idiv, 1)) (k : mg_G p l e R s m args below meth c Q D nL AC AS (pc + 1) L (.inl (x / y) :: st) M B) : mg_G p l e R s m args below meth c Q D nL AC AS pc L (.inl y :: .inl x :: st) M B :=
  gs_pure k fun H locs cells slots ls hF hst => by
    refine mg_ok2 hst fun hy hst => mg_ok2 hst fun hx1 hst => ⟨mg_okc (mg_divr hx1 hr) hst, fun k => ?_⟩
    refine lv_idiv hx hb hdg (mg_ne0 hy hr.2) ?_
    have k2 := k
    simp only [List.map_cons, mg_tv] at k2 ⊢
    rw [← mg_div ⟨hr.1, hx1.2⟩ ⟨hr.2, hy.2⟩] at k2
    exact k2
theorem gs_irem (hx : p.tables.exec = Jvm.exec) (hb : c.code = cc) {x y : Int} (hr : 0 ≤ x ∧ 0 < y) (hdg : decode cc pc = .ok (.irem, 1)) (k : mg_G p l e R s m args below meth c Q D nL AC AS (pc + 1) L (.inl (x % y) :: st) M B) : mg_G p l e R s m args below meth c Q D nL AC AS pc L (.inl y :: .inl x :: st) M B :=
  gs_pure k fun H locs cells slots ls hF hst => by
    refine mg_ok2 hst fun hy hst => mg_ok2 hst fun hx1 hst => ⟨mg_okc (mg_modr hy hr) hst, fun k => ?_⟩
    refine lv_irem hx hb hdg (mg_ne0 hy hr.2) ?_
    have k2 := k
    simp only [List.map_cons, mg_tv] at k2 ⊢
    rw [← mg_mod ⟨hr.1, hx1.2⟩ ⟨hr.2, hy.2⟩] at k2
    exact k2
theorem gs_iand (hx : p.tables.exec = Jvm.exec) (hb : c.code = cc) {x y : Int} (hr : y = 63) (hdg : decode cc pc = .ok (.iand, 1)) (k : mg_G p l e R s m args below meth c Q D nL AC AS (pc + 1) L (.inl (x % 64) :: st) M B) : mg_G p l e R s m args below meth c Q D nL AC AS pc L (.inl y :: .inl x :: st) M B :=
  gs_pure k fun H locs cells slots ls hF hst => by
    refine mg_ok2 hst fun hy hst => mg_ok2 hst fun hx1 hst => ⟨mg_okc (by show _ ∧ _; omega) hst, fun k => ?_⟩
    refine lv_iand hx hb hdg ?_
    have k2 := k
    simp only [List.map_cons, mg_tv] at k2 ⊢
    subst hr; rw [← mg_and] at k2
    exact k2
theorem gs_i2c (hx : p.tables.exec = Jvm.exec) (hb : c.code = cc) {x : Int} (hdg : decode cc pc = .ok (.i2c, 1)) (k : mg_G p l e R s m args below meth c Q D nL AC AS (pc + 1) L (.inl (x % 65536) :: st) M B) : mg_G p l e R s m args below meth c Q D nL AC AS pc L (.inl x :: st) M B :=
  gs_pure k fun H locs cells slots ls hF hst => by
    refine mg_ok2 hst fun hx1 hst => ⟨mg_okc (by show _ ∧ _; omega) hst, fun k => ?_⟩
    refine lv_i2c hx hb hdg (mg_chr x) ?_
    have k2 := k
    simp only [List.map_cons, mg_tv] at k2 ⊢
    skip
    exact k2
theorem gs_i2l (hx : p.tables.exec = Jvm.exec) (hb : c.code = cc) {x : Int} (hdg : decode cc pc = .ok (.i2l, 1)) (k : mg_G p l e R s m args below meth c Q D nL AC AS (pc + 1) L (.inr (.inr (.inl x)) :: st) M B) : mg_G p l e R s m args below meth c Q D nL AC AS pc L (.inl x :: st) M B :=
  gs_pure k fun H locs cells slots ls hF hst => by
    refine mg_ok2 hst fun hx1 hst => ⟨mg_okc (by have h1 : _ ∧ _ := hx1; show _ ∧ _; omega) hst, fun k => ?_⟩
    refine lv_i2l hx hb hdg (mg_i2l hx1) ?_
    have k2 := k
    simp only [List.map_cons, mg_tv] at k2 ⊢
    skip
    exact k2
theorem gs_l2i (hx : p.tables.exec = Jvm.exec) (hb : c.code = cc) {x : Int} (hr : -2147483648 ≤ x ∧ x < 2147483648) (hdg : decode cc pc = .ok (.l2i, 1)) (k : mg_G p l e R s m args below meth c Q D nL AC AS (pc + 1) L (.inl x :: st) M B) : mg_G p l e R s m args below meth c Q D nL AC AS pc L (.inr (.inr (.inl x)) :: st) M B :=
  gs_pure k fun H locs cells slots ls hF hst => by
    refine mg_ok2 hst fun hx1 hst => ⟨mg_okc hr hst, fun k => ?_⟩
    refine lv_l2i hx hb hdg (mg_l2i hr) ?_
    have k2 := k
    simp only [List.map_cons, mg_tv] at k2 ⊢
    skip
    exact k2
theorem gs_ladd (hx : p.tables.exec = Jvm.exec) (hb : c.code = cc) {x y : Int} (hr : -9223372036854775808 ≤ x + y ∧ x + y < 9223372036854775808) (hdg : decode cc pc = .ok (.ladd, 1)) (k : mg_G p l e R s m args below meth c Q D nL AC AS (pc + 1) L (.inr (.inr (.inl (x + y))) :: st) M B) : mg_G p l e R s m args below meth c Q D nL AC AS pc L (.inr (.inr (.inl y)) :: .inr (.inr (.inl x)) :: st) M B :=
  gs_pure k fun H locs cells slots ls hF hst => by
    refine mg_ok2 hst fun hy hst => mg_ok2 hst fun hx1 hst => ⟨mg_okc hr hst, fun k => ?_⟩
    refine lv_ladd hx hb hdg ?_
    have k2 := k
    simp only [List.map_cons, mg_tv] at k2 ⊢
    rw [Int64.ofInt_add] at k2
    exact k2
theorem gs_lsub (hx : p.tables.exec = Jvm.exec) (hb : c.code = cc) {x y : Int} (hr : -9223372036854775808 ≤ x - y ∧ x - y < 9223372036854775808) (hdg : decode cc pc = .ok (.lsub, 1)) (k : mg_G p l e R s m args below meth c Q D nL AC AS (pc + 1) L (.inr (.inr (.inl (x - y))) :: st) M B) : mg_G p l e R s m args below meth c Q D nL AC AS pc L (.inr (.inr (.inl y)) :: .inr (.inr (.inl x)) :: st) M B :=
  gs_pure k fun H locs cells slots ls hF hst => by
    refine mg_ok2 hst fun hy hst => mg_ok2 hst fun hx1 hst => ⟨mg_okc hr hst, fun k => ?_⟩
    refine lv_lsub hx hb hdg ?_
    have k2 := k
    simp only [List.map_cons, mg_tv] at k2 ⊢
    rw [Int64.ofInt_sub] at k2
    exact k2
theorem gs_lcmp (hx : p.tables.exec = Jvm.exec) (hb : c.code = cc) {x y : Int} (hdg : decode cc pc = .ok (.lcmp, 1)) (k : mg_G p l e R s m args below meth c Q D nL AC AS (pc + 1) L (.inl (if x < y then -1 else if x = y then 0 else 1) :: st) M B) : mg_G p l e R s m args below meth c Q D nL AC AS pc L (.inr (.inr (.inl y)) :: .inr (.inr (.inl x)) :: st) M B :=
  gs_pure k fun H locs cells slots ls hF hst => by
    refine mg_ok2 hst fun hy hst => mg_ok2 hst fun hx1 hst => ⟨mg_okc (by show _ ∧ _; split <;> (try split) <;> omega) hst, fun k => ?_⟩
    refine W.lcmp hx hb hdg ?_
    have k2 := k
    simp only [List.map_cons, mg_tv] at k2 ⊢
    rw [← mg_lcmp hx1 hy] at k2
    exact k2
theorem gs_i2f (hx : p.tables.exec = Jvm.exec) (hb : c.code = cc) {x : Int} (hdg : decode cc pc = .ok (.i2f, 1)) (k : mg_G p l e R s m args below meth c Q D nL AC AS (pc + 1) L (.inr (.inr (.inr (.inr (FP.i2f (Int32.ofInt x))))) :: st) M B) : mg_G p l e R s m args below meth c Q D nL AC AS pc L (.inl x :: st) M B :=
  gs_pure k fun H locs cells slots ls hF hst => by
    refine mg_ok2 hst fun hx1 hst => ⟨mg_okc trivial hst, fun k => ?_⟩
    refine lv_i2f hx hb hdg ?_
    have k2 := k
    simp only [List.map_cons, mg_tv] at k2 ⊢
    skip
    exact k2
theorem gs_i2d (hx : p.tables.exec = Jvm.exec) (hb : c.code = cc) {x : Int} (hdg : decode cc pc = .ok (.i2d, 1)) (k : mg_G p l e R s m args below meth c Q D nL AC AS (pc + 1) L (.inr (.inr (.inr (.inl (FP.i2d (Int32.ofInt x))))) :: st) M B) : mg_G p l e R s m args below meth c Q D nL AC AS pc L (.inl x :: st) M B :=
  gs_pure k fun H locs cells slots ls hF hst => by
    refine mg_ok2 hst fun hx1 hst => ⟨mg_okc trivial hst, fun k => ?_⟩
    refine lv_i2d hx hb hdg ?_
    have k2 := k
    simp only [List.map_cons, mg_tv] at k2 ⊢
    skip
    exact k2
theorem gs_f2d (hx : p.tables.exec = Jvm.exec) (hb : c.code = cc) {x : UInt32} (hr : vf_n64 (FP.f2d x)) (hdg : decode cc pc = .ok (.f2d, 1)) (k : mg_G p l e R s m args below meth c Q D nL AC AS (pc + 1) L (.inr (.inr (.inr (.inl (FP.f2d x)))) :: st) M B) : mg_G p l e R s m args below meth c Q D nL AC AS pc L (.inr (.inr (.inr (.inr x))) :: st) M B :=
  gs_pure k fun H locs cells slots ls hF hst => by
    refine mg_ok2 hst fun hx1 hst => ⟨mg_okc trivial hst, fun k => ?_⟩
    refine lv_f2d hx hb hdg hr ?_
    have k2 := k
    simp only [List.map_cons, mg_tv] at k2 ⊢
    skip
    exact k2
theorem gs_fdiv (hx : p.tables.exec = Jvm.exec) (hb : c.code = cc) {x y : UInt32} (hr : vf_n32 (FP.fdiv x y)) (hdg : decode cc pc = .ok (.fdiv, 1)) (k : mg_G p l e R s m args below meth c Q D nL AC AS (pc + 1) L (.inr (.inr (.inr (.inr (FP.fdiv x y)))) :: st) M B) : mg_G p l e R s m args below meth c Q D nL AC AS pc L (.inr (.inr (.inr (.inr y))) :: .inr (.inr (.inr (.inr x))) :: st) M B :=
  gs_pure k fun H locs cells slots ls hF hst => by
    refine mg_ok2 hst fun hy hst => mg_ok2 hst fun hx1 hst => ⟨mg_okc trivial hst, fun k => ?_⟩
    refine lv_fdiv hx hb hdg hr ?_
    have k2 := k
    simp only [List.map_cons, mg_tv] at k2 ⊢
    skip
    exact k2
theorem gs_ddiv (hx : p.tables.exec = Jvm.exec) (hb : c.code = cc) {x y : UInt64} (hr : vf_n64 (FP.ddiv x y)) (hdg : decode cc pc = .ok (.ddiv, 1)) (k : mg_G p l e R s m args below meth c Q D nL AC AS (pc + 1) L (.inr (.inr (.inr (.inl (FP.ddiv x y)))) :: st) M B) : mg_G p l e R s m args below meth c Q D nL AC AS pc L (.inr (.inr (.inr (.inl y))) :: .inr (.inr (.inr (.inl x))) :: st) M B :=
  gs_pure k fun H locs cells slots ls hF hst => by
    refine mg_ok2 hst fun hy hst => mg_ok2 hst fun hx1 hst => ⟨mg_okc trivial hst, fun k => ?_⟩
    refine lv_ddiv hx hb hdg hr ?_
    have k2 := k
    simp only [List.map_cons, mg_tv] at k2 ⊢
    skip
    exact k2
theorem gs_dcmp (hx : p.tables.exec = Jvm.exec) (hb : c.code = cc) {x y : UInt64} {op : CmpOp} (hdg : decode cc pc = .ok (.dcmp op, 1)) (k : mg_G p l e R s m args below meth c Q D nL AC AS (pc + 1) L (.inl (Op.cmpValue (FP.dcmp x y) op).toInt :: st) M B) : mg_G p l e R s m args below meth c Q D nL AC AS pc L (.inr (.inr (.inr (.inl y))) :: .inr (.inr (.inr (.inl x))) :: st) M B :=
  gs_pure k fun H locs cells slots ls hF hst => by
    refine mg_ok2 hst fun hy hst => mg_ok2 hst fun hx1 hst => ⟨mg_okc (mg_i32 _) hst, fun k => ?_⟩
    refine lv_dcmp hx hb hdg ?_
    have k2 := k
    simp only [List.map_cons, mg_tv] at k2 ⊢
    rw [Int32.ofInt_toInt] at k2
    exact k2
theorem gs_iconst (hx : p.tables.exec = Jvm.exec) (hb : c.code = cc) {n : Int} (hr : -2147483648 ≤ n ∧ n < 2147483648) (hdg : decode cc pc = .ok (.iconst n, 1)) (k : mg_G p l e R s m args below meth c Q D nL AC AS (pc + 1) L (.inl n :: st) M B) : mg_G p l e R s m args below meth c Q D nL AC AS pc L st M B :=
  gs_pure k fun H locs cells slots ls hF hst => ⟨mg_okc hr hst, fun k => lv_iconst hx hb hdg rfl k⟩
theorem gs_bipush (hx : p.tables.exec = Jvm.exec) (hb : c.code = cc) {n : Int} (hr : -2147483648 ≤ n ∧ n < 2147483648) (hn : (Int8.ofInt n).toInt32 = Int32.ofInt n) (hdg : decode cc pc = .ok (.bipush n, 2)) (k : mg_G p l e R s m args below meth c Q D nL AC AS (pc + 2) L (.inl n :: st) M B) : mg_G p l e R s m args below meth c Q D nL AC AS pc L st M B :=
  gs_pure k fun H locs cells slots ls hF hst => ⟨mg_okc hr hst, fun k => lv_bipush hx hb hdg hn k⟩
theorem gs_sipush (hx : p.tables.exec = Jvm.exec) (hb : c.code = cc) {n : Int} (hr : -2147483648 ≤ n ∧ n < 2147483648) (hn : (Int16.ofInt n).toInt32 = Int32.ofInt n) (hdg : decode cc pc = .ok (.sipush n, 3)) (k : mg_G p l e R s m args below meth c Q D nL AC AS (pc + 3) L (.inl n :: st) M B) : mg_G p l e R s m args below meth c Q D nL AC AS pc L st M B :=
  gs_pure k fun H locs cells slots ls hF hst => ⟨mg_okc hr hst, fun k => lv_sipush hx hb hdg hn k⟩
theorem gs_lconst (hx : p.tables.exec = Jvm.exec) (hb : c.code = cc) {n : Fin 2} {a : Nat} (ha : (n : Nat) = a) (hdg : decode cc pc = .ok (.lconst n, 1)) (k : mg_G p l e R s m args below meth c Q D nL AC AS (pc + 1) L (.inr (.inr (.inl (a : Int))) :: st) M B) : mg_G p l e R s m args below meth c Q D nL AC AS pc L st M B :=
  gs_pure k fun H locs cells slots ls hF hst => ⟨mg_okc (by show _ ∧ _; have := n.isLt; omega) hst, fun k => lv_lconst hx hb hdg (by rw [ha]; exact Int64.ofInt_eq_ofNat.symm) k⟩
theorem gs_fconst (hx : p.tables.exec = Jvm.exec) (hb : c.code = cc) (hdg : decode cc pc = .ok (.fconst 0, 1)) (k : mg_G p l e R s m args below meth c Q D nL AC AS (pc + 1) L (.inr (.inr (.inr (.inr 0))) :: st) M B) : mg_G p l e R s m args below meth c Q D nL AC AS pc L st M B :=
  gs_pure k fun H locs cells slots ls hF hst => ⟨mg_okc trivial hst, fun k => lv_fconst0 hx hb hdg k⟩
theorem gs_dconst (hx : p.tables.exec = Jvm.exec) (hb : c.code = cc) (hdg : decode cc pc = .ok (.dconst 0, 1)) (k : mg_G p l e R s m args below meth c Q D nL AC AS (pc + 1) L (.inr (.inr (.inr (.inl 0))) :: st) M B) : mg_G p l e R s m args below meth c Q D nL AC AS pc L st M B :=
  gs_pure k fun H locs cells slots ls hF hst => ⟨mg_okc trivial hst, fun k => lv_dconst0 hx hb hdg k⟩
theorem gs_ldc2 (hx : p.tables.exec = Jvm.exec) (hb : c.code = cc) {own : String} {i a : Nat} (hown : s.vm.findClass own = some m.cls) (hc : (Jvm.Cond.constantLong own i (Int64.ofInt (a : Int))).before args s = true) (ha : a < 9223372036854775808) (hdg : decode cc pc = .ok (.ldc2_w i, 3)) (k : mg_G p l e R s m args below meth c Q D nL AC AS (pc + 3) L (.inr (.inr (.inl (a : Int))) :: st) M B) : mg_G p l e R s m args below meth c Q D nL AC AS pc L st M B :=
  gs_pure k fun H locs cells slots ls hF hst => ⟨mg_okc (by show _ ∧ _; omega) hst, fun k => lv_ldc2 hx hb hown hc hdg k⟩
theorem gs_iload_n (hx : p.tables.exec = Jvm.exec) (hb : c.code = cc) {n : Fin 4} {i : Nat} {x : Int} (hi : (n : Nat) = i) (hl : (i, (.inl x : mg_V)) ∈ L) (hdg : decode cc pc = .ok (.iload_n n, 1)) (k : mg_G p l e R s m args below meth c Q D nL AC AS (pc + 1) L (.inl x :: st) M B) : mg_G p l e R s m args below meth c Q D nL AC AS pc L st M B :=
  gs_pure k fun H locs cells slots ls hF hst => ⟨mg_okc (hF.2 _ hl) hst, fun k => lv_iload_n hx hb hdg hi (hF.at hl) k⟩
theorem gs_iload (hx : p.tables.exec = Jvm.exec) (hb : c.code = cc) {i : Nat} {x : Int} (hl : (i, (.inl x : mg_V)) ∈ L) (hdg : decode cc pc = .ok (.iload i, 2)) (k : mg_G p l e R s m args below meth c Q D nL AC AS (pc + 2) L (.inl x :: st) M B) : mg_G p l e R s m args below meth c Q D nL AC AS pc L st M B :=
  gs_pure k fun H locs cells slots ls hF hst => ⟨mg_okc (hF.2 _ hl) hst, fun k => lv_iload hx hb hdg (hF.at hl) k⟩
theorem gs_aload_n (hx : p.tables.exec = Jvm.exec) (hb : c.code = cc) {n : Fin 4} {i : Nat} {x : Nat} (hi : (n : Nat) = i) (hl : (i, (.inr (.inl x) : mg_V)) ∈ L) (hdg : decode cc pc = .ok (.aload_n n, 1)) (k : mg_G p l e R s m args below meth c Q D nL AC AS (pc + 1) L (.inr (.inl x) :: st) M B) : mg_G p l e R s m args below meth c Q D nL AC AS pc L st M B :=
  gs_pure k fun H locs cells slots ls hF hst => ⟨mg_okc (hF.2 _ hl) hst, fun k => lv_aload_n hx hb hdg hi (hF.at hl) k⟩
theorem gs_aload (hx : p.tables.exec = Jvm.exec) (hb : c.code = cc) {i : Nat} {x : Nat} (hl : (i, (.inr (.inl x) : mg_V)) ∈ L) (hdg : decode cc pc = .ok (.aload i, 2)) (k : mg_G p l e R s m args below meth c Q D nL AC AS (pc + 2) L (.inr (.inl x) :: st) M B) : mg_G p l e R s m args below meth c Q D nL AC AS pc L st M B :=
  gs_pure k fun H locs cells slots ls hF hst => ⟨mg_okc (hF.2 _ hl) hst, fun k => lv_aload hx hb hdg (hF.at hl) k⟩
theorem gs_lload_n (hx : p.tables.exec = Jvm.exec) (hb : c.code = cc) {n : Fin 4} {i : Nat} {x : Int} (hi : (n : Nat) = i) (hl : (i, (.inr (.inr (.inl x)) : mg_V)) ∈ L) (hdg : decode cc pc = .ok (.lload_n n, 1)) (k : mg_G p l e R s m args below meth c Q D nL AC AS (pc + 1) L (.inr (.inr (.inl x)) :: st) M B) : mg_G p l e R s m args below meth c Q D nL AC AS pc L st M B :=
  gs_pure k fun H locs cells slots ls hF hst => ⟨mg_okc (hF.2 _ hl) hst, fun k => lv_lload_n hx hb hdg hi (hF.at hl) k⟩
theorem gs_lload (hx : p.tables.exec = Jvm.exec) (hb : c.code = cc) {i : Nat} {x : Int} (hl : (i, (.inr (.inr (.inl x)) : mg_V)) ∈ L) (hdg : decode cc pc = .ok (.lload i, 2)) (k : mg_G p l e R s m args below meth c Q D nL AC AS (pc + 2) L (.inr (.inr (.inl x)) :: st) M B) : mg_G p l e R s m args below meth c Q D nL AC AS pc L st M B :=
  gs_pure k fun H locs cells slots ls hF hst => ⟨mg_okc (hF.2 _ hl) hst, fun k => lv_lload hx hb hdg (hF.at hl) k⟩
theorem gs_dload_n (hx : p.tables.exec = Jvm.exec) (hb : c.code = cc) {n : Fin 4} {i : Nat} {x : UInt64} (hi : (n : Nat) = i) (hl : (i, (.inr (.inr (.inr (.inl x))) : mg_V)) ∈ L) (hdg : decode cc pc = .ok (.dload_n n, 1)) (k : mg_G p l e R s m args below meth c Q D nL AC AS (pc + 1) L (.inr (.inr (.inr (.inl x))) :: st) M B) : mg_G p l e R s m args below meth c Q D nL AC AS pc L st M B :=
  gs_pure k fun H locs cells slots ls hF hst => ⟨mg_okc (hF.2 _ hl) hst, fun k => lv_dload_n hx hb hdg hi (hF.at hl) k⟩
theorem gs_dload (hx : p.tables.exec = Jvm.exec) (hb : c.code = cc) {i : Nat} {x : UInt64} (hl : (i, (.inr (.inr (.inr (.inl x))) : mg_V)) ∈ L) (hdg : decode cc pc = .ok (.dload i, 2)) (k : mg_G p l e R s m args below meth c Q D nL AC AS (pc + 2) L (.inr (.inr (.inr (.inl x))) :: st) M B) : mg_G p l e R s m args below meth c Q D nL AC AS pc L st M B :=
  gs_pure k fun H locs cells slots ls hF hst => ⟨mg_okc (hF.2 _ hl) hst, fun k => lv_dload hx hb hdg (hF.at hl) k⟩
theorem gs_istore_n (hx : p.tables.exec = Jvm.exec) (hb : c.code = cc) {n : Fin 4} {i : Nat} {x : Int} (hi : (n : Nat) = i) (hn : i < nL) (hdg : decode cc pc = .ok (.istore_n n, 1)) (k : mg_G p l e R s m args below meth c Q D nL AC AS (pc + 1) ((i, .inl x) :: L.filter (fun q => !(Nat.beq q.1 i || (Nat.beq (q.1 + 1) i && mg_cat2 q.2) || (mg_cat2 (.inl x : mg_V) && Nat.beq q.1 (i + 1))))) st M B) : mg_G p l e R s m args below meth c Q D nL AC AS pc L (.inl x :: st) M B := by
  intro H locs cells slots ls hH hS hF hst hc hs
  obtain ⟨ls', h1, h2⟩ := mg_storeS (v := .inl x) hF (hst _ List.mem_cons_self) (i := i) (Or.inr ⟨hn, rfl⟩)
  obtain k2 := k H locs cells slots ls' hH hS h2 (fun w hw => hst w (List.mem_cons_of_mem _ hw)) hc hs
  intro T hT X
  obtain ⟨t, a, b⟩ := k2 T hT X
  refine ⟨t, ?_, b⟩
  have h1 : storeLocals ls i (mg_tv (.inl x)) = some ls' := h1
  subst hi
  simp only [mg_tv] at h1
  simp only [List.map_cons, mg_tv]
  jvm_step X.here [X.here.top, hx, hb, hdg, h1]
  exact a
theorem gs_istore (hx : p.tables.exec = Jvm.exec) (hb : c.code = cc) {i : Nat} {x : Int} (hn : i < nL) (hdg : decode cc pc = .ok (.istore i, 2)) (k : mg_G p l e R s m args below meth c Q D nL AC AS (pc + 2) ((i, .inl x) :: L.filter (fun q => !(Nat.beq q.1 i || (Nat.beq (q.1 + 1) i && mg_cat2 q.2) || (mg_cat2 (.inl x : mg_V) && Nat.beq q.1 (i + 1))))) st M B) : mg_G p l e R s m args below meth c Q D nL AC AS pc L (.inl x :: st) M B := by
  intro H locs cells slots ls hH hS hF hst hc hs
  obtain ⟨ls', h1, h2⟩ := mg_storeS (v := .inl x) hF (hst _ List.mem_cons_self) (i := i) (Or.inr ⟨hn, rfl⟩)
  obtain k2 := k H locs cells slots ls' hH hS h2 (fun w hw => hst w (List.mem_cons_of_mem _ hw)) hc hs
  intro T hT X
  obtain ⟨t, a, b⟩ := k2 T hT X
  refine ⟨t, ?_, b⟩
  have h1 : storeLocals ls i (mg_tv (.inl x)) = some ls' := h1
  simp only [mg_tv] at h1
  simp only [List.map_cons, mg_tv]
  jvm_step X.here [X.here.top, hx, hb, hdg, h1]
  exact a
theorem gs_astore_n (hx : p.tables.exec = Jvm.exec) (hb : c.code = cc) {n : Fin 4} {i : Nat} {x : Nat} (hi : (n : Nat) = i) (hn : i < nL) (hdg : decode cc pc = .ok (.astore_n n, 1)) (k : mg_G p l e R s m args below meth c Q D nL AC AS (pc + 1) ((i, .inr (.inl x)) :: L.filter (fun q => !(Nat.beq q.1 i || (Nat.beq (q.1 + 1) i && mg_cat2 q.2) || (mg_cat2 (.inr (.inl x) : mg_V) && Nat.beq q.1 (i + 1))))) st M B) : mg_G p l e R s m args below meth c Q D nL AC AS pc L (.inr (.inl x) :: st) M B := by
  intro H locs cells slots ls hH hS hF hst hc hs
  obtain ⟨ls', h1, h2⟩ := mg_storeS (v := .inr (.inl x)) hF (hst _ List.mem_cons_self) (i := i) (Or.inr ⟨hn, rfl⟩)
  obtain k2 := k H locs cells slots ls' hH hS h2 (fun w hw => hst w (List.mem_cons_of_mem _ hw)) hc hs
  intro T hT X
  obtain ⟨t, a, b⟩ := k2 T hT X
  refine ⟨t, ?_, b⟩
  have h1 : storeLocals ls i (mg_tv (.inr (.inl x))) = some ls' := h1
  subst hi
  simp only [mg_tv] at h1
  simp only [List.map_cons, mg_tv]
  jvm_step X.here [X.here.top, hx, hb, hdg, h1]
  exact ⟨rfl, a⟩
theorem gs_astore (hx : p.tables.exec = Jvm.exec) (hb : c.code = cc) {i : Nat} {x : Nat} (hn : i < nL) (hdg : decode cc pc = .ok (.astore i, 2)) (k : mg_G p l e R s m args below meth c Q D nL AC AS (pc + 2) ((i, .inr (.inl x)) :: L.filter (fun q => !(Nat.beq q.1 i || (Nat.beq (q.1 + 1) i && mg_cat2 q.2) || (mg_cat2 (.inr (.inl x) : mg_V) && Nat.beq q.1 (i + 1))))) st M B) : mg_G p l e R s m args below meth c Q D nL AC AS pc L (.inr (.inl x) :: st) M B := by
  intro H locs cells slots ls hH hS hF hst hc hs
  obtain ⟨ls', h1, h2⟩ := mg_storeS (v := .inr (.inl x)) hF (hst _ List.mem_cons_self) (i := i) (Or.inr ⟨hn, rfl⟩)
  obtain k2 := k H locs cells slots ls' hH hS h2 (fun w hw => hst w (List.mem_cons_of_mem _ hw)) hc hs
  intro T hT X
  obtain ⟨t, a, b⟩ := k2 T hT X
  refine ⟨t, ?_, b⟩
  have h1 : storeLocals ls i (mg_tv (.inr (.inl x))) = some ls' := h1
  simp only [mg_tv] at h1
  simp only [List.map_cons, mg_tv]
  jvm_step X.here [X.here.top, hx, hb, hdg, h1]
  exact ⟨rfl, a⟩
theorem gs_lstore_n (hx : p.tables.exec = Jvm.exec) (hb : c.code = cc) {n : Fin 4} {i : Nat} {x : Int} (hi : (n : Nat) = i) (hn : i + 1 < nL) (hdg : decode cc pc = .ok (.lstore_n n, 1)) (k : mg_G p l e R s m args below meth c Q D nL AC AS (pc + 1) ((i, .inr (.inr (.inl x))) :: L.filter (fun q => !(Nat.beq q.1 i || (Nat.beq (q.1 + 1) i && mg_cat2 q.2) || (mg_cat2 (.inr (.inr (.inl x)) : mg_V) && Nat.beq q.1 (i + 1))))) st M B) : mg_G p l e R s m args below meth c Q D nL AC AS pc L (.inr (.inr (.inl x)) :: st) M B := by
  intro H locs cells slots ls hH hS hF hst hc hs
  obtain ⟨ls', h1, h2⟩ := mg_storeS (v := .inr (.inr (.inl x))) hF (hst _ List.mem_cons_self) (i := i) (Or.inl hn)
  obtain k2 := k H locs cells slots ls' hH hS h2 (fun w hw => hst w (List.mem_cons_of_mem _ hw)) hc hs
  intro T hT X
  obtain ⟨t, a, b⟩ := k2 T hT X
  refine ⟨t, ?_, b⟩
  have h1 : storeLocals ls i (mg_tv (.inr (.inr (.inl x)))) = some ls' := h1
  subst hi
  simp only [mg_tv] at h1
  simp only [List.map_cons, mg_tv]
  jvm_step X.here [X.here.top, hx, hb, hdg, h1]
  exact a
theorem gs_lstore (hx : p.tables.exec = Jvm.exec) (hb : c.code = cc) {i : Nat} {x : Int} (hn : i + 1 < nL) (hdg : decode cc pc = .ok (.lstore i, 2)) (k : mg_G p l e R s m args below meth c Q D nL AC AS (pc + 2) ((i, .inr (.inr (.inl x))) :: L.filter (fun q => !(Nat.beq q.1 i || (Nat.beq (q.1 + 1) i && mg_cat2 q.2) || (mg_cat2 (.inr (.inr (.inl x)) : mg_V) && Nat.beq q.1 (i + 1))))) st M B) : mg_G p l e R s m args below meth c Q D nL AC AS pc L (.inr (.inr (.inl x)) :: st) M B := by
  intro H locs cells slots ls hH hS hF hst hc hs
  obtain ⟨ls', h1, h2⟩ := mg_storeS (v := .inr (.inr (.inl x))) hF (hst _ List.mem_cons_self) (i := i) (Or.inl hn)
  obtain k2 := k H locs cells slots ls' hH hS h2 (fun w hw => hst w (List.mem_cons_of_mem _ hw)) hc hs
  intro T hT X
  obtain ⟨t, a, b⟩ := k2 T hT X
  refine ⟨t, ?_, b⟩
  have h1 : storeLocals ls i (mg_tv (.inr (.inr (.inl x)))) = some ls' := h1
  simp only [mg_tv] at h1
  simp only [List.map_cons, mg_tv]
  jvm_step X.here [X.here.top, hx, hb, hdg, h1]
  exact a
theorem gs_dstore_n (hx : p.tables.exec = Jvm.exec) (hb : c.code = cc) {n : Fin 4} {i : Nat} {x : UInt64} (hi : (n : Nat) = i) (hn : i + 1 < nL) (hdg : decode cc pc = .ok (.dstore_n n, 1)) (k : mg_G p l e R s m args below meth c Q D nL AC AS (pc + 1) ((i, .inr (.inr (.inr (.inl x)))) :: L.filter (fun q => !(Nat.beq q.1 i || (Nat.beq (q.1 + 1) i && mg_cat2 q.2) || (mg_cat2 (.inr (.inr (.inr (.inl x))) : mg_V) && Nat.beq q.1 (i + 1))))) st M B) : mg_G p l e R s m args below meth c Q D nL AC AS pc L (.inr (.inr (.inr (.inl x))) :: st) M B := by
  intro H locs cells slots ls hH hS hF hst hc hs
  obtain ⟨ls', h1, h2⟩ := mg_storeS (v := .inr (.inr (.inr (.inl x)))) hF (hst _ List.mem_cons_self) (i := i) (Or.inl hn)
  obtain k2 := k H locs cells slots ls' hH hS h2 (fun w hw => hst w (List.mem_cons_of_mem _ hw)) hc hs
  intro T hT X
  obtain ⟨t, a, b⟩ := k2 T hT X
  refine ⟨t, ?_, b⟩
  have h1 : storeLocals ls i (mg_tv (.inr (.inr (.inr (.inl x))))) = some ls' := h1
  subst hi
  simp only [mg_tv] at h1
  simp only [List.map_cons, mg_tv]
  jvm_step X.here [X.here.top, hx, hb, hdg, h1]
  exact a
theorem gs_dstore (hx : p.tables.exec = Jvm.exec) (hb : c.code = cc) {i : Nat} {x : UInt64} (hn : i + 1 < nL) (hdg : decode cc pc = .ok (.dstore i, 2)) (k : mg_G p l e R s m args below meth c Q D nL AC AS (pc + 2) ((i, .inr (.inr (.inr (.inl x)))) :: L.filter (fun q => !(Nat.beq q.1 i || (Nat.beq (q.1 + 1) i && mg_cat2 q.2) || (mg_cat2 (.inr (.inr (.inr (.inl x))) : mg_V) && Nat.beq q.1 (i + 1))))) st M B) : mg_G p l e R s m args below meth c Q D nL AC AS pc L (.inr (.inr (.inr (.inl x))) :: st) M B := by
  intro H locs cells slots ls hH hS hF hst hc hs
  obtain ⟨ls', h1, h2⟩ := mg_storeS (v := .inr (.inr (.inr (.inl x)))) hF (hst _ List.mem_cons_self) (i := i) (Or.inl hn)
  obtain k2 := k H locs cells slots ls' hH hS h2 (fun w hw => hst w (List.mem_cons_of_mem _ hw)) hc hs
  intro T hT X
  obtain ⟨t, a, b⟩ := k2 T hT X
  refine ⟨t, ?_, b⟩
  have h1 : storeLocals ls i (mg_tv (.inr (.inr (.inr (.inl x))))) = some ls' := h1
  simp only [mg_tv] at h1
  simp only [List.map_cons, mg_tv]
  jvm_step X.here [X.here.top, hx, hb, hdg, h1]
  exact a
theorem gs_iinc (hx : p.tables.exec = Jvm.exec) (hb : c.code = cc) {i : Nat} {n x : Int} (hl : (i, (.inl x : mg_V)) ∈ L) (hr : -2147483648 ≤ x + n ∧ x + n < 2147483648) (hn : i < nL) (hdg : decode cc pc = .ok (.iinc i n, 3)) (k : mg_G p l e R s m args below meth c Q D nL AC AS (pc + 3) ((i, .inl (x + n)) :: L.filter (fun q => !(Nat.beq q.1 i || (Nat.beq (q.1 + 1) i && mg_cat2 q.2) || (mg_cat2 (.inl (x + n) : mg_V) && Nat.beq q.1 (i + 1))))) st M B) : mg_G p l e R s m args below meth c Q D nL AC AS pc L st M B := by
  intro H locs cells slots ls hH hS hF hst hc hs
  obtain ⟨ls', h1, h2⟩ := mg_storeS (v := .inl (x + n)) hF hr (i := i) (Or.inr ⟨hn, rfl⟩)
  obtain k2 := k H locs cells slots ls' hH hS h2 hst hc hs
  intro T hT X
  obtain ⟨t, a, b⟩ := k2 T hT X
  refine ⟨t, ?_, b⟩
  have h3 : ls[i]? = some (.val (.int (Int32.ofInt x))) := hF.at hl
  have h1 : storeLocals ls i (.int (Int32.ofInt (x + n))) = some ls' := h1
  rw [Int32.ofInt_add] at h1
  jvm_step X.here [X.here.top, hx, hb, hdg, h1, h3]
  exact a
theorem gs_dupi (hx : p.tables.exec = Jvm.exec) (hb : c.code = cc) {x : Int} (hdg : decode cc pc = .ok (.dup, 1)) (k : mg_G p l e R s m args below meth c Q D nL AC AS (pc + 1) L (.inl x :: .inl x :: st) M B) : mg_G p l e R s m args below meth c Q D nL AC AS pc L (.inl x :: st) M B :=
  gs_pure k fun H locs cells slots ls hF hst => ⟨mg_okc (hst _ List.mem_cons_self) hst, fun k => lv_dup hx hb hdg rfl k⟩
theorem gs_dupa (hx : p.tables.exec = Jvm.exec) (hb : c.code = cc) {x : Nat} (hdg : decode cc pc = .ok (.dup, 1)) (k : mg_G p l e R s m args below meth c Q D nL AC AS (pc + 1) L (.inr (.inl x) :: .inr (.inl x) :: st) M B) : mg_G p l e R s m args below meth c Q D nL AC AS pc L (.inr (.inl x) :: st) M B :=
  gs_pure k fun H locs cells slots ls hF hst => ⟨mg_okc (hst _ List.mem_cons_self) hst, fun k => lv_dup hx hb hdg rfl k⟩
theorem gs_popi (hx : p.tables.exec = Jvm.exec) (hb : c.code = cc) {x : Int} (hdg : decode cc pc = .ok (.pop, 1)) (k : mg_G p l e R s m args below meth c Q D nL AC AS (pc + 1) L st M B) : mg_G p l e R s m args below meth c Q D nL AC AS pc L (.inl x :: st) M B :=
  gs_pure k fun H locs cells slots ls hF hst => ⟨fun w hw => hst w (List.mem_cons_of_mem _ hw), fun k => lv_pop hx hb hdg rfl k⟩
theorem gs_popa (hx : p.tables.exec = Jvm.exec) (hb : c.code = cc) {x : Nat} (hdg : decode cc pc = .ok (.pop, 1)) (k : mg_G p l e R s m args below meth c Q D nL AC AS (pc + 1) L st M B) : mg_G p l e R s m args below meth c Q D nL AC AS pc L (.inr (.inl x) :: st) M B :=
  gs_pure k fun H locs cells slots ls hF hst => ⟨fun w hw => hst w (List.mem_cons_of_mem _ hw), fun k => lv_pop hx hb hdg rfl k⟩
theorem gs_dup2 (hx : p.tables.exec = Jvm.exec) (hb : c.code = cc) {x : Int} {y : Nat} (hdg : decode cc pc = .ok (.dup2, 1)) (k : mg_G p l e R s m args below meth c Q D nL AC AS (pc + 1) L (.inl x :: .inr (.inl y) :: .inl x :: .inr (.inl y) :: st) M B) : mg_G p l e R s m args below meth c Q D nL AC AS pc L (.inl x :: .inr (.inl y) :: st) M B :=
  gs_pure k fun H locs cells slots ls hF hst => ⟨mg_okc (hst _ List.mem_cons_self) (mg_okc (hst _ (List.mem_cons_of_mem _ List.mem_cons_self)) hst), fun k => lv_dup2_11 hx hb hdg rfl rfl k⟩
theorem gs_goto (hx : p.tables.exec = Jvm.exec) (hb : c.code = cc) {off : Int} {a : Nat} (ht : (pc : Int) + off = (a : Int)) (hdg : decode cc pc = .ok (.goto off, 3)) (k : mg_G p l e R s m args below meth c Q D nL AC AS a L st M B) : mg_G p l e R s m args below meth c Q D nL AC AS pc L st M B :=
  gs_pure k fun H locs cells slots ls hF hst => ⟨hst, fun k => lv_goto hx hb hdg ht k⟩
theorem gs_icmp (hx : p.tables.exec = Jvm.exec) (hb : c.code = cc) {off : Int} {a : Nat} {op : Jvm.ClassFile.Cond} {x y : Int} (ht : (pc : Int) + off = (a : Int)) (hdg : decode cc pc = .ok (.if_icmp op off, 3)) (k : mg_if op x y (mg_G p l e R s m args below meth c Q D nL AC AS a L st M B) (mg_G p l e R s m args below meth c Q D nL AC AS (pc + 3) L st M B)) : mg_G p l e R s m args below meth c Q D nL AC AS pc L (.inl y :: .inl x :: st) M B := by
  intro H locs cells slots ls hH hS hF hst hc hs
  refine mg_ok2 hst fun hy hst => mg_ok2 hst fun hx1 hst => ?_
  have go : ∀ {pc' : Nat}, mg_G p l e R s m args below meth c Q D nL AC AS pc' L st M B → W p l e R s m args below meth c H locs cells slots Q (F0 m pc' ls (st.map mg_tv)) := fun k => k H locs cells slots ls hH hS hF hst hc hs
  cases op
  · exact lv_icmp_eq hx hb hdg ht (fun h => go (k.1 ((mg_eq hx1 hy).mp h))) (fun h => go (k.2 (fun q => h ((mg_eq hx1 hy).mpr q))))
  · exact lv_icmp_ne hx hb hdg ht (fun h => go (k.1 (fun q => h ((mg_eq hx1 hy).mpr q)))) (fun h => go (k.2 ((mg_eq hx1 hy).mp h)))
  · exact lv_icmp_lt hx hb hdg ht (fun h => go (k.1 ((mg_lt hx1 hy).mp h))) (fun h => go (k.2 (Int.not_lt.mp (fun q => h ((mg_lt hx1 hy).mpr q)))))
  · exact lv_icmp_ge hx hb hdg ht (fun h => go (k.1 ((mg_le hy hx1).mp h))) (fun h => go (k.2 (Int.not_le.mp (fun q => h ((mg_le hy hx1).mpr q)))))
  · exact lv_icmp_gt hx hb hdg ht (fun h => go (k.1 ((mg_lt hy hx1).mp h))) (fun h => go (k.2 (Int.not_lt.mp (fun q => h ((mg_lt hy hx1).mpr q)))))
  · exact lv_icmp_le hx hb hdg ht (fun h => go (k.1 ((mg_le hx1 hy).mp h))) (fun h => go (k.2 (Int.not_le.mp (fun q => h ((mg_le hx1 hy).mpr q)))))
theorem gs_ifc (hx : p.tables.exec = Jvm.exec) (hb : c.code = cc) {off : Int} {a : Nat} {op : Jvm.ClassFile.Cond} {x : Int} (ht : (pc : Int) + off = (a : Int)) (hdg : decode cc pc = .ok (.ifCond op off, 3)) (k : mg_if op x 0 (mg_G p l e R s m args below meth c Q D nL AC AS a L st M B) (mg_G p l e R s m args below meth c Q D nL AC AS (pc + 3) L st M B)) : mg_G p l e R s m args below meth c Q D nL AC AS pc L (.inl x :: st) M B := by
  intro H locs cells slots ls hH hS hF hst hc hs
  refine mg_ok2 hst fun hx1 hst => ?_
  have hy : mg_ok (.inl 0) := by show _ ∧ _; omega
  have go : ∀ {pc' : Nat}, mg_G p l e R s m args below meth c Q D nL AC AS pc' L st M B → W p l e R s m args below meth c H locs cells slots Q (F0 m pc' ls (st.map mg_tv)) := fun k => k H locs cells slots ls hH hS hF hst hc hs
  cases op
  · exact lv_if_eq hx hb hdg ht (fun h => go (k.1 ((mg_eq hx1 hy).mp h))) (fun h => go (k.2 (fun q => h ((mg_eq hx1 hy).mpr q))))
  · exact lv_if_ne hx hb hdg ht (fun h => go (k.1 (fun q => h ((mg_eq hx1 hy).mpr q)))) (fun h => go (k.2 ((mg_eq hx1 hy).mp h)))
  · exact lv_if_lt hx hb hdg ht (fun h => go (k.1 ((mg_lt hx1 hy).mp h))) (fun h => go (k.2 (Int.not_lt.mp (fun q => h ((mg_lt hx1 hy).mpr q)))))
  · exact lv_if_ge hx hb hdg ht (fun h => go (k.1 ((mg_le hy hx1).mp h))) (fun h => go (k.2 (Int.not_le.mp (fun q => h ((mg_le hy hx1).mpr q)))))
  · exact lv_if_gt hx hb hdg ht (fun h => go (k.1 ((mg_lt hy hx1).mp h))) (fun h => go (k.2 (Int.not_lt.mp (fun q => h ((mg_lt hy hx1).mpr q)))))
  · exact lv_if_le hx hb hdg ht (fun h => go (k.1 ((mg_le hx1 hy).mp h))) (fun h => go (k.2 (Int.not_le.mp (fun q => h ((mg_le hx1 hy).mpr q)))))
end MGI
