/-! the abstract memory: the next address, kinds and lengths; ints, references (0: null), longs and doubles by address and place -/
abbrev mg_V : Type := Int ⊕ (Nat ⊕ (Int ⊕ (UInt64 ⊕ UInt32)))
abbrev mg_L : Type := List (Nat × mg_V)
abbrev mg_M : Type := (Nat × (Nat → Nat) × (Nat → Nat)) × (Nat → Nat → Int) × (Nat → Nat → Nat) × (Nat → Nat → Int) × (Nat → Nat → UInt64)
def nx (M : mg_M) : Nat := M.1.1
def kd (M : mg_M) (a : Nat) : Nat := M.1.2.1 a
def ln (M : mg_M) (a : Nat) : Nat := M.1.2.2 a
def gi (M : mg_M) (a k : Nat) : Int := M.2.1 a k
def gr (M : mg_M) (a k : Nat) : Nat := M.2.2.1 a k
def gl (M : mg_M) (a k : Nat) : Int := M.2.2.2.1 a k
def gd (M : mg_M) (a k : Nat) : UInt64 := M.2.2.2.2 a k
def si (M : mg_M) (a k : Nat) (x : Int) : mg_M := (M.1, (fun b j => if b = a ∧ j = k then x else M.2.1 b j), M.2.2)
def sr (M : mg_M) (a k : Nat) (x : Nat) : mg_M := (M.1, M.2.1, (fun b j => if b = a ∧ j = k then x else M.2.2.1 b j), M.2.2.2)
def sl (M : mg_M) (a k : Nat) (x : Int) : mg_M := (M.1, M.2.1, M.2.2.1, (fun b j => if b = a ∧ j = k then x else M.2.2.2.1 b j), M.2.2.2.2)
def sd (M : mg_M) (a k : Nat) (x : UInt64) : mg_M := (M.1, M.2.1, M.2.2.1, M.2.2.2.1, (fun b j => if b = a ∧ j = k then x else M.2.2.2.2 b j))
/-- n ints are copied from the front of one row to the front of another -/
def cpy (M : mg_M) (s d n : Nat) : mg_M := (M.1, (fun b j => if b = d ∧ j < n then M.2.1 s j else M.2.1 b j), M.2.2)
/-- a new thing of a kind and a length at the next address, all blank -/
def al (M : mg_M) (c n : Nat) : mg_M := ((M.1.1 + 1, (fun b => if b = M.1.1 then c else M.1.2.1 b), (fun b => if b = M.1.1 then n else M.1.2.2 b)), (fun b j => if b = M.1.1 then 0 else M.2.1 b j), (fun b j => if b = M.1.1 then 0 else M.2.2.1 b j), (fun b j => if b = M.1.1 then 0 else M.2.2.2.1 b j), (fun b j => if b = M.1.1 then 0 else M.2.2.2.2 b j))
/-- the next address is another one -/
def nxt (M : mg_M) (n : Nat) : mg_M := ((n, M.1.2), M.2)
/-! the walk of decoded code: what must hold for a run to come to its end -/
def mg_cat2 (v : mg_V) : Bool := match v with
  | .inr (.inr (.inl _)) => true
  | .inr (.inr (.inr (.inl _))) => true
  | _ => false
def mg_get : mg_L → Nat → (mg_V → Prop) → Prop
  | [], _, _ => False
  | (j, v) :: l, i, k => bif Nat.beq j i then k v else mg_get l i k
def mg_rem : mg_L → Nat → Bool → (mg_L → Prop) → Prop
  | [], _, _, k => k []
  | (j, v) :: l, i, w, k => bif (Nat.beq j i || (Nat.beq (j + 1) i && mg_cat2 v) || (w && Nat.beq j (i + 1))) then mg_rem l i w k else mg_rem l i w (fun l' => k ((j, v) :: l'))
def mg_pick : List Nat → mg_L → (mg_L → Prop) → Prop
  | [], _, k => k []
  | i :: is, l, k => mg_get l i (fun v => mg_pick is l (fun l' => k ((i, v) :: l')))
def mg_int (v : mg_V) (k : Int → Prop) : Prop := match v with
  | .inl x => k x
  | _ => False
def mg_ref (v : mg_V) (k : Nat → Prop) : Prop := match v with
  | .inr (.inl x) => k x
  | _ => False
def mg_lng (v : mg_V) (k : Int → Prop) : Prop := match v with
  | .inr (.inr (.inl x)) => k x
  | _ => False
def mg_dbl (v : mg_V) (k : UInt64 → Prop) : Prop := match v with
  | .inr (.inr (.inr (.inl x))) => k x
  | _ => False
def mg_pop : Nat → List mg_V → List mg_V → (List mg_V → List mg_V → Prop) → Prop
  | 0, acc, st, k => k acc st
  | n + 1, acc, v :: st, k => mg_pop n (v :: acc) st k
  | _ + 1, _, [], _ => False
def mg_seek : List mg_E → Nat → (Nat → Instr → Nat → Nat → Nat → Nat → Nat → Prop) → Prop
  | [], _, _ => False
  | (pc', nn, (i, len), (a, b, c, d)) :: l, pc, k => bif Nat.beq pc' pc then k nn i len a b c d else mg_seek l pc k
def mg_cut : List (Nat × List Nat) → Nat → (List Nat → Prop) → Prop → Prop
  | [], _, _, n => n
  | q :: l, pc, k, n => bif Nat.beq q.1 pc then k q.2 else mg_cut l pc k n
def mg_hand : List (Nat × Nat × Nat × Nat) → Nat → Nat → (Nat → Prop) → Prop → Prop
  | [], _, _, _, n => n
  | (a, b, h, c) :: l, pc, x, k, n => bif (Nat.ble a pc && Nat.blt pc b) && Nat.beq c x then k h else mg_hand l pc x k n
def mg_sw : List Nat → Int → Nat → (Nat → Prop) → Prop
  | [], _, _, _ => True
  | t :: ts, x, j, k => (x = (j : Int) → k t) ∧ mg_sw ts x (j + 1) k
abbrev mg_O : Type := Option mg_V → mg_M → Prop
abbrev mg_X : Type := Nat → mg_M → Prop
abbrev mg_K : Type := Nat → mg_L → List mg_V → mg_M → Nat → Prop
def mg_store (K : mg_K) (nx : Nat) (ls : mg_L) (st : List mg_V) (M : mg_M) (B : Nat) (i : Nat) (v : mg_V) : Prop := mg_rem ls i (mg_cat2 v) (fun l => K nx ((i, v) :: l) st M B)
def mg_if (op : Jvm.ClassFile.Cond) (x y : Int) (T F : Prop) : Prop := match op with
  | .eq => (x = y → T) ∧ (x ≠ y → F)
  | .ne => (x ≠ y → T) ∧ (x = y → F)
  | .lt => (x < y → T) ∧ (y ≤ x → F)
  | .ge => (y ≤ x → T) ∧ (x < y → F)
  | .gt => (y < x → T) ∧ (x ≤ y → F)
  | .le => (x ≤ y → T) ∧ (y < x → F)
/-- a call: the contract, what goes on behind it, what a thrown exception does -/
def mg_call (C : mg_C) (MT : Nat → List mg_V → mg_M → mg_O → mg_X → Prop) (Xo : mg_X) (K : mg_K) (pc nx a : Nat) (ls : mg_L) (args st : List mg_V) (M : mg_M) (B : Nat) : Prop :=
  bif Nat.ble st.length 4 then ∃ (N : mg_O) (X : mg_X), MT a args M N X ∧ (∀ v M', N v M' → K nx ls (v.toList ++ st) M' B) ∧
    (∀ k M', X k M' → mg_hand C.2.2.1 pc k (fun h => ∀ q : Nat, K h ls [.inr (.inl q)] M' B) (Xo k M')) else False
def mg_buy (c B : Nat) (k : Nat → Prop) : Prop := bif Nat.beq c 0 then k B else c ≤ B ∧ k (B - c)
def mg_step (C : mg_C) (MT : Nat → List mg_V → mg_M → mg_O → mg_X → Prop) (Q : mg_O) (Xo : mg_X) (K : mg_K) (pc nn : Nat) (i : Instr) (a b c d : Nat) (ls : mg_L) (st : List mg_V) (M : mg_M) (B : Nat) : Prop :=
  match i with
  | .iconst n => K nn ls (.inl n :: st) M B
  | .bipush n => K nn ls (.inl n :: st) M B
  | .sipush n => K nn ls (.inl n :: st) M B
  | .lconst _ => K nn ls (.inr (.inr (.inl (a : Int))) :: st) M B
  | .ldc2_w _ => K nn ls (.inr (.inr (.inl (a : Int))) :: st) M B
  | .fconst _ => K nn ls (.inr (.inr (.inr (.inr 0))) :: st) M B
  | .dconst _ => K nn ls (.inr (.inr (.inr (.inl 0))) :: st) M B
  | .iload_n _ => mg_get ls a (fun v => mg_int v fun x => K nn ls (.inl x :: st) M B)
  | .iload _ => mg_get ls a (fun v => mg_int v fun x => K nn ls (.inl x :: st) M B)
  | .aload_n _ => mg_get ls a (fun v => mg_ref v fun x => K nn ls (.inr (.inl x) :: st) M B)
  | .aload _ => mg_get ls a (fun v => mg_ref v fun x => K nn ls (.inr (.inl x) :: st) M B)
  | .lload_n _ => mg_get ls a (fun v => mg_lng v fun x => K nn ls (.inr (.inr (.inl x)) :: st) M B)
  | .lload _ => mg_get ls a (fun v => mg_lng v fun x => K nn ls (.inr (.inr (.inl x)) :: st) M B)
  | .dload_n _ => mg_get ls a (fun v => mg_dbl v fun x => K nn ls (.inr (.inr (.inr (.inl x))) :: st) M B)
  | .dload _ => mg_get ls a (fun v => mg_dbl v fun x => K nn ls (.inr (.inr (.inr (.inl x))) :: st) M B)
  | .istore_n _ => match st with
    | .inl x :: st => mg_store K nn ls st M B a (.inl x)
    | _ => False
  | .istore _ => match st with
    | .inl x :: st => mg_store K nn ls st M B a (.inl x)
    | _ => False
  | .astore_n _ => match st with
    | .inr (.inl x) :: st => mg_store K nn ls st M B a (.inr (.inl x))
    | _ => False
  | .astore _ => match st with
    | .inr (.inl x) :: st => mg_store K nn ls st M B a (.inr (.inl x))
    | _ => False
  | .lstore_n _ => match st with
    | .inr (.inr (.inl x)) :: st => mg_store K nn ls st M B a (.inr (.inr (.inl x)))
    | _ => False
  | .lstore _ => match st with
    | .inr (.inr (.inl x)) :: st => mg_store K nn ls st M B a (.inr (.inr (.inl x)))
    | _ => False
  | .dstore_n _ => match st with
    | .inr (.inr (.inr (.inl x))) :: st => mg_store K nn ls st M B a (.inr (.inr (.inr (.inl x))))
    | _ => False
  | .dstore _ => match st with
    | .inr (.inr (.inr (.inl x))) :: st => mg_store K nn ls st M B a (.inr (.inr (.inr (.inl x))))
    | _ => False
  | .iinc _ n => mg_get ls a (fun v => mg_int v fun x => (-2147483648 ≤ x + n ∧ x + n < 2147483648) ∧ mg_store K nn ls st M B a (.inl (x + n)))
  | .iadd => match st with
    | .inl y :: .inl x :: st => (-2147483648 ≤ x + y ∧ x + y < 2147483648) ∧ K nn ls (.inl (x + y) :: st) M B
    | _ => False
  | .isub => match st with
    | .inl y :: .inl x :: st => (-2147483648 ≤ x - y ∧ x - y < 2147483648) ∧ K nn ls (.inl (x - y) :: st) M B
    | _ => False
  | .imul => match st with
    | .inl y :: .inl x :: st => (-2147483648 ≤ x * y ∧ x * y < 2147483648) ∧ K nn ls (.inl (x * y) :: st) M B
    | _ => False
  | .idiv => match st with
    | .inl y :: .inl x :: st => (0 ≤ x ∧ 0 < y) ∧ K nn ls (.inl (x / y) :: st) M B
    | _ => False
  | .irem => match st with
    | .inl y :: .inl x :: st => (0 ≤ x ∧ 0 < y) ∧ K nn ls (.inl (x % y) :: st) M B
    | _ => False
  | .iand => match st with
    | .inl y :: .inl x :: st => y = 63 ∧ K nn ls (.inl (x % 64) :: st) M B
    | _ => False
  | .i2c => match st with
    | .inl x :: st => K nn ls (.inl (x % 65536) :: st) M B
    | _ => False
  | .i2l => match st with
    | .inl x :: st => K nn ls (.inr (.inr (.inl x)) :: st) M B
    | _ => False
  | .l2i => match st with
    | .inr (.inr (.inl x)) :: st => (-2147483648 ≤ x ∧ x < 2147483648) ∧ K nn ls (.inl x :: st) M B
    | _ => False
  | .ladd => match st with
    | .inr (.inr (.inl y)) :: .inr (.inr (.inl x)) :: st => (-9223372036854775808 ≤ x + y ∧ x + y < 9223372036854775808) ∧ K nn ls (.inr (.inr (.inl (x + y))) :: st) M B
    | _ => False
  | .lsub => match st with
    | .inr (.inr (.inl y)) :: .inr (.inr (.inl x)) :: st => (-9223372036854775808 ≤ x - y ∧ x - y < 9223372036854775808) ∧ K nn ls (.inr (.inr (.inl (x - y))) :: st) M B
    | _ => False
  | .lcmp => match st with
    | .inr (.inr (.inl y)) :: .inr (.inr (.inl x)) :: st => K nn ls (.inl (if x < y then -1 else if x = y then 0 else 1) :: st) M B
    | _ => False
  | .i2f => match st with
    | .inl x :: st => K nn ls (.inr (.inr (.inr (.inr (FP.i2f (Int32.ofInt x))))) :: st) M B
    | _ => False
  | .i2d => match st with
    | .inl x :: st => K nn ls (.inr (.inr (.inr (.inl (FP.i2d (Int32.ofInt x))))) :: st) M B
    | _ => False
  | .f2d => match st with
    | .inr (.inr (.inr (.inr x))) :: st => vf_n64 (FP.f2d x) ∧ K nn ls (.inr (.inr (.inr (.inl (FP.f2d x)))) :: st) M B
    | _ => False
  | .fdiv => match st with
    | .inr (.inr (.inr (.inr y))) :: .inr (.inr (.inr (.inr x))) :: st => vf_n32 (FP.fdiv x y) ∧ K nn ls (.inr (.inr (.inr (.inr (FP.fdiv x y)))) :: st) M B
    | _ => False
  | .ddiv => match st with
    | .inr (.inr (.inr (.inl y))) :: .inr (.inr (.inr (.inl x))) :: st => vf_n64 (FP.ddiv x y) ∧ K nn ls (.inr (.inr (.inr (.inl (FP.ddiv x y)))) :: st) M B
    | _ => False
  | .dcmp op => match st with
    | .inr (.inr (.inr (.inl y))) :: .inr (.inr (.inr (.inl x))) :: st => K nn ls (.inl (Op.cmpValue (FP.dcmp x y) op).toInt :: st) M B
    | _ => False
  | .dup => match st with
    | .inl x :: st => K nn ls (.inl x :: .inl x :: st) M B
    | .inr (.inl x) :: st => K nn ls (.inr (.inl x) :: .inr (.inl x) :: st) M B
    | _ => False
  | .dup2 => match st with
    | .inl x :: .inr (.inl y) :: st => K nn ls (.inl x :: .inr (.inl y) :: .inl x :: .inr (.inl y) :: st) M B
    | _ => False
  | .pop => match st with
    | .inl _ :: st => K nn ls st M B
    | .inr (.inl _) :: st => K nn ls st M B
    | _ => False
  | .ifCond op _ => match st with
    | .inl x :: st => mg_if op x 0 (K a ls st M B) (K nn ls st M B)
    | _ => False
  | .if_icmp op _ => match st with
    | .inl y :: .inl x :: st => mg_if op x y (K a ls st M B) (K nn ls st M B)
    | _ => False
  | .goto _ => K a ls st M B
  | .tableswitch _ _ _ _ => match st with
    | .inl x :: st => mg_sw C.2.2.2.2 x 0 (fun t => K t ls st M B) ∧ ((x < 0 ∨ (C.2.2.2.2.length : Int) ≤ x) → K a ls st M B)
    | _ => False
  | .getfield _ => match st with
    | .inr (.inl r) :: st => kd M r = a ∧ bif Nat.beq c 1 then gr M r b ≠ 0 ∧ K nn ls (.inr (.inl (gr M r b)) :: st) M B else K nn ls (.inl (gi M r b) :: st) M B
    | _ => False
  | .putfield _ => match st with
    | .inl x :: .inr (.inl r) :: st => kd M r = a ∧ bif Nat.beq c 2 then (x = 0 ∨ x = 1) ∧ K nn ls st (si M r b x) B else bif Nat.beq c 0 then K nn ls st (si M r b x) B else False
    | .inr (.inl x) :: .inr (.inl r) :: st => kd M r = a ∧ bif Nat.beq c 1 then x ≠ 0 ∧ K nn ls st (sr M r b x) B else False
    | _ => False
  | .iaload => match st with
    | .inl i :: .inr (.inl r) :: st => (kd M r = a ∧ 0 ≤ i ∧ i < ln M r) ∧ K nn ls (.inl (gi M r i.toNat) :: st) M B
    | _ => False
  | .aaload => match st with
    | .inl i :: .inr (.inl r) :: st => (kd M r = 9 ∧ 0 ≤ i ∧ i < ln M r) ∧ gr M r i.toNat ≠ 0 ∧ K nn ls (.inr (.inl (gr M r i.toNat)) :: st) M B
    | _ => False
  | .laload => match st with
    | .inl i :: .inr (.inl r) :: st => (kd M r = 10 ∧ 0 ≤ i ∧ i < ln M r) ∧ K nn ls (.inr (.inr (.inl (gl M r i.toNat))) :: st) M B
    | _ => False
  | .daload => match st with
    | .inl i :: .inr (.inl r) :: st => (kd M r = 11 ∧ 0 ≤ i ∧ i < ln M r) ∧ K nn ls (.inr (.inr (.inr (.inl (gd M r i.toNat)))) :: st) M B
    | _ => False
  | .iastore => match st with
    | .inl x :: .inl i :: .inr (.inl r) :: st => (kd M r = 8 ∧ 0 ≤ i ∧ i < ln M r) ∧ K nn ls st (si M r i.toNat x) B
    | _ => False
  | .aastore => match st with
    | .inr (.inl x) :: .inl i :: .inr (.inl r) :: st => (kd M r = 9 ∧ 0 ≤ i ∧ i < ln M r) ∧ kd M x = 3 ∧ K nn ls st (sr M r i.toNat x) B
    | _ => False
  | .lastore => match st with
    | .inr (.inr (.inl x)) :: .inl i :: .inr (.inl r) :: st => (kd M r = 10 ∧ 0 ≤ i ∧ i < ln M r) ∧ K nn ls st (sl M r i.toNat x) B
    | _ => False
  | .dastore => match st with
    | .inr (.inr (.inr (.inl x))) :: .inl i :: .inr (.inl r) :: st => (kd M r = 11 ∧ 0 ≤ i ∧ i < ln M r) ∧ K nn ls st (sd M r i.toNat x) B
    | _ => False
  | .arraylength => match st with
    | .inr (.inl r) :: st => kd M r = a ∧ ln M r < 2147483648 ∧ K nn ls (.inl (ln M r : Int) :: st) M B
    | _ => False
  | .newarray _ => match st with
    | .inl n :: st => (0 ≤ n ∧ n ≤ 160 ∧ 1 ≤ B) ∧ K nn ls (.inr (.inl (nx M)) :: st) (al M a n.toNat) (B - 1)
    | _ => False
  | .anewarray _ => match st with
    | .inl n :: st => (0 ≤ n ∧ n ≤ 160 ∧ 1 ≤ B) ∧ K nn ls (.inr (.inl (nx M)) :: st) (al M 9 n.toNat) (B - 1)
    | _ => False
  | .new _ => bif Nat.blt a 100 then 1 ≤ B ∧ K nn ls (.inr (.inl (nx M)) :: st) (al M a 0) (B - 1) else bif Nat.ble st.length 4 then 1 ≤ B ∧ ∀ n, nx M ≤ n → Xo (a - 100) (nxt M n) else False
  | .invokevirtual _ => mg_pop (b + 1) [] st (fun args st => match args with
    | .inr (.inl r) :: _ => kd M r = d ∧ mg_buy c B fun B => mg_call C MT Xo K pc nn a ls args st M B
    | _ => False)
  | .invokespecial _ => bif Nat.beq a 0 then (bif Nat.blt 7 st.length then False else match st with
    | .inr (.inl _) :: st => K nn ls st M B
    | _ => False) else mg_pop (b + 1) [] st (fun args st => match args with
    | .inr (.inl _) :: _ => mg_buy c B fun B => mg_call C MT Xo K pc nn a ls args st M B
    | _ => False)
  | .invokestatic _ => bif Nat.blt a 1000 then mg_pop b [] st (fun args st => mg_buy c B fun B => mg_call C MT Xo K pc nn a ls args st M B)
    else bif Nat.blt 9 st.length then False else bif Nat.beq a 1002 then (match st with
      | .inl n :: .inl dp :: .inr (.inl t) :: .inl sp :: .inr (.inl s) :: st => (sp = 0 ∧ dp = 0 ∧ 0 ≤ n ∧ kd M s = 8 ∧ kd M t = 8 ∧ n ≤ ln M s ∧ n ≤ ln M t) ∧ K nn ls st (cpy M s t n.toNat) B
      | _ => False)
    else (match st with
      | .inl y :: .inl x :: st => bif Nat.beq a 1000 then K nn ls (.inl (max x y) :: st) M B else K nn ls (.inl (min x y) :: st) M B
      | _ => False)
  | .ireturn => match st with
    | [.inl x] => bif Nat.beq C.2.2.2.1.1 2 then (x = 0 ∨ x = 1) ∧ Q (some (.inl x)) M else Q (some (.inl x)) M
    | _ => False
  | .areturn => match st with
    | [.inr (.inl x)] => Q (some (.inr (.inl x))) M
    | _ => False
  | .lreturn => match st with
    | [.inr (.inr (.inl x))] => Q (some (.inr (.inr (.inl x)))) M
    | _ => False
  | .dreturn => match st with
    | [.inr (.inr (.inr (.inl x)))] => Q (some (.inr (.inr (.inr (.inl x))))) M
    | _ => False
  | .freturn => match st with
    | [.inr (.inr (.inr (.inr x)))] => Q (some (.inr (.inr (.inr (.inr x))))) M
    | _ => False
  | .return_ => match st with
    | [] => Q none M
    | _ => False
  | _ => False
def mg_ev (C : mg_C) (MT : Nat → List mg_V → mg_M → mg_O → mg_X → Prop) (Q : mg_O) (Xo : mg_X) (X : mg_K) : Nat → Bool → mg_K
  | 0, _, _, _, _, _, _ => False
  | n + 1, fl, pc, ls, st, M, B =>
    bif fl then mg_cut C.2.1 pc (fun live => mg_pick live ls (fun l => X pc l st M B)) (mg_seek C.1 pc fun nn i _ a b c d => mg_step C MT Q Xo (fun pc ls st M B => mg_ev C MT Q Xo X n true pc ls st M B) pc nn i a b c d ls st M B)
    else mg_seek C.1 pc fun nn i _ a b c d => mg_step C MT Q Xo (fun pc ls st M B => mg_ev C MT Q Xo X n true pc ls st M B) pc nn i a b c d ls st M B
