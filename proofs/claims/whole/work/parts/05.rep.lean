/-! how the abstract memory lies in the machine's heap; one row an instruction -/
abbrev mg_D : Type := (Nat → ClassId) × (Nat → Nat → Nat) × (Nat → ClassId) × Nat
def mg_tv (v : mg_V) : Value := match v with
  | .inl x => .int (Int32.ofInt x)
  | .inr (.inl a) => .ref a
  | .inr (.inr (.inl x)) => .long (Int64.ofInt x)
  | .inr (.inr (.inr (.inl x))) => .double x
  | .inr (.inr (.inr (.inr x))) => .float x
def mg_ok (v : mg_V) : Prop := match v with
  | .inl x => -2147483648 ≤ x ∧ x < 2147483648
  | .inr (.inr (.inl x)) => -9223372036854775808 ≤ x ∧ x < 9223372036854775808
  | _ => True
def mg_rO (n : Nat) : Option Nat := if n = 0 then none else some n
def mg_fv (M : mg_M) (a c k : Nat) : Value := match mg_ty c k with
  | .int => .int (Int32.ofInt (gi M a k))
  | .boolean => .int (Int32.ofInt (gi M a k))
  | _ => va_rf (mg_rO (gr M a k))
def mg_fs (M : mg_M) (a c : Nat) : List Value := (List.range (mg_N c)).map (mg_fv M a c)
def mg_cF (D : mg_D) (M : mg_M) (a : Nat) : va_E :=
  if kd M a ≤ 7 then .inr (kd M a - 1, mg_fs M a (kd M a))
  else if kd M a = 8 then .inl (D.2.2.1 8, ln M a, .inl (fun j => Int32.ofInt (gi M a j)))
  else if kd M a = 9 then .inl (D.2.2.1 9, ln M a, .inr (.inr (.inr (.inr (fun j => mg_rO (gr M a j))))))
  else if kd M a = 10 then .inl (D.2.2.1 10, ln M a, .inr (.inl (fun j => Int64.ofInt (gl M a j))))
  else .inl (D.2.2.1 11, ln M a, .inr (.inr (.inr (.inl (fun j => gd M a j)))))
abbrev mg_tys (D : mg_D) : List (ClassId × FieldType) := [(D.2.2.1 8, .int), (D.2.2.1 9, .object "MergeGrid$Cell"), (D.2.2.1 10, .long), (D.2.2.1 11, .double)]
def mg_A (D : mg_D) : Nat → Prop := fun q => D.2.2.2 ≤ q
def mg_H (D : mg_D) (M : mg_M) (U : State) (H : Heap) : Prop :=
  nx M = H.size ∧ D.2.2.2 ≤ H.size ∧ 0 < D.2.2.2 ∧ (∀ a, 0 < kd M a → kd M a ≤ 11 → va_at (D.1, D.2.1) mg_cl (a, mg_cF D M a) H ∧ D.2.2.2 ≤ a) ∧
  (∀ a, kd M a = 12 → va_X a (ln M a) (fun j => Int32.ofInt (gi M a j)) U H ∧ a < D.2.2.2) ∧ (∀ a, kd M a ≤ 12) ∧
  (∀ a k, -2147483648 ≤ gi M a k ∧ gi M a k < 2147483648) ∧ (∀ a k, -9223372036854775808 ≤ gl M a k ∧ gl M a k < 9223372036854775808)
/-! numbers -/
theorem mg_toI {x : Int} (h : -2147483648 ≤ x) (h2 : x < 2147483648) : (Int32.ofInt x).toInt = x := by
  rw [Int32.toInt_ofInt]
  exact Int.bmod_eq_of_le (by simpa using h) (by simpa using h2)
theorem mg_lt {x y : Int} (hx : -2147483648 ≤ x ∧ x < 2147483648) (hy : -2147483648 ≤ y ∧ y < 2147483648) : Int32.ofInt x < Int32.ofInt y ↔ x < y := by
  rw [Int32.lt_iff_toInt_lt, mg_toI hx.1 hx.2, mg_toI hy.1 hy.2]
theorem mg_le {x y : Int} (hx : -2147483648 ≤ x ∧ x < 2147483648) (hy : -2147483648 ≤ y ∧ y < 2147483648) : Int32.ofInt x ≤ Int32.ofInt y ↔ x ≤ y := by
  rw [Int32.le_iff_toInt_le, mg_toI hx.1 hx.2, mg_toI hy.1 hy.2]
theorem mg_eq {x y : Int} (hx : -2147483648 ≤ x ∧ x < 2147483648) (hy : -2147483648 ≤ y ∧ y < 2147483648) : Int32.ofInt x = Int32.ofInt y ↔ x = y := by
  rw [← Int32.toInt_inj, mg_toI hx.1 hx.2, mg_toI hy.1 hy.2]
theorem mg_nI {x : Int} (h : 0 ≤ x) : Int32.ofInt x = nI x.toNat := by
  obtain ⟨n, rfl⟩ : ∃ n : Nat, x = (n : Int) := ⟨x.toNat, by omega⟩
  rw [Int.toNat_natCast]
  exact Int32.ofInt_eq_ofNat
theorem mg_neg {x : Int} (hx : -2147483648 ≤ x ∧ x < 2147483648) (h : 0 ≤ x) : ¬ Int32.ofInt x < 0 := by
  rw [show (0 : Int32) = Int32.ofInt 0 from rfl, mg_lt hx (by omega)]
  omega
theorem mg_clp {x : Int} (hx : -2147483648 ≤ x ∧ x < 2147483648) : (Int32.ofInt x).toNatClampNeg = x.toNat := by
  show (Int32.ofInt x).toInt.toNat = _
  rw [mg_toI hx.1 hx.2]
theorem mg_in {x : Int} {n : Nat} (hx : -2147483648 ≤ x ∧ x < 2147483648) (h : 0 ≤ x) (h2 : x < n) : vp_in (Int32.ofInt x) n := by
  intro q
  rcases q with q | q
  · exact mg_neg hx h q
  · rw [mg_clp hx] at q
    omega
theorem mg_toL {x : Int} (h : -9223372036854775808 ≤ x) (h2 : x < 9223372036854775808) : (Int64.ofInt x).toInt = x := by
  rw [Int64.toInt_ofInt]
  exact Int.bmod_eq_of_le (by simpa using h) (by simpa using h2)
theorem mg_div {x y : Int} (hx : 0 ≤ x ∧ x < 2147483648) (hy : 0 < y ∧ y < 2147483648) : Int32.ofInt x / Int32.ofInt y = Int32.ofInt (x / y) := by
  rw [mg_nI hx.1, mg_nI (by omega : 0 ≤ y), pk_div (by omega) (by omega) (by omega), mg_nI (Int.ediv_nonneg hx.1 (by omega))]
  congr 1
  obtain ⟨a, rfl⟩ : ∃ n : Nat, x = (n : Int) := ⟨x.toNat, by omega⟩
  obtain ⟨b, rfl⟩ : ∃ n : Nat, y = (n : Int) := ⟨y.toNat, by omega⟩
  rw [← Int.natCast_ediv]
  simp only [Int.toNat_natCast]
theorem mg_mod {x y : Int} (hx : 0 ≤ x ∧ x < 2147483648) (hy : 0 < y ∧ y < 2147483648) : Int32.ofInt x - Int32.ofInt x / Int32.ofInt y * Int32.ofInt y = Int32.ofInt (x % y) := by
  rw [mg_nI hx.1, mg_nI (by omega : 0 ≤ y), pk_rem (by omega) (by omega) (by omega), mg_nI (Int.emod_nonneg _ (by omega))]
  congr 1
  obtain ⟨a, rfl⟩ : ∃ n : Nat, x = (n : Int) := ⟨x.toNat, by omega⟩
  obtain ⟨b, rfl⟩ : ∃ n : Nat, y = (n : Int) := ⟨y.toNat, by omega⟩
  rw [← Int.natCast_emod]
  simp only [Int.toNat_natCast]
theorem mg_bits (x : Int) : (Int32.ofInt x).toBitVec.toNat = (x % 4294967296).toNat := by
  rw [Int32.toBitVec_ofInt, BitVec.toNat_ofInt]
  rfl
theorem mg_and (x : Int) : Int32.ofInt x &&& Int32.ofInt 63 = Int32.ofInt (x % 64) := by
  rw [pk_and (m := Int32.ofInt 63) _ 6 (by decide), mg_bits, mg_nI (by omega)]
  congr 1
  omega
theorem mg_chr (x : Int) : ((Int32.ofInt x).toUInt32 % 65536).toInt32 = Int32.ofInt (x % 65536) := by
  rw [pk_char, mg_bits, mg_nI (by omega)]
  congr 1
  omega
theorem mg_i2l {x : Int} (hx : -2147483648 ≤ x ∧ x < 2147483648) : (Int32.ofInt x).toInt64 = Int64.ofInt x := by
  apply Int64.toInt_inj.mp
  rw [Int32.toInt_toInt64, mg_toI hx.1 hx.2, mg_toL (by omega) (by omega)]
theorem mg_l2i {x : Int} (hx : -2147483648 ≤ x ∧ x < 2147483648) : (Int64.ofInt x).toInt32 = Int32.ofInt x := by
  rw [← mg_i2l hx]
  simp
theorem mg_lcmp {x y : Int} (hx : -9223372036854775808 ≤ x ∧ x < 9223372036854775808) (hy : -9223372036854775808 ≤ y ∧ y < 9223372036854775808) : lg_cmp (Int64.ofInt x) (Int64.ofInt y) = Int32.ofInt (if x < y then -1 else if x = y then 0 else 1) := by
  have h1 : Int64.ofInt y < Int64.ofInt x ↔ y < x := by rw [Int64.lt_iff_toInt_lt, mg_toL hx.1 hx.2, mg_toL hy.1 hy.2]
  have h2 : Int64.ofInt x = Int64.ofInt y ↔ x = y := by rw [← Int64.toInt_inj, mg_toL hx.1 hx.2, mg_toL hy.1 hy.2]
  unfold lg_cmp
  simp only [gt_iff_lt, h1, h2]
  rcases Int.lt_trichotomy x y with h | h | h
  · rw [if_neg (by omega), if_neg (by omega), if_pos h]; rfl
  · rw [if_neg (by omega), if_pos h, if_neg (by omega), if_pos h]; rfl
  · rw [if_pos h, if_neg (by omega), if_neg (by omega)]; rfl
