/-! returns, handlers, throws of a method -/
/-- what an instruction that returns asks -/
def mg_rt (rk : Nat) (i : Instr) (st : List mg_V) (Q : Option mg_V → Prop) : Prop := match i with
  | .ireturn => match st with
    | [.inl x] => (rk = 1 ∨ rk = 2 ∧ (x = 0 ∨ x = 1)) ∧ Q (some (.inl x))
    | _ => False
  | .areturn => match st with
    | [.inr (.inl x)] => rk = 3 ∧ Q (some (.inr (.inl x)))
    | _ => False
  | .lreturn => match st with
    | [.inr (.inr (.inl x))] => rk = 4 ∧ Q (some (.inr (.inr (.inl x))))
    | _ => False
  | .freturn => match st with
    | [.inr (.inr (.inr (.inr x)))] => rk = 5 ∧ Q (some (.inr (.inr (.inr (.inr x)))))
    | _ => False
  | .dreturn => match st with
    | [.inr (.inr (.inr (.inl x)))] => rk = 6 ∧ Q (some (.inr (.inr (.inr (.inl x)))))
    | _ => False
  | .return_ => match st with
    | [] => rk = 0 ∧ Q none
    | _ => False
  | _ => False
def mg_rk (r : Option FieldType) : Nat := match r with
  | none => 0
  | some .int => 1
  | some .boolean => 2
  | some (.object _) => 3
  | some .long => 4
  | some .float => 5
  | some .double => 6
  | _ => 7
section MGE
variable {p : Program} {l : Launch} {e : Env} {R : Room} {s : State} {m : MethodId} {args : Array Value} {below : List Frame} {meth : Method} {c : Code} {D : mg_D} {nL AC AS : Nat} {cc : ByteArray} {own : String} {dp : Nat} {pc : Nat} {L : mg_L} {st : List mg_V} {M : mg_M} {B : Nat} {N0 : mg_O} {X0 : mg_X}
theorem gs_ret (C : mg_cx p l R s m args meth c D nL AC AS cc own dp) {rk : Nat} (hrk : mg_rk meth.sig.returnType = rk) {i : Instr} (hdg : decode cc pc = .ok (i, 1)) (h : mg_rt rk i st (fun v => N0 v M)) :
    mg_G p l e R s m args below meth c (vx_MQ below (mg_Qc D N0) (mg_XC D X0) args s AC AS (mg_A D)) D nL AC AS pc L st M B := by
  intro H locs cells slots ls hH hS hF hst hc hs
  have C9 := C
  obtain ⟨hx, hb, hml, hts, hown, hK, hW, hZ, hAC, hAS, hlk, -⟩ := C9
  refine vx_ret (W.widen (show cells ≤ AC by omega) (show slots ≤ AS by omega) ?_)
  have hq : ∀ v, N0 v M → (∀ w, v = some w → mg_ok w) → ∀ t : State, t.heap = H → s.WarmedH t.vm → mg_Qc D N0 args s (.returned (v.map mg_tv)) t := fun v hv hok t ht hWt => ⟨⟨v, M, rfl, hv, hok, by rw [ht]; exact hH.moved hWt.alike⟩, hS.F ht⟩
  cases hret : meth.sig.returnType with
  | none =>
    rw [hret] at hrk
    have hrk : rk = 0 := hrk.symm
    subst hrk
    cases i <;> first | exact h.elim | skip
    all_goals (unfold mg_rt at h; dsimp only at h; split at h <;> first | exact h.elim | skip)
    all_goals first
      | exact absurd h.1 (by decide)
      | (rcases h.1 with h1 | ⟨h1, -⟩ <;> exact absurd h1 (by decide))
      | exact W.vret hx hb hret (hq none h.2 (fun w hw => nomatch hw)) hS.2.2 hdg hlk
  | some ty =>
    rw [hret] at hrk
    subst hrk
    cases i <;> first | exact h.elim | skip
    all_goals (unfold mg_rt at h; dsimp only at h; split at h <;> first | exact h.elim | skip)
    all_goals (cases ty <;> first | (exact absurd h.1 (by decide)) | skip)
    all_goals first
      | exact W.iret hx hb hret (hq _ h.2 (fun w hw => by cases hw; exact hst _ List.mem_cons_self)) hS.2.2 hdg hlk
      | exact W.lret hx hb hret (hq _ h.2 (fun w hw => by cases hw; exact hst _ List.mem_cons_self)) hS.2.2 hdg hlk
      | exact W.dret hx hb hret (hq _ h.2 (fun w hw => by cases hw; trivial)) hS.2.2 hdg hlk
      | exact W.fret hx hb hret (hq _ h.2 (fun w hw => by cases hw; trivial)) hS.2.2 hdg hlk
      | exact W.aret hx hb hret (Or.inl ⟨_, rfl⟩) (Or.inr ⟨_, rfl⟩) (hq _ h.2 (fun w hw => by cases hw; exact hst _ List.mem_cons_self)) hS.2.2 hdg hlk
      | skip
    all_goals (
      have h2 := h.2
      rcases h.1 with h1 | ⟨h0, h1⟩ <;> first
        | exact absurd h1 (by decide)
        | exact absurd h0 (by decide)
        | (refine W.zret hx hb hret ?_ (hq _ h2 (fun w hw => by cases hw; exact hst _ List.mem_cons_self)) hS.2.2 hdg hlk
           rcases h1 with rfl | rfl <;> rfl))
/-- what a thrown exception meets in this method: its handlers, or the caller -/
theorem gs_hand (C : mg_cx p l R s m args meth c D nL AC AS cc own dp) {x : Nat} (x1 : 1 ≤ x) (x6 : x ≤ 6) {M' : mg_M} {H1 : Heap} {locs1 : List Loc} {cells slots : Nat} {ls : Array Slot} {q0 : Nat} {ce : Cell} (hH : mg_H D M' s H1) (hS : va_S (mg_A D) s.heap H1 locs1) (hF : mg_Fr ls nL L) (hc : cells + B ≤ AC) (hs : slots + 160 * B ≤ AS) (hce : H1[q0]? = some ce) (hcv : ce.vm = .none) (hcl : s.vm.findClass (mg_ex x) = some ce.cls) {Q : State → Prop} {rest : List Value}
    (hcast : va_Nw (.castable (mg_ex x) (mg_ex x)) s) (hnc : ∀ a b, 1 ≤ a → a ≤ 6 → 1 ≤ b → b ≤ 6 → a ≠ b → va_Nc (mg_ex a) (mg_ex b) s) :
    ∀ (hs0 : List (Nat × Nat × Nat × Nat)) (ct : List Nat) (pre : List ExceptionTableEntry), c.exceptionTable.toList = pre ++ (hs0.zip ct).map (fun z => (⟨z.1.1, z.1.2.1, z.1.2.2.1, z.2⟩ : ExceptionTableEntry)) → hs0.length = ct.length →
      (∀ z ∈ hs0.zip ct, 1 ≤ z.1.2.2.2 ∧ z.1.2.2.2 ≤ 6 ∧ z.2 ≠ 0 ∧ (Cond.classLink own z.2 (mg_ex z.1.2.2.2)).before args s = true) →
      (∀ z ∈ pre, covers z pc = false ∨ (z.catchType ≠ 0 ∧ ∃ nm : String, (Cond.classLink own z.catchType nm).before args s = true ∧ va_Nc (mg_ex x) nm s)) →
      mg_hand hs0 pc x (fun h => ∀ q : Nat, mg_G p l e R s m args below meth c Q D nL AC AS h L [.inr (.inl q)] M' B) (c.exceptionTable.toList = c.exceptionTable.toList → (∀ z ∈ c.exceptionTable.toList, covers z pc = false ∨ (z.catchType ≠ 0 ∧ ∃ nm : String, (Cond.classLink own z.catchType nm).before args s = true ∧ va_Nc (mg_ex x) nm s)) → vx_W p l e R s m args below meth c H1 locs1 cells slots Q (F0 m pc ls rest) q0) →
      vx_W p l e R s m args below meth c H1 locs1 cells slots Q (F0 m pc ls rest) q0 := by
  have C9 := C
  obtain ⟨hx, hb, hml, hts, hown, -⟩ := C9
  intro hs0
  induction hs0 with
  | nil =>
    intro ct pre he hlen hz hpre h
    refine h rfl (fun z hz => hpre z ?_)
    rw [he] at hz
    simpa using hz
  | cons y hs0 ih =>
    intro ct pre he hlen hz hpre h
    obtain ⟨a, b, hp, k⟩ := y
    cases ct with
    | nil => cases hlen
    | cons t ct =>
      have hz0 := hz ((a, b, hp, k), t) List.mem_cons_self
      have he2 : c.exceptionTable.toList = pre ++ (⟨a, b, hp, t⟩ : ExceptionTableEntry) :: ((hs0.zip ct).map (fun z => (⟨z.1.1, z.1.2.1, z.1.2.2.1, z.2⟩ : ExceptionTableEntry))) := he
      have nxt2 : (covers (⟨a, b, hp, t⟩ : ExceptionTableEntry) pc = false ∨ k ≠ x) → mg_hand hs0 pc x (fun h => ∀ q : Nat, mg_G p l e R s m args below meth c Q D nL AC AS h L [.inr (.inl q)] M' B) (c.exceptionTable.toList = c.exceptionTable.toList → (∀ z ∈ c.exceptionTable.toList, covers z pc = false ∨ (z.catchType ≠ 0 ∧ ∃ nm : String, (Cond.classLink own z.catchType nm).before args s = true ∧ va_Nc (mg_ex x) nm s)) → vx_W p l e R s m args below meth c H1 locs1 cells slots Q (F0 m pc ls rest) q0) → vx_W p l e R s m args below meth c H1 locs1 cells slots Q (F0 m pc ls rest) q0 := by
        intro hk h2
        refine ih ct (pre ++ [⟨a, b, hp, t⟩]) (by rw [List.append_assoc]; exact he2) (Nat.succ.inj hlen) (fun z hz9 => hz z (List.mem_cons_of_mem _ hz9)) (fun z hz9 => ?_) h2
        rcases List.mem_append.mp hz9 with h9 | h9
        · exact hpre z h9
        · rw [List.mem_singleton] at h9
          subst h9
          rcases hk with hk | hk
          · exact Or.inl hk
          · exact Or.inr ⟨hz0.2.2.1, _, hz0.2.2.2, hnc x k x1 x6 hz0.1 hz0.2.1 (fun q => hk q.symm)⟩
      unfold mg_hand at h
      cases hcov : (Nat.ble a pc && Nat.blt pc b) with
      | false =>
        rw [hcov, Bool.false_and] at h
        refine nxt2 (Or.inl ?_) h
        rw [Bool.and_eq_false_iff] at hcov
        show (decide (a ≤ pc) && decide (pc < b)) = false
        rw [Bool.and_eq_false_iff]
        rcases hcov with h9 | h9
        · exact Or.inl (decide_eq_false (fun q => by rw [Nat.ble_eq_true_of_le q] at h9; cases h9))
        · exact Or.inr (decide_eq_false (fun q => by rw [show Nat.blt pc b = true from Nat.ble_eq_true_of_le q] at h9; cases h9))
      | true =>
        rw [hcov, Bool.true_and] at h
        have hcv2 : covers (⟨a, b, hp, t⟩ : ExceptionTableEntry) pc = true := by
          rw [Bool.and_eq_true] at hcov
          show (decide (a ≤ pc) && decide (pc < b)) = true
          rw [decide_eq_true (show a ≤ pc from Nat.le_of_ble_eq_true hcov.1), decide_eq_true (show pc < b from Nat.le_of_ble_eq_true hcov.2)]
          rfl
        cases hkx : Nat.beq k x with
        | false =>
          rw [hkx] at h
          exact nxt2 (Or.inr (fun q => by subst q; rw [show Nat.beq k k = true from Nat.beq_refl k] at hkx; cases hkx)) h
        | true =>
          rw [hkx] at h
          have := Nat.eq_of_beq_eq_true hkx
          subst this
          have k2 := h q0 H1 locs1 cells slots ls hH hS hF (mg_okc trivial (fun w hw => nomatch hw)) hc hs
          exact vx_catch hown pre ⟨a, b, hp, t⟩ _ he2 hpre hcv2 hz0.2.2.1 hz0.2.2.2 (va_Nw.use rfl hcast) hce hcv hcl k2
end MGE
