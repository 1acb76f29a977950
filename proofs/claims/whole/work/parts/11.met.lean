/-! the contracts of methods, over the abstract memory -/
theorem mg_memf {α : Type} {L : List α} {f : α → Cond} {ps : List Nat} (h : (L.map fun q => some (f q)) = ps.map (fun i => lw_tbl[i]?)) : ∀ q ∈ L, f q ∈ lw_tbl := by
  intro q hq
  have h1 : some (f q) ∈ ps.map (fun i => lw_tbl[i]?) := by rw [← h]; exact List.mem_map.mpr ⟨q, hq, rfl⟩
  obtain ⟨i, -, hi⟩ := List.mem_map.mp h1
  exact List.mem_of_getElem? hi
theorem mg_memg {α : Type} {L : List α} {f : α → List Cond} {ps : List (List Nat)} (h : (L.map fun q => (f q).map some) = ps.map (fun l => l.map (fun i => lw_tbl[i]?))) : ∀ q ∈ L, ∀ w ∈ f q, w ∈ lw_tbl := by
  intro q hq w hw
  have h1 : (f q).map some ∈ ps.map (fun l => l.map (fun i => lw_tbl[i]?)) := by rw [← h]; exact List.mem_map.mpr ⟨q, hq, rfl⟩
  obtain ⟨l, -, hl⟩ := List.mem_map.mp h1
  have h2 : some w ∈ l.map (fun i => lw_tbl[i]?) := by rw [hl]; exact List.mem_map.mpr ⟨w, hw, rfl⟩
  obtain ⟨i, -, hi⟩ := List.mem_map.mp h2
  exact List.mem_of_getElem? hi
def mg_qok (q : mg_Q) : Prop := mg_cw q ∈ mg_T ∧ (∀ w ∈ mg_cws q, w ∈ mg_T) ∧ plainName q.1.cls = true ∧ (parseMethodDescriptor q.1.desc).map (fun s => s.parameters.length + (bif Nat.beq q.2.2.2.2.2.2.2.2 0 then 0 else 1)) = some q.2.2.2.2.2.2.2.1 ∧ (q.1.cls ≠ "java/lang/invoke/MethodHandle" ∧ q.1.cls ≠ "java/lang/invoke/VarHandle") ∧ q.2.2.1 ≤ 20 ∧
  (q.2.2.2.2.2.2.2.2 = 0 ∨ (q.2.2.2.2.2.2.2.2 < 100 ∧ q.1.cls = mg_R q.2.2.2.2.2.2.2.2) ∨ (100 ≤ q.2.2.2.2.2.2.2.2 ∧ q.1.cls = mg_R (q.2.2.2.2.2.2.2.2 - 100) ∧ q.1.name = "<init>" ∧ q.2.2.2.1 = none))
theorem mg_qok_of {L : List mg_Q} {ps : List Nat} {pl : List (List Nat)} (h1 : (L.map fun q => some (mg_cw q)) = ps.map (fun i => lw_tbl[i]?)) (h2 : (L.map fun q => (mg_cws q).map some) = pl.map (fun l => l.map (fun i => lw_tbl[i]?)))
    (h3 : L.all (fun q => goodWord (mg_cw q) && (mg_cws q).all goodWord && plainName q.1.cls && (decide ((parseMethodDescriptor q.1.desc).map (fun s => s.parameters.length + (bif Nat.beq q.2.2.2.2.2.2.2.2 0 then 0 else 1)) = some q.2.2.2.2.2.2.2.1)) && decide (q.1.cls ≠ "java/lang/invoke/MethodHandle" ∧ q.1.cls ≠ "java/lang/invoke/VarHandle") && decide (q.2.2.1 ≤ 20) && (bif Nat.beq q.2.2.2.2.2.2.2.2 0 then true else bif Nat.blt q.2.2.2.2.2.2.2.2 100 then decide (q.1.cls = mg_R q.2.2.2.2.2.2.2.2) else decide (q.1.cls = mg_R (q.2.2.2.2.2.2.2.2 - 100) ∧ q.1.name = "<init>" ∧ q.2.2.2.1 = none))) = true) : ∀ q ∈ L, mg_qok q := by
  intro q hq
  have g := List.all_eq_true.mp h3 q hq
  simp only [Bool.and_eq_true, decide_eq_true_eq] at g
  obtain ⟨⟨⟨⟨⟨⟨g1, g2⟩, g3⟩, g4⟩, g5⟩, g6⟩, g7⟩ := g
  refine ⟨List.mem_filter.mpr ⟨mg_memf h1 q hq, g1⟩, fun w hw => List.mem_filter.mpr ⟨mg_memg h2 q hq w hw, List.all_eq_true.mp g2 w hw⟩, g3, g4, g5, g6, ?_⟩
  cases hz : Nat.beq q.2.2.2.2.2.2.2.2 0 with
  | true => exact Or.inl (Nat.eq_of_beq_eq_true hz)
  | false =>
    rw [hz] at g7
    refine Or.inr ?_
    cases hy : Nat.blt q.2.2.2.2.2.2.2.2 100 with
    | true =>
      rw [hy] at g7
      exact Or.inl ⟨Nat.le_of_ble_eq_true hy, of_decide_eq_true g7⟩
    | false =>
      rw [hy] at g7
      refine Or.inr ⟨?_, of_decide_eq_true g7⟩
      rcases Nat.lt_or_ge q.2.2.2.2.2.2.2.2 100 with h | h
      · have : Nat.blt q.2.2.2.2.2.2.2.2 100 = true := Nat.ble_eq_true_of_le h
        rw [this] at hy; cases hy
      · exact h
theorem mg_mok : ∀ q ∈ mg_mt, mg_qok q := by
  intro q hq
  simp only [mg_mt, List.mem_append] at hq
  rcases hq with h | h | h | h | h | h | h | h
  · exact mg_qok_of mg_ck0 mg_cl0 mg_cg0 q h
  · exact mg_qok_of mg_ck1 mg_cl1 mg_cg1 q h
  · exact mg_qok_of mg_ck2 mg_cl2 mg_cg2 q h
  · exact mg_qok_of mg_ck3 mg_cl3 mg_cg3 q h
  · exact mg_qok_of mg_ck4 mg_cl4 mg_cg4 q h
  · exact mg_qok_of mg_ck5 mg_cl5 mg_cg5 q h
  · exact mg_qok_of mg_ck6 mg_cl6 mg_cg6 q h
  · exact mg_qok_of mg_ck7 mg_cl7 mg_cg7 q h
/-- what the machine's tables say, beside the good words -/
def mg_W (U : State) : Prop := (∀ x ∈ mg_nwC, va_Nw (.castable x x) U) ∧ (∀ q ∈ mg_nwN, va_Nw (.methodLinkNest q.1 q.2.1 q.2.2 "MergeGrid") U) ∧ (∀ q ∈ mg_str, ∃ sa, vk_R "MergeGrid" q.1 q.2 sa U) ∧ (∀ x ∈ mg_nwD, va_Nw (.declares x) U) ∧
  (∀ a b, 1 ≤ a → a ≤ 6 → 1 ≤ b → b ≤ 6 → a ≠ b → va_Nc (mg_ex a) (mg_ex b) U) ∧ va_AO "MergeGrid$Cell" U
theorem mg_W.warm {s U : State} (hW : s.WarmedH U.vm) (h : mg_W s) : mg_W U :=
  ⟨fun x hx => va_Nw.warmC hW (h.1 x hx), fun q hq => va_Nw.warmM hW (h.2.1 q hq), fun q hq => (h.2.2.1 q hq).imp fun sa hsa => vk_R.warm hW hsa, fun x hx => va_Nw.warmD hW (h.2.2.2.1 x hx), fun a b h1 h2 h3 h4 h5 => va_Nc.moved hW.alike (h.2.2.2.2.1 a b h1 h2 h3 h4 h5), va_AO.moved hW.alike h.2.2.2.2.2⟩
theorem mg_W.same {s U : State} (hv : s.vm = U.vm) (h : mg_W s) : mg_W U :=
  ⟨fun x hx => va_Nw.same rfl hv (h.1 x hx), fun q hq => va_Nw.same rfl hv (h.2.1 q hq), fun q hq => (h.2.2.1 q hq).imp fun sa hsa => vk_R.same hv.symm hsa, fun x hx => va_Nw.same rfl hv (h.2.2.2.1 x hx), fun a b h1 h2 h3 h4 h5 => va_Nc.moved (by rw [hv]; exact Vm.Alike.refl _) (h.2.2.2.2.1 a b h1 h2 h3 h4 h5), va_AO.moved (by rw [hv]; exact Vm.Alike.refl _) h.2.2.2.2.2⟩
def mg_Z (D : mg_D) (U : State) (H : Heap) : Prop := vx_Zq Bundle.tN "UNASSIGNED_STACK" Bundle.steD (mg_A D) U H ∧ vx_Zq Bundle.tN "SUPPRESSED_SENTINEL" Bundle.listD (mg_A D) U H
def mg_Rp (D : mg_D) (M : mg_M) (U : State) : Prop := va_K (D.1, D.2.1) mg_cl (mg_tys D) U ∧ mg_W U ∧ mg_H D M U U.heap ∧ mg_Z D U U.heap
theorem mg_H.moved {D : mg_D} {M : mg_M} {u U : State} {H : Heap} (hvm : u.vm.Alike U.vm) (h : mg_H D M u H) : mg_H D M U H := by
  obtain ⟨g1, g2, g3, g4, g5, g6, g7, g8⟩ := h
  exact ⟨g1, g2, g3, g4, fun a ha => ⟨by obtain ⟨⟨scr, e1, e2, e3⟩, -⟩ := g5 a ha; exact ⟨scr, e1, State.isArrayOf_alike hvm e2, e3⟩, (g5 a ha).2⟩, g6, g7, g8⟩
def mg_Pc (D : mg_D) (as : List mg_V) (M : mg_M) : Array Value → State → Prop := fun v U => v = (as.map mg_tv).toArray ∧ (∀ w ∈ as, mg_ok w) ∧ mg_Rp D M U
def mg_Qc (D : mg_D) (N : mg_O) : Array Value → State → Outcome → State → Prop := fun _ st oc t => (∃ v M', oc = .returned (v.map mg_tv) ∧ N v M' ∧ (∀ w, v = some w → mg_ok w) ∧ mg_H D M' t t.heap) ∧ va_F (mg_A D) st t
def mg_XC (D : mg_D) (X : mg_X) : String → State → State → Prop := fun E st t => (∃ k M', E = mg_ex k ∧ 1 ≤ k ∧ k ≤ 6 ∧ X k M' ∧ mg_H D M' t t.heap) ∧ va_F (mg_A D) st t
def mg_rm (q : mg_Q) : Room := { frames := q.2.2.2.2.2.1, cells := q.2.2.2.2.2.2.1, slots := 160 * q.2.2.2.2.2.2.1, locals := 60 * q.2.2.2.2.2.1 }
/-- the contract of the method numbered y: called with these arguments over this memory it returns so or throws so -/
def mg_Mt (D : mg_D) (l : Launch) (y : Nat) (as : List mg_V) (M : mg_M) (N : mg_O) (X : mg_X) : Prop :=
  ∃ q, mg_mt[y - 1]? = some q ∧ vx_Met l q.1 (mg_cw q :: mg_T) (mg_rm q) (mg_Pc D as M) (mg_Qc D N) (mg_XC D X) q.2.2.2.2.2.2.1 (160 * q.2.2.2.2.2.2.1) (mg_A D)
theorem mg_blind {D : mg_D} {as : List mg_V} {M : mg_M} : FrameBlind (mg_Pc D as M) := by
  intro a U g mk h
  obtain ⟨h1, h2, h3, h4, h5, h6, h7⟩ := h
  exact ⟨h1, h2, va_K.moved (U := U.calling g mk a) (Vm.Alike.refl U.vm) h3, h4.same rfl, mg_H.moved (U := U.calling g mk a) (Vm.Alike.refl U.vm) h5, vx_Zq.moved (U := U.calling g mk a) (Vm.Alike.refl U.vm) h6, vx_Zq.moved (U := U.calling g mk a) (Vm.Alike.refl U.vm) h7⟩
/-- what a walk knows at its entry -/
def mg_cx (p : Program) (l : Launch) (R : Room) (s : State) (m : MethodId) (args : Array Value) (meth : Method) (c : Code) (D : mg_D) (nL AC AS : Nat) (cc : ByteArray) (own : String) (dp : Nat) : Prop :=
  p.tables.exec = Jvm.exec ∧ c.code = cc ∧ c.maxLocals = nL ∧ (∀ w ∈ mg_T, w.before args s = true) ∧ s.vm.findClass own = some m.cls ∧ va_K (D.1, D.2.1) mg_cl (mg_tys D) s ∧ mg_W s ∧ mg_Z D s s.heap ∧ AC ≤ R.cells ∧ AS ≤ R.slots ∧ meth.locks = false ∧ l.stackTraces = false ∧ dp ≤ R.frames ∧ 60 * dp ≤ R.locals ∧ D.2.2.2 ≤ s.heap.size
section MGC
variable {p : Program} {l : Launch} {e : Env} {R : Room} {s : State} {m : MethodId} {args : Array Value} {below : List Frame} {meth : Method} {c : Code} {Q : State → Prop} {D : mg_D} {nL AC AS : Nat} {cc : ByteArray} {own : String} {dp : Nat} {pc : Nat} {L : mg_L} {st : List mg_V} {M : mg_M} {B : Nat}
theorem mg_rp {H : Heap} {locs : List Loc} (C : mg_cx p l R s m args meth c D nL AC AS cc own dp) (hH : mg_H D M s H) (hS : va_S (mg_A D) s.heap H locs) {U : State} (hU : U.heap = H) (hW : s.WarmedH U.vm) : mg_Rp D M U := by
  obtain ⟨-, -, -, -, -, hK, hWw, hZ, -⟩ := C
  refine ⟨va_K.moved hW.alike hK, hWw.warm hW, by rw [hU]; exact hH.moved hW.alike, ?_, ?_⟩
  · rw [hU]; exact (vx_Zq.moved hW.alike hZ.1).kept hS.2.1
  · rw [hU]; exact (vx_Zq.moved hW.alike hZ.2).kept hS.2.1
/-- behind a call that may throw -/
theorem mg_after {N : mg_O} {X : mg_X} {a0 : Nat} {a : Array Value} {H : Heap} {locs : List Loc} {cells slots : Nat} {ls : Array Slot} {st0 : List Value} (C : mg_cx p l R s m args meth c D nL AC AS cc own dp) (hH : mg_H D M s H) (hS : va_S (mg_A D) s.heap H locs)
    (hF : mg_Fr ls nL L) (hst : ∀ v ∈ st, mg_ok v) (ha : a0 ≤ B) (hc : cells + B ≤ AC) (hs : slots + 160 * B ≤ AS)
    (hr : vx_Run p l e R s m args below meth c H locs cells slots a0 (160 * a0) (F0 m pc ls st0) (st.map mg_tv) (mg_Qc D N a) (mg_XC D X) (mg_A D))
    (k : ∀ v M', N v M' → mg_G p l e R s m args below meth c Q D nL AC AS (pc + 3) L (v.toList ++ st) M' (B - a0))
    (kx : ∀ x M', 1 ≤ x → x ≤ 6 → X x M' → ∀ (H1 : Heap) (locs1 : List Loc) (q : Nat) (ce : Cell), mg_H D M' s H1 → va_S (mg_A D) s.heap H1 locs1 → H1[q]? = some ce → ce.vm = .none → s.vm.findClass (mg_ex x) = some ce.cls → vx_W p l e R s m args below meth c H1 locs1 (cells + a0) (slots + 160 * a0) Q (F0 m pc ls (st.map mg_tv)) q) :
    W p l e R s m args below meth c H locs cells slots Q (F0 m pc ls st0) := by
  intro T hT Y
  have hfr : ∀ q, mg_A D q → mg_A D q := fun q h => h
  rcases hr T hT Y with ⟨v, st₀, t, T', L1, h0, X', hL, e1, e2, ⟨⟨v', M', hv, hN, hok, hRp⟩, hFr⟩, stp⟩ | ⟨q, st₀, t, T', L1, E, ce, h0, X', hL, e1, e2, ⟨⟨x, M', hE, x1, x6, hX, hRp⟩, hFr⟩, hce, hcv, hcl, stp⟩
  · have hal : t.vm.Alike s.vm := by rw [← e2]; exact X'.warmed.alike.symm
    obtain ⟨k1, k2, k3⟩ := vx_keep (A1 := mg_A D) h0 e1 hS (fun q _ h => h) hfr hL hFr
    cases hv
    obtain ⟨t2, a1, b1⟩ := k v' M' hN T'.heap (locs ++ L1) (cells + a0) (slots + 160 * a0) ls (by rw [e1]; exact hRp.moved hal) k3 hF (fun w hw => by
      rcases List.mem_append.mp hw with h | h
      · cases v' with
        | none => cases h
        | some z => rw [Option.toList_some, List.mem_singleton] at h; subst h; exact hok _ rfl
      · exact hst w h) (by omega) (by omega) T' rfl X'
    refine ⟨t2, stp t2 ?_, b1⟩
    have e9 : (v'.map mg_tv).toList ++ st.map mg_tv = (v'.toList ++ st).map mg_tv := by cases v' <;> simp
    rw [e9]
    exact a1
  · have hal : t.vm.Alike s.vm := by rw [← e2]; exact X'.warmed.alike.symm
    obtain ⟨k1, k2, k3⟩ := vx_keep (A1 := mg_A D) h0 e1 hS (fun q _ h => h) hfr hL hFr
    subst hE
    obtain ⟨t2, a1, b1⟩ := kx x M' x1 x6 hX T'.heap (locs ++ L1) q ce (by rw [e1]; exact hRp.moved hal) k3 (by rw [e1]; exact hce) hcv hcl T' rfl X'
    exact ⟨t2, stp.trans a1, b1⟩
end MGC
