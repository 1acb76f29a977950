/-! the law's own walk over the machine -/
/-- where the law returns 1 -/
theorem lw_end {p : Program} {l : Launch} {e : Env} {s : State} {m : MethodId} {below : List Frame} {meth : Method} {c : Code} {b : Nat} {D : mg_D} {nL AC AS : Nat} (hx : p.tables.exec = Jvm.exec) (hb : c.code = code) (hr : meth.sig.returnType = ret) (hlk : meth.locks = false) (hD : D.2.2.2 = s.heap.size) (hAC : AC ≤ 603072) (hAS : AS ≤ 7215210) {pc : Nat} {i : Instr} {L : mg_L} {st : List mg_V} {M : mg_M} {B : Nat} (hdg : decode code pc = .ok (i, 1)) (h : mg_rt 2 i st (fun v => v = some (.inl 1))) : mg_G p l e room_1 s m #[Value.ref b] below meth c (lw_Z below #[Value.ref b] s) D nL AC AS pc L st M B := by
  intro H locs cells slots ls hH hS hF hst hc hs
  have k : i = .ireturn ∧ st = [.inl 1] := by
    cases i <;> first | exact h.elim | skip
    all_goals (unfold mg_rt at h; dsimp only at h; split at h <;> first | exact h.elim | skip)
    all_goals first | exact absurd h.1 (by decide) | skip
    obtain ⟨-, h2⟩ := h
    cases h2
    exact ⟨rfl, rfl⟩
  obtain ⟨rfl, rfl⟩ := k
  refine va_forget (fun q hq => ?_) ?_
  · have w := hS.2.2 q hq
    unfold mg_A at w
    omega
  · refine W.widen (k := 603072) (n := 7215210) (by omega) (by omega) ?_
    have e1 : ([Sum.inl 1] : List mg_V).map mg_tv = [Value.int 1] := rfl
    rw [e1]
    exact W.base (lw_ret (fun c => ⟨Nat.le_refl _, fun _ => rfl⟩) hx hb hr hlk hdg)
theorem whole_start0 (FL : mh_FL) {p : Program} {e : Env} {s : State} {m : MethodId} {below : List Frame} {meth : Method} {c : Code} (l : Launch) (hflags : l.flags = flags0) {b L : Nat} {xs : Nat → Int32} (hL : L ≤ 2560) (C0 : lw_At p s m meth c b L xs) : W p l e room_1 s m #[Value.ref b] below meth c s.heap [] 0 0 (lw_Z below #[Value.ref b] s) (entryFrame m ([Value.ref b] : List Value).toArray 10) := by
  obtain ⟨hx, hb, hr, hml, hown, hts, hX, hbl, hlk, hgv⟩ := C0
  have hlst : l.stackTraces = false := by unfold Launch.stackTraces; rw [hflags]; decide
  obtain ⟨D, hD, hK⟩ := mg_K_of hts s.heap.size
  have Cx : mg_cx p l room_1 s m #[Value.ref b] meth c D 10 3000 480000 code (mg_R 9) 10 := ⟨hx, hb, hml, fun w hw => hts w (List.mem_filter.mp hw).1, hown, hK, mg_W_of hts hgv, mg_Z_of hD hts hgv, Nat.le_of_ble_eq_true rfl, Nat.le_of_ble_eq_true rfl, hlk, hlst, Nat.le_of_ble_eq_true rfl, Nat.le_of_ble_eq_true rfl, by omega⟩
  have hl := lv_entry ([.ref b]) (n := 10) (Nat.le_of_ble_eq_true rfl)
  rw [lg_entry_eq]
  generalize (lg_sl ([.ref b]) ++ List.replicate (10 - (lg_sl ([.ref b])).length) Slot.unset).toArray = ls at hl ⊢
  have hF : mg_Fr ls 10 [(0, Sum.inr (Sum.inl b))] := ⟨hl, fun q hq => by rw [List.mem_singleton] at hq; subst hq; trivial⟩
  have hH := mg_H_of hD hX hbl
  have run := lw_run FL hlst (D := D) (N := fun v _ => v = some (.inl 1)) (X₀ := mg_no) (K := mg_G p l e room_1 s m #[Value.ref b] below meth c (lw_Z below #[Value.ref b] s) D 10 3000 480000) (fun pc ls st M B h => mg_evS (C := mc_L_lawb) (Q0 := fun v _ => v = some (.inl 1)) (Xo := mg_no) (o := 9) (dp := 10) (ini := false) (nh := false) Cx (fun h => absurd h (by decide)) (fun hdg hr9 => lw_end (nL := 10) (AC := 3000) (AS := 480000) hx hb hr hlk hD (Nat.le_of_ble_eq_true rfl) (Nat.le_of_ble_eq_true rfl) hdg hr9) (fun x1 x6 hh => (show False from hh).elim) (fun h => absurd h (by decide)) lw_okA 1000 false pc ls st M B h) (fun _ => rfl) (M := mg_M0 s.heap.size b L xs) (s₀ := b) (n₀ := L) (by show (if b = b then 12 else 0) = 12; rw [if_pos rfl]) rfl hL hbl (fun k => hH.2.2.2.2.2.2.1 b k)
  exact run s.heap [] 0 0 ls hH va_S.rf hF (fun v hv => nomatch hv) (Nat.le_of_ble_eq_true rfl) (Nat.le_of_ble_eq_true rfl)
