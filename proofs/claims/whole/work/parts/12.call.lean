/-! calls, returns, throws -/
theorem mg_popS {n : Nat} {acc st : List mg_V} {k : List mg_V → List mg_V → Prop} (h : mg_pop n acc st k) : ∃ xs rest, xs.length = n ∧ st = xs ++ rest ∧ k (xs.reverse ++ acc) rest := by
  induction n generalizing acc st with
  | zero => exact ⟨[], st, rfl, rfl, h⟩
  | succ n ih =>
    cases st with
    | nil => exact h.elim
    | cons v st =>
      obtain ⟨xs, rest, h1, h2, h3⟩ := ih h
      exact ⟨v :: xs, rest, by rw [List.length_cons, h1], by rw [h2]; rfl, by rw [List.reverse_cons, List.append_assoc]; exact h3⟩
theorem mg_good : ∀ w ∈ mg_T, ∀ {args a' : Array Value} {s U : State}, s.WarmedH U.vm → w.before args s = true → w.before a' U = true := by
  intro w hw args a' s U hW h
  exact word_at hW (good_of_word (List.mem_filter.mp hw).2) h
section MGC2
variable {p : Program} {l : Launch} {e : Env} {R : Room} {s : State} {m : MethodId} {args : Array Value} {below : List Frame} {meth : Method} {c : Code} {Q : State → Prop} {D : mg_D} {nL AC AS : Nat} {cc : ByteArray} {own : String} {dp : Nat} {pc : Nat} {L : mg_L} {st : List mg_V} {M : mg_M} {B : Nat}
theorem mg_callB (C : mg_cx p l R s m args meth c D nL AC AS cc own dp) {i : Nat} {q : mg_Q} (hq : mg_qok q) (hlink : (Cond.methodLink own i q.1).before args s = true) (hh : q.2.2.2.2.1 = []) (hdep : q.2.2.2.2.2.1 < dp) {n : Nat} (hn : ∀ sig, parseMethodDescriptor q.1.desc = some sig → n = sig.parameters.length) :
    CallB R s args own i q.1 q.2.1 q.2.2.1 q.2.2.2.1 (mg_cw q :: mg_T) (mg_rm q) q.2.2.2.2.2.2.1 (160 * q.2.2.2.2.2.2.1) n := by
  obtain ⟨-, -, -, hts, -, -, -, -, -, -, -, -, hf, hl, -⟩ := C
  obtain ⟨q1, q2, q3, q4, q5, q6, q7⟩ := hq
  have hcw : mg_cw q = .code q.1 q.2.1 q.2.2.1 q.2.2.2.1 := by unfold mg_cw; rw [hh]
  refine ⟨rfl, rfl, by show q.2.2.2.2.2.1 + 1 ≤ _; omega, by show 8 + (q.2.2.1 + 11) + 60 * q.2.2.2.2.2.1 ≤ _; omega, fun w hw a' U hW => ?_, by rw [hcw]; exact List.mem_cons_self, by rw [← hcw]; exact hts _ q1, hts _ (q2 _ List.mem_cons_self), q5, hn, hlink⟩
  rcases List.mem_cons.mp hw with rfl | hw
  · exact mg_good _ q1 hW (hts _ q1)
  · exact mg_good _ hw hW (hts _ hw)
theorem gs_callV (C : mg_cx p l R s m args meth c D nL AC AS cc own dp) {i y : Nat} {q : mg_Q} (hq : mg_mt[y - 1]? = some q) (hlink : Cond.methodLink own i q.1 ∈ mg_T) (hh : q.2.2.2.2.1 = []) (hd1 : 1 ≤ q.2.2.2.2.2.2.2.2) (hd7 : q.2.2.2.2.2.2.2.2 ≤ 7) (hdep : q.2.2.2.2.2.1 < dp)
    {r : Nat} {As : List mg_V} (hna : As.length + 1 = q.2.2.2.2.2.2.2.1) (hr : kd M r = q.2.2.2.2.2.2.2.2) (hB : q.2.2.2.2.2.2.1 ≤ B) (hlen : st.length ≤ 4) {N : mg_O} {X : mg_X} (hM : mg_Mt D l y (.inr (.inl r) :: As) M N X) (hdg : decode cc pc = .ok (.invokevirtual i, 3))
    (k : ∀ v M', N v M' → mg_G p l e R s m args below meth c Q D nL AC AS (pc + 3) L (v.toList ++ st) M' (B - q.2.2.2.2.2.2.1))
    (kx : ∀ x M', 1 ≤ x → x ≤ 6 → X x M' → ∀ (H1 : Heap) (locs1 : List Loc) (cells slots : Nat) (ls : Array Slot) (q0 : Nat) (ce : Cell), mg_H D M' s H1 → va_S (mg_A D) s.heap H1 locs1 → mg_Fr ls nL L → (∀ v ∈ st, mg_ok v) → cells + (B - q.2.2.2.2.2.2.1) ≤ AC → slots + 160 * (B - q.2.2.2.2.2.2.1) ≤ AS → H1[q0]? = some ce → ce.vm = .none → s.vm.findClass (mg_ex x) = some ce.cls → vx_W p l e R s m args below meth c H1 locs1 cells slots Q (F0 m pc ls (st.map mg_tv)) q0) :
    mg_G p l e R s m args below meth c Q D nL AC AS pc L (As.reverse ++ .inr (.inl r) :: st) M B := by
  intro H locs cells slots ls hH hS hF hst hc hs
  have hqok := mg_mok q (List.mem_of_getElem? hq)
  obtain ⟨q', hq', hMet⟩ := hM
  cases Option.some.inj (hq'.symm.trans hq)
  have C9 := C
  obtain ⟨hx, hb, hml, hts, hown, hK, hW, hZ, hAC, hAS, -⟩ := C9
  have hstA : ∀ v ∈ (Sum.inr (Sum.inl r) : mg_V) :: As, mg_ok v := fun v hv => hst v (by
    rcases List.mem_cons.mp hv with rfl | hv
    · exact List.mem_append_right _ List.mem_cons_self
    · exact List.mem_append_left _ (List.mem_reverse.mpr hv))
  have hst2 : ∀ v ∈ st, mg_ok v := fun v hv => hst v (List.mem_append_right _ (List.mem_cons_of_mem _ hv))
  have hsum := mg_sum st
  have hrec : q.1.cls = mg_R q.2.2.2.2.2.2.2.2 := by
    rcases hqok.2.2.2.2.2.2 with h | h | h
    · omega
    · exact h.2
    · omega
  have hp4 : ∀ sig, parseMethodDescriptor q.1.desc = some sig → As.length = sig.parameters.length := by
    intro sig hsig
    have := hqok.2.2.2.1
    rw [hsig] at this
    have h0 : Nat.beq q.2.2.2.2.2.2.2.2 0 = false := by
      cases hz : Nat.beq q.2.2.2.2.2.2.2.2 0 with
      | false => rfl
      | true => have := Nat.eq_of_beq_eq_true hz; omega
    rw [h0] at this
    have h1 := Option.some.inj this
    dsimp only [cond] at h1
    omega
  have hw2 : ∀ w ∈ [Cond.instanceMethod q.1, Cond.selects q.1.cls q.1 q.1], w ∈ mg_T := by
    have h2 := hqok.2.1
    have h0 : Nat.beq q.2.2.2.2.2.2.2.2 0 = false := by
      cases hz : Nat.beq q.2.2.2.2.2.2.2.2 0 with
      | false => rfl
      | true => have := Nat.eq_of_beq_eq_true hz; omega
    have h3 : Nat.blt q.2.2.2.2.2.2.2.2 100 = true := Nat.ble_eq_true_of_le (by omega)
    unfold mg_cws at h2
    rw [h0, h3] at h2
    intro w hw
    exact h2 w (List.mem_cons_of_mem _ hw)
  obtain ⟨f1, f2⟩ := hH.2.2.2.1 r (by omega) (by omega)
  have f3 : mg_cF D M r = .inr (q.2.2.2.2.2.2.2.2 - 1, mg_fs M r q.2.2.2.2.2.2.2.2) := by unfold mg_cF; rw [hr, if_pos hd7]
  rw [f3] at f1
  have hrun := vx_runV (meth := meth) (e := e) (below := below) (H := H) (locs := locs) (cells := cells) (slots := slots) (R := R) (C := q.1.cls) (b := r) (As := As.map mg_tv) (rest := st.map mg_tv) (g := F0 m pc ls (((As.reverse ++ .inr (.inl r) :: st)).map mg_tv)) ⟨hx, hb, hml, hown, hts⟩ hMet
    ⟨mg_callB C hqok (hts _ hlink) hh hdep hp4, hts _ (hw2 _ List.mem_cons_self), hts _ (hw2 _ (List.mem_cons_of_mem _ List.mem_cons_self))⟩
    ⟨mg_blind, by rw [hrec]; exact va_recv (q0 := 0) hK (mg_P1 f1) (mg_clk hd1 hd7) rfl, fun U hU hWU => ⟨rfl, hstA, mg_rp C hH hS hU hWU⟩⟩
    rfl (by rw [List.length_map]) hF.1.1 (by simp [List.map_append, List.map_reverse, mg_tv]) (lv_room (by omega)) hdg ⟨by omega, by omega⟩
  exact mg_after C hH hS hF hst2 hB hc hs hrun k (fun x M' x1 x6 hX H1 locs1 q0 ce g1 g2 g3 g4 g5 => kx x M' x1 x6 hX H1 locs1 _ _ ls q0 ce g1 g2 hF hst2 (by omega) (by omega) g3 g4 g5)
theorem gs_callI (C : mg_cx p l R s m args meth c D nL AC AS cc own dp) {i y : Nat} {q : mg_Q} (hq : mg_mt[y - 1]? = some q) (hlink : Cond.methodLink own i q.1 ∈ mg_T ∨ ((own, i, q.1) ∈ mg_nwN)) (hh : q.2.2.2.2.1 = []) (hd1 : 100 ≤ q.2.2.2.2.2.2.2.2) (hdep : q.2.2.2.2.2.1 < dp)
    {r : Nat} {As : List mg_V} (hna : As.length + 1 = q.2.2.2.2.2.2.2.1) (hB : q.2.2.2.2.2.2.1 ≤ B) (hlen : st.length ≤ 4) {N : mg_O} {X : mg_X} (hM : mg_Mt D l y (.inr (.inl r) :: As) M N X) (hdg : decode cc pc = .ok (.invokespecial i, 3))
    (k : ∀ v M', N v M' → mg_G p l e R s m args below meth c Q D nL AC AS (pc + 3) L (v.toList ++ st) M' (B - q.2.2.2.2.2.2.1))
    (kx : ∀ x M', 1 ≤ x → x ≤ 6 → X x M' → ∀ (H1 : Heap) (locs1 : List Loc) (cells slots : Nat) (ls : Array Slot) (q0 : Nat) (ce : Cell), mg_H D M' s H1 → va_S (mg_A D) s.heap H1 locs1 → mg_Fr ls nL L → (∀ v ∈ st, mg_ok v) → cells + (B - q.2.2.2.2.2.2.1) ≤ AC → slots + 160 * (B - q.2.2.2.2.2.2.1) ≤ AS → H1[q0]? = some ce → ce.vm = .none → s.vm.findClass (mg_ex x) = some ce.cls → vx_W p l e R s m args below meth c H1 locs1 cells slots Q (F0 m pc ls (st.map mg_tv)) q0) :
    mg_G p l e R s m args below meth c Q D nL AC AS pc L (As.reverse ++ .inr (.inl r) :: st) M B := by
  intro H locs cells slots ls hH hS hF hst hc hs
  have hqok := mg_mok q (List.mem_of_getElem? hq)
  obtain ⟨q', hq', hMet⟩ := hM
  cases Option.some.inj (hq'.symm.trans hq)
  have C9 := C
  obtain ⟨hx, hb, hml, hts, hown, hK, hW, hZ, hAC, hAS, -, -, hRf, hRl, -⟩ := C9
  have hstA : ∀ v ∈ (Sum.inr (Sum.inl r) : mg_V) :: As, mg_ok v := fun v hv => hst v (by
    rcases List.mem_cons.mp hv with rfl | hv
    · exact List.mem_append_right _ List.mem_cons_self
    · exact List.mem_append_left _ (List.mem_reverse.mpr hv))
  have hst2 : ∀ v ∈ st, mg_ok v := fun v hv => hst v (List.mem_append_right _ (List.mem_cons_of_mem _ hv))
  have hsum := mg_sum st
  have hrec : q.1.name = "<init>" ∧ q.2.2.2.1 = none := by
    rcases hqok.2.2.2.2.2.2 with h | h | h
    · omega
    · omega
    · exact h.2.2
  have h0 : Nat.beq q.2.2.2.2.2.2.2.2 0 = false := by
    cases hz : Nat.beq q.2.2.2.2.2.2.2.2 0 with
    | false => rfl
    | true => have := Nat.eq_of_beq_eq_true hz; omega
  have hp4 : ∀ sig, parseMethodDescriptor q.1.desc = some sig → As.length = sig.parameters.length := by
    intro sig hsig
    have := hqok.2.2.2.1
    rw [hsig, h0] at this
    have h1 := Option.some.inj this
    dsimp only [cond] at h1
    omega
  have hw2 : Cond.instanceMethod q.1 ∈ mg_T := by
    have h2 := hqok.2.1
    have h3 : Nat.blt q.2.2.2.2.2.2.2.2 100 = false := by
      cases hz : Nat.blt q.2.2.2.2.2.2.2.2 100 with
      | false => rfl
      | true => have := Nat.le_of_ble_eq_true hz; omega
    unfold mg_cws at h2
    rw [h0, h3] at h2
    exact h2 _ (List.mem_cons_of_mem _ List.mem_cons_self)
  have hpre : PreS s H (mg_Pc D (.inr (.inl r) :: As) M) (.ref r :: As.map mg_tv) := ⟨mg_blind, fun U hU hWU => ⟨rfl, hstA, mg_rp C hH hS hU hWU⟩⟩
  have hrun : vx_Run p l e R s m args below meth c H locs cells slots q.2.2.2.2.2.2.1 (160 * q.2.2.2.2.2.2.1) (F0 m pc ls (((As.reverse ++ .inr (.inl r) :: st)).map mg_tv)) (st.map mg_tv) (mg_Qc D N (Value.ref r :: As.map mg_tv).toArray) (mg_XC D X) (mg_A D) := by
    rcases hlink with hlink | hlink
    · have cb := mg_callB C hqok (hts _ hlink) hh hdep hp4
      rw [hrec.2] at cb
      exact vx_runI ⟨hx, hb, hml, hown, hts⟩ hMet ⟨cb, hrec.1, hts _ hw2⟩ hpre rfl (by rw [List.length_map]) hF.1.1 (by simp [List.map_append, List.map_reverse, mg_tv]) (lv_room (by omega)) hdg ⟨by omega, by omega⟩
    · have hcw : mg_cw q = .code q.1 q.2.1 q.2.2.1 none := by unfold mg_cw; rw [hh, hrec.2]
      obtain ⟨q1, q2, q3, q4, q5, q6, q7⟩ := hqok
      refine vx_runIN (host := "MergeGrid") (bytes := q.2.1) (maxL := q.2.2.1) ⟨hx, hb, hml, hown, hts⟩ hMet ⟨⟨⟨rfl, rfl, by show q.2.2.2.2.2.1 + 1 ≤ _; omega, by show 8 + (q.2.2.1 + 11) + 60 * q.2.2.2.2.2.1 ≤ _; omega, fun w hw a' U hW => ?_, by rw [hcw]; exact List.mem_cons_self⟩, by rw [← hcw]; exact hts _ q1, hts _ (q2 _ List.mem_cons_self), q5, hp4, va_Nw.use rfl (hW.2.1 _ hlink)⟩, hrec.1, hts _ hw2⟩ hpre rfl (by rw [List.length_map]) hF.1.1 (by simp [List.map_append, List.map_reverse, mg_tv]) (lv_room (by omega)) hdg ⟨by omega, by omega⟩
      rcases List.mem_cons.mp hw with rfl | hw
      · exact mg_good _ q1 hW (hts _ q1)
      · exact mg_good _ hw hW (hts _ hw)
  exact mg_after C hH hS hF hst2 hB hc hs hrun k (fun x M' x1 x6 hX H1 locs1 q0 ce g1 g2 g3 g4 g5 => kx x M' x1 x6 hX H1 locs1 _ _ ls q0 ce g1 g2 hF hst2 (by omega) (by omega) g3 g4 g5)
theorem gs_callS (C : mg_cx p l R s m args meth c D nL AC AS cc own dp) {i y : Nat} {q : mg_Q} (hq : mg_mt[y - 1]? = some q) (hlink : Cond.methodLink own i q.1 ∈ mg_T) (hd1 : q.2.2.2.2.2.2.2.2 = 0) (hdep : q.2.2.2.2.2.1 < dp)
    {As : List mg_V} (hna : As.length = q.2.2.2.2.2.2.2.1) (hB : q.2.2.2.2.2.2.1 ≤ B) (hlen : st.length ≤ 4) {N : mg_O} {X : mg_X} (hM : mg_Mt D l y As M N X) (hdg : decode cc pc = .ok (.invokestatic i, 3))
    (k : ∀ v M', N v M' → mg_G p l e R s m args below meth c Q D nL AC AS (pc + 3) L (v.toList ++ st) M' (B - q.2.2.2.2.2.2.1))
    (kx : ∀ x M', 1 ≤ x → x ≤ 6 → X x M' → ∀ (H1 : Heap) (locs1 : List Loc) (cells slots : Nat) (ls : Array Slot) (q0 : Nat) (ce : Cell), mg_H D M' s H1 → va_S (mg_A D) s.heap H1 locs1 → mg_Fr ls nL L → (∀ v ∈ st, mg_ok v) → cells + (B - q.2.2.2.2.2.2.1) ≤ AC → slots + 160 * (B - q.2.2.2.2.2.2.1) ≤ AS → H1[q0]? = some ce → ce.vm = .none → s.vm.findClass (mg_ex x) = some ce.cls → vx_W p l e R s m args below meth c H1 locs1 cells slots Q (F0 m pc ls (st.map mg_tv)) q0) :
    mg_G p l e R s m args below meth c Q D nL AC AS pc L (As.reverse ++ st) M B := by
  intro H locs cells slots ls hH hS hF hst hc hs
  have hqok := mg_mok q (List.mem_of_getElem? hq)
  obtain ⟨q', hq', hMet⟩ := hM
  cases Option.some.inj (hq'.symm.trans hq)
  have C9 := C
  obtain ⟨hx, hb, hml, hts, hown, hK, hW, hZ, hAC, hAS, -, -, hRf, hRl, -⟩ := C9
  have hstA : ∀ v ∈ As, mg_ok v := fun v hv => hst v (List.mem_append_left _ (List.mem_reverse.mpr hv))
  have hst2 : ∀ v ∈ st, mg_ok v := fun v hv => hst v (List.mem_append_right _ hv)
  have hsum := mg_sum st
  have hp4 : ∀ sig, parseMethodDescriptor q.1.desc = some sig → As.length = sig.parameters.length := by
    intro sig hsig
    have := hqok.2.2.2.1
    rw [hsig, hd1] at this
    have h1 := Option.some.inj this
    have h1 : sig.parameters.length + 0 = q.2.2.2.2.2.2.2.1 := h1
    omega
  have hw2 : Cond.static q.1 ∈ mg_T := by
    have h2 := hqok.2.1
    unfold mg_cws at h2
    rw [hd1] at h2
    exact h2 _ (List.mem_cons_of_mem _ List.mem_cons_self)
  have hpre : PreS s H (mg_Pc D As M) (As.map mg_tv) := ⟨mg_blind, fun U hU hWU => ⟨rfl, hstA, mg_rp C hH hS hU hWU⟩⟩
  have hrun : vx_Run p l e R s m args below meth c H locs cells slots q.2.2.2.2.2.2.1 (160 * q.2.2.2.2.2.2.1) (F0 m pc ls ((As.reverse ++ st).map mg_tv)) (st.map mg_tv) (mg_Qc D N (As.map mg_tv).toArray) (mg_XC D X) (mg_A D) := by
    cases hh : q.2.2.2.2.1 with
    | nil =>
      exact vx_runS ⟨hx, hb, hml, hown, hts⟩ hMet ⟨mg_callB C hqok (hts _ hlink) hh hdep hp4, hts _ hw2⟩ hpre rfl (by rw [List.length_map]) hF.1.1 (by simp [List.map_append, List.map_reverse]) (lv_room (by omega)) hdg ⟨by omega, by omega⟩
    | cons h t =>
      have hcw : mg_cw q = .codeWith q.1 q.2.1 q.2.2.1 q.2.2.2.1 (h :: t) := by unfold mg_cw; rw [hh]
      obtain ⟨q1, q2, q3, q4, q5, q6, q7⟩ := hqok
      refine vx_runSX (hh := h :: t) (bytes := q.2.1) (maxL := q.2.2.1) (ret := q.2.2.2.1) ⟨hx, hb, hml, hown, hts⟩ hMet ⟨⟨rfl, rfl, by show q.2.2.2.2.2.1 + 1 ≤ _; omega, by show 8 + (q.2.2.1 + 11) + 60 * q.2.2.2.2.2.1 ≤ _; omega, fun w hw a' U hW => ?_, by rw [hcw]; exact List.mem_cons_self⟩, by rw [← hcw]; exact hts _ q1, hts _ (q2 _ List.mem_cons_self), q5, hp4, hts _ hlink, hts _ hw2⟩ hpre rfl (by rw [List.length_map]) hF.1.1 (by simp [List.map_append, List.map_reverse]) (lv_room (by omega)) hdg ⟨by omega, by omega⟩
      rcases List.mem_cons.mp hw with rfl | hw
      · exact mg_good _ q1 hW (hts _ q1)
      · exact mg_good _ hw hW (hts _ hw)
  exact mg_after C hH hS hF hst2 hB hc hs hrun k (fun x M' x1 x6 hX H1 locs1 q0 ce g1 g2 g3 g4 g5 => kx x M' x1 x6 hX H1 locs1 _ _ ls q0 ce g1 g2 hF hst2 (by omega) (by omega) g3 g4 g5)
theorem gs_max (C : mg_cx p l R s m args meth c D nL AC AS cc own dp) (hdp : 2 ≤ dp) {i : Nat} (h1 : Cond.methodLink own i Lib.Math.max.name ∈ mg_T) (h2 : Cond.static Lib.Math.max.name ∈ mg_T) (h3 : Cond.initialized "java/lang/Math" ∈ mg_T) (h4 : Cond.code Lib.Math.max.name Lib.Math.max.code 2 (some .int) ∈ mg_T) {x y : Int} (hlen : st.length ≤ 7) (hdg : decode cc pc = .ok (.invokestatic i, 3))
    (k : mg_G p l e R s m args below meth c Q D nL AC AS (pc + 3) L (.inl (max x y) :: st) M B) : mg_G p l e R s m args below meth c Q D nL AC AS pc L (.inl y :: .inl x :: st) M B := by
  intro H locs cells slots ls hH hS hF hst hc hs
  obtain ⟨hx, hb, hml, hts, hown, hK, hW, hZ, hAC, hAS, -, -, hRf, hRl, -⟩ := C
  refine mg_ok2 hst fun hy hst => mg_ok2 hst fun hx1 hst => ?_
  have hy : -2147483648 ≤ y ∧ y < 2147483648 := hy
  have hx1 : -2147483648 ≤ x ∧ x < 2147483648 := hx1
  have hsum := mg_sum st
  have k2 := k H locs cells slots ls hH hS hF (mg_okc (by show _ ∧ _; omega) hst) hc hs
  refine va_mmax hx hb (hml.trans hF.1.1.symm) hown (hts _ h1) (hts _ h2) (hts _ h3) (hts _ h4) (by omega) (by omega) (by omega) (by omega) hdg ?_
  have e9 : (if Int32.ofInt x < Int32.ofInt y then Int32.ofInt y else Int32.ofInt x) = Int32.ofInt (max x y) := by
    by_cases h : x < y
    · rw [if_pos ((mg_lt hx1 hy).mpr h), Int.max_eq_right (by omega)]
    · rw [if_neg (fun q => h ((mg_lt hx1 hy).mp q)), Int.max_eq_left (by omega)]
  rw [e9]
  exact k2
theorem gs_min (C : mg_cx p l R s m args meth c D nL AC AS cc own dp) (hdp : 2 ≤ dp) {i : Nat} (h1 : Cond.methodLink own i Lib.Math.min.name ∈ mg_T) (h2 : Cond.static Lib.Math.min.name ∈ mg_T) (h3 : Cond.initialized "java/lang/Math" ∈ mg_T) (h4 : Cond.code Lib.Math.min.name Lib.Math.min.code 2 (some .int) ∈ mg_T) {x y : Int} (hlen : st.length ≤ 7) (hdg : decode cc pc = .ok (.invokestatic i, 3))
    (k : mg_G p l e R s m args below meth c Q D nL AC AS (pc + 3) L (.inl (min x y) :: st) M B) : mg_G p l e R s m args below meth c Q D nL AC AS pc L (.inl y :: .inl x :: st) M B := by
  intro H locs cells slots ls hH hS hF hst hc hs
  obtain ⟨hx, hb, hml, hts, hown, hK, hW, hZ, hAC, hAS, -, -, hRf, hRl, -⟩ := C
  refine mg_ok2 hst fun hy hst => mg_ok2 hst fun hx1 hst => ?_
  have hy : -2147483648 ≤ y ∧ y < 2147483648 := hy
  have hx1 : -2147483648 ≤ x ∧ x < 2147483648 := hx1
  have hsum := mg_sum st
  have k2 := k H locs cells slots ls hH hS hF (mg_okc (by show _ ∧ _; omega) hst) hc hs
  refine va_mmin hx hb (hml.trans hF.1.1.symm) hown (hts _ h1) (hts _ h2) (hts _ h3) (hts _ h4) (by omega) (by omega) (by omega) (by omega) hdg ?_
  have e9 : (if Int32.ofInt y < Int32.ofInt x then Int32.ofInt y else Int32.ofInt x) = Int32.ofInt (min x y) := by
    by_cases h : y < x
    · rw [if_pos ((mg_lt hy hx1).mpr h), Int.min_eq_right (by omega)]
    · rw [if_neg (fun q => h ((mg_lt hy hx1).mp q)), Int.min_eq_left (by omega)]
  rw [e9]
  exact k2
theorem gs_oinit (C : mg_cx p l R s m args meth c D nL AC AS cc own dp) (hdp : 2 ≤ dp) {i : Nat} (h1 : Cond.methodLink own i Lib.objectInit ∈ mg_T) (h2 : Cond.instanceMethod Lib.objectInit ∈ mg_T) (h3 : Cond.code Lib.objectInit ⟨#[0xb1]⟩ 1 none ∈ mg_T) {r : Nat} (hlen : st.length ≤ 7) (hdg : decode cc pc = .ok (.invokespecial i, 3))
    (k : mg_G p l e R s m args below meth c Q D nL AC AS (pc + 3) L st M B) : mg_G p l e R s m args below meth c Q D nL AC AS pc L (.inr (.inl r) :: st) M B := by
  intro H locs cells slots ls hH hS hF hst hc hs
  obtain ⟨hx, hb, hml, hts, hown, hK, hW, hZ, hAC, hAS, -, -, hRf, hRl, -⟩ := C
  have hsum := mg_sum st
  have k2 := k H locs cells slots ls hH hS hF (fun w hw => hst w (List.mem_cons_of_mem _ hw)) hc hs
  refine W.objInit hx hb hown (hts _ h1) (hts _ h2) (hts _ h3) rfl (by rw [hml]; exact hF.1.1) rfl hdg (by omega) (by show 2 * 0 + _ + 12 ≤ _; omega) ?_
  exact W.eq (g2 := F0 m (pc + 3) ls (st.map mg_tv)) rfl k2
end MGC2
