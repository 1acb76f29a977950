/-! the walk of a whole method; a method's contract out of its walk -/
theorem mg_seekS {l : List mg_E} {pc : Nat} {k : Nat → Instr → Nat → Nat → Nat → Nat → Nat → Prop} (h : mg_seek l pc k) : ∃ e ∈ l, e.1 = pc ∧ k e.2.1 e.2.2.1.1 e.2.2.1.2 e.2.2.2.1 e.2.2.2.2.1 e.2.2.2.2.2.1 e.2.2.2.2.2.2 := by
  induction l with
  | nil => exact h.elim
  | cons e l ih =>
    obtain ⟨pc', nn, ⟨i, len⟩, a, b, c, d⟩ := e
    unfold mg_seek at h
    cases he : Nat.beq pc' pc with
    | true => rw [he] at h; exact ⟨_, List.mem_cons_self, Nat.eq_of_beq_eq_true he, h⟩
    | false =>
      rw [he] at h
      obtain ⟨e', h1, h2⟩ := ih h
      exact ⟨e', List.mem_cons_of_mem _ h1, h2⟩
theorem mg_cutS {l : List (Nat × List Nat)} {pc : Nat} {k : List Nat → Prop} {n : Prop} (h : mg_cut l pc k n) : (∃ live, k live) ∨ n := by
  induction l with
  | nil => exact Or.inr h
  | cons q l ih =>
    unfold mg_cut at h
    cases he : Nat.beq q.1 pc with
    | true => rw [he] at h; exact Or.inl ⟨_, h⟩
    | false => rw [he] at h; exact ih h
theorem mg_pickS {is : List Nat} {L : mg_L} {k : mg_L → Prop} (h : mg_pick is L k) : ∃ L', (∀ q ∈ L', q ∈ L) ∧ k L' := by
  induction is generalizing k with
  | nil => exact ⟨[], fun q hq => (nomatch hq), h⟩
  | cons i is ih =>
    obtain ⟨v, hv, h⟩ := mg_getS h
    obtain ⟨L', h1, h2⟩ := ih h
    exact ⟨(i, v) :: L', fun q hq => (List.mem_cons.mp hq).elim (fun e => e ▸ hv) (h1 q), h2⟩
theorem mg_Fr.sub {ls : Array Slot} {nL : Nat} {L L' : mg_L} (h : mg_Fr ls nL L) (hs : ∀ q ∈ L', q ∈ L) : mg_Fr ls nL L' :=
  ⟨⟨h.1.1, h.1.2.1, fun q hq => by obtain ⟨q0, h0, rfl⟩ := List.mem_map.mp hq; exact h.1.2.2 _ (List.mem_map.mpr ⟨q0, hs _ h0, rfl⟩)⟩, fun q hq => h.2 q (hs q hq)⟩
theorem mg_handN {hs : List (Nat × Nat × Nat × Nat)} {pc x : Nat} {k : Nat → Prop} {n n' : Prop} (h : mg_hand hs pc x k n) (hn : n → n') : mg_hand hs pc x k n' := by
  induction hs with
  | nil => exact hn h
  | cons q hs ih =>
    obtain ⟨a, b, t, c⟩ := q
    unfold mg_hand at h ⊢
    cases hb : ((Nat.ble a pc && Nat.blt pc b) && Nat.beq c x) with
    | true => rw [hb] at h; exact h
    | false => rw [hb] at h; exact ih h
theorem mg_tabEq : ∀ (hs hh : List (Nat × Nat × Nat × Nat)), hs.length = hh.length → (∀ z ∈ hs.zip hh, z.1.1 = z.2.1 ∧ z.1.2.1 = z.2.2.1 ∧ z.1.2.2.1 = z.2.2.2.1) → tableOf hh = (hs.zip (hh.map fun z => z.2.2.2)).map (fun z => (⟨z.1.1, z.1.2.1, z.1.2.2.1, z.2⟩ : ExceptionTableEntry))
  | [], [], _, _ => rfl
  | a :: hs, b :: hh, h, hz => by
    have ih := mg_tabEq hs hh (Nat.succ.inj h) (fun z hz9 => hz z (List.mem_cons_of_mem _ hz9))
    obtain ⟨h1, h2, h3⟩ := hz (a, b) List.mem_cons_self
    dsimp only at h1 h2 h3
    unfold tableOf at ih ⊢
    rw [List.map_cons, List.map_cons, List.zip_cons_cons, List.map_cons, ih, h1, h2, h3]
  | [], _ :: _, h, _ => by cases h
  | _ :: _, [], h, _ => by cases h
section MGM
variable {p : Program} {l : Launch} {e : Env} {R : Room} {s : State} {m : MethodId} {args : Array Value} {below : List Frame} {meth : Method} {c : Code} {Q : State → Prop} {D : mg_D} {nL AC AS : Nat} {cc : ByteArray} {o dp : Nat} {ini nh : Bool} {C : mg_C}
theorem mg_evS (Cx : mg_cx p l R s m args meth c D nL AC AS cc (mg_R o) dp) (hini : ini = true → meth.name = "<init>") {Q0 : mg_O} {Xo : mg_X}
    (HR : ∀ {pc : Nat} {i : Instr} {L : mg_L} {st : List mg_V} {M : mg_M} {B : Nat}, decode cc pc = .ok (i, 1) → mg_rt C.2.2.2.1.1 i st (fun v => Q0 v M) → mg_G p l e R s m args below meth c Q D nL AC AS pc L st M B)
    (HX : ∀ {x : Nat} {M' : mg_M} {pc : Nat} {L : mg_L} {st : List mg_V} {B : Nat} {H1 : Heap} {locs1 : List Loc} {cells slots : Nat} {ls : Array Slot} {q0 : Nat} {ce : Cell}, 1 ≤ x → x ≤ 6 → mg_hand C.2.2.1 pc x (fun h => ∀ q : Nat, mg_G p l e R s m args below meth c Q D nL AC AS h L [.inr (.inl q)] M' B) (Xo x M') → mg_H D M' s H1 → va_S (mg_A D) s.heap H1 locs1 → mg_Fr ls nL L → (∀ v ∈ st, mg_ok v) → cells + B ≤ AC → slots + 160 * B ≤ AS → H1[q0]? = some ce → ce.vm = .none → s.vm.findClass (mg_ex x) = some ce.cls → vx_W p l e R s m args below meth c H1 locs1 cells slots Q (F0 m pc ls (st.map mg_tv)) q0)
    (HT : ∀ {pc i b c9 k : Nat} {L : mg_L} {st : List mg_V} {M : mg_M} {B : Nat}, nh = true → o = 6 → 6 ≤ dp → (i, b, c9, k) ∈ mg_tp → decode cc pc = .ok (.new i, 3) → decode cc (pc + 3) = .ok (.dup, 1) → (k ≠ 5 ∧ decode cc (pc + 4) = .ok (.ldc b, 2) ∧ decode cc (pc + 6) = .ok (.invokespecial c9, 3) ∧ decode cc (pc + 9) = .ok (.athrow, 1)) ∨ (decode cc (pc + 4) = .ok (.ldc_w b, 3) ∧ decode cc (pc + 7) = .ok (.invokespecial c9, 3) ∧ decode cc (pc + 10) = .ok (.athrow, 1)) → 1 ≤ B ∧ st.length ≤ 4 → (∀ n, nx M ≤ n → Xo k (nxt M n)) → mg_G p l e R s m args below meth c Q D nL AC AS pc L st M B)
    (hall : C.1.all (mg_chkE o ini nL dp nh C cc) = true) :
    ∀ (n : Nat) (fl : Bool) (pc : Nat) (ls : mg_L) (st : List mg_V) (M : mg_M) (B : Nat), mg_ev C (mg_Mt D l) Q0 Xo (mg_G p l e R s m args below meth c Q D nL AC AS) n fl pc ls st M B → mg_G p l e R s m args below meth c Q D nL AC AS pc ls st M B := by
  intro n
  induction n with
  | zero => intro fl pc ls st M B h; exact h.elim
  | succ n ih =>
    intro fl pc ls st M B h
    have go : (mg_seek C.1 pc fun nn i _ a b c9 d => mg_step C (mg_Mt D l) Q0 Xo (fun pc ls st M B => mg_ev C (mg_Mt D l) Q0 Xo (mg_G p l e R s m args below meth c Q D nL AC AS) n true pc ls st M B) pc nn i a b c9 d ls st M B) → mg_G p l e R s m args below meth c Q D nL AC AS pc ls st M B := by
      intro h
      obtain ⟨en, he, rfl, h⟩ := mg_seekS h
      have h9 := List.all_eq_true.mp hall en he
      unfold mg_chkE at h9
      rw [Bool.and_eq_true, Bool.and_eq_true, decide_eq_true_eq, Nat.beq_eq] at h9
      obtain ⟨⟨h1, h2⟩, h3⟩ := h9
      rw [h1] at h
      exact mg_stepS Cx hini HR HX HT (fun pc ls st M B h => ih true pc ls st M B h) h2 h3 h
    unfold mg_ev at h
    cases fl with
    | false => exact go h
    | true =>
      rcases mg_cutS h with ⟨live, h⟩ | h
      · obtain ⟨L', h1, h2⟩ := mg_pickS h
        intro H locs cells slots ls9 hH hS hF
        exact h2 H locs cells slots ls9 hH hS (hF.sub h1)
      · exact go h
end MGM
/-- the locals with which a method begins -/
def mg_ent : Nat → List mg_V → mg_L
  | _, [] => []
  | i, v :: vs => (i, v) :: mg_ent (bif mg_cat2 v then i + 2 else i + 1) vs
theorem mg_entS (i : Nat) (vs : List mg_V) : (mg_ent i vs).map (fun q => (q.1, mg_tv q.2)) = lv_args i (vs.map mg_tv) := by
  induction vs generalizing i with
  | nil => rfl
  | cons v vs ih =>
    have hc := mg_cat v
    unfold mg_ent
    rw [List.map_cons, List.map_cons, lv_args, ih]
    cases hv : mg_cat2 v with
    | true => rw [hv] at hc; rw [if_pos (by rw [hc]; rfl)]; rfl
    | false => rw [hv] at hc; rw [if_neg (by rw [hc]; decide)]; rfl
theorem mg_entO (i : Nat) (vs : List mg_V) (h : ∀ v ∈ vs, mg_ok v) : ∀ q ∈ mg_ent i vs, mg_ok q.2 := by
  induction vs generalizing i with
  | nil => intro q hq; cases hq
  | cons v vs ih =>
    intro q hq
    rcases List.mem_cons.mp hq with rfl | hq
    · exact h _ List.mem_cons_self
    · exact ih _ (fun w hw => h w (List.mem_cons_of_mem _ hw)) q hq
def mg_chkH (o : Nat) (hs hh : List (Nat × Nat × Nat × Nat)) : Bool := Nat.beq hs.length hh.length && (hh.isEmpty || Nat.beq o 9) && (hs.zip hh).all (fun z => Nat.beq z.1.1 z.2.1 && Nat.beq z.1.2.1 z.2.2.1 && Nat.beq z.1.2.2.1 z.2.2.2.1 && decide (1 ≤ z.1.2.2.2 ∧ z.1.2.2.2 ≤ 6 ∧ z.2.2.2.2 ≠ 0 ∧ (z.2.2.2.2, z.1.2.2.2) ∈ mg_hp))
/-- the check of a method's decoded code against the table of methods -/
def mg_chkM (y : Nat) (C : mg_C) : Bool := match mg_mt[y - 1]? with
  | some q => decide (q.1.cls = mg_R C.2.2.2.1.2) && Nat.beq (mg_rk q.2.2.2.1) C.2.2.2.1.1 && mg_chkH C.2.2.2.1.2 C.2.2.1 q.2.2.2.2.1 && decide (mg_N 1 ≤ 4) && C.1.all (mg_chkE C.2.2.2.1.2 (decide (q.1.name = "<init>")) q.2.2.1 q.2.2.2.2.2.1 q.2.2.2.2.1.isEmpty C q.2.1)
  | none => false
def mg_slots (vs : List mg_V) : Nat := (vs.map fun v => bif mg_cat2 v then 2 else 1).sum
theorem mg_slotsS (vs : List mg_V) : (lg_sl (vs.map mg_tv)).length = mg_slots vs := by
  unfold lg_sl mg_slots
  induction vs with
  | nil => rfl
  | cons v vs ih =>
    have hc := mg_cat v
    rw [List.map_cons, List.flatMap_cons, List.length_append, ih, List.map_cons, List.sum_cons]
    cases hv : mg_cat2 v with
    | true => rw [hv] at hc; rw [if_pos (by rw [hc]; rfl)]; rfl
    | false => rw [hv] at hc; rw [if_neg (by rw [hc]; decide)]; rfl
theorem mg_of {D : mg_D} {l : Launch} (hl : l.stackTraces = false) {y : Nat} {C : mg_C} (hok : mg_chkM y C = true) {as : List mg_V} {M : mg_M} {N : mg_O} {X : mg_X} (hsl : ∀ q, mg_mt[y - 1]? = some q → mg_slots as ≤ q.2.2.1)
    (h : ∀ K : mg_K, (∀ pc ls st M B, mg_ev C (mg_Mt D l) N X K 1000 false pc ls st M B → K pc ls st M B) → ∀ q, mg_mt[y - 1]? = some q → K 0 (mg_ent 0 as) [] M q.2.2.2.2.2.2.1) : mg_Mt D l y as M N X := by
  unfold mg_chkM at hok
  cases hq : mg_mt[y - 1]? with
  | none => rw [hq] at hok; cases hok
  | some q =>
    rw [hq] at hok
    simp only [Bool.and_eq_true, decide_eq_true_eq, Nat.beq_eq] at hok
    obtain ⟨⟨⟨⟨c1, c2⟩, c3⟩, -⟩, c4⟩ := hok
    have hqok := mg_mok q (List.mem_of_getElem? hq)
    have hsl1 := hsl q hq
    refine ⟨q, hq, ?_⟩
    have body : ∀ (p : Program) (e : Env) (s : State) (m : MethodId) (args : Array Value) (below : List Frame) (meth : Method) (c : Code) (s₁ : State), BodyLoose p l q.1 (headSpec (mg_cw q :: mg_T) (mg_rm q)) q.2.1 q.2.2.1 q.2.2.2.1 e s m args below meth c s₁ → c.maxLocals = q.2.2.1 →
        (∀ z ∈ c.exceptionTable.toList, z ∈ tableOf q.2.2.2.2.1) → c.exceptionTable.toList = tableOf q.2.2.2.2.1 → mg_Pc D as M args s → W p l e (headSpec (mg_cw q :: mg_T) (mg_rm q)).room s m args below meth c s.heap [] 0 0 (vx_MQ below (mg_Qc D N) (mg_XC D X) args s q.2.2.2.2.2.2.1 (160 * q.2.2.2.2.2.2.1) (mg_A D)) (entryFrame m args q.2.2.1) := by
      intro p e s m args below meth c s₁ B hml htb htb2 hv
      obtain ⟨rfl, hoks, hK, hWw, hH, hZ⟩ := hv
      have hts0 := atoms_spec (ws := mg_cw q :: mg_T) B.pre
      have hts : ∀ w ∈ mg_T, w.before (as.map mg_tv).toArray s = true := fun w hw => hts0 w (List.mem_cons_of_mem _ hw)
      have hown : s.vm.findClass (mg_R C.2.2.2.1.2) = some m.cls := by rw [← c1]; exact findClass_of_methodNamed B.named
      have Cx : mg_cx p l (mg_rm q) s m (as.map mg_tv).toArray meth c D q.2.2.1 q.2.2.2.2.2.2.1 (160 * q.2.2.2.2.2.2.1) q.2.1 (mg_R C.2.2.2.1.2) q.2.2.2.2.2.1 :=
        ⟨B.exec, B.bytes, hml, hts, hown, hK, hWw, hZ, Nat.le_refl _, Nat.le_refl _, B.notSynchronized, hl, Nat.le_refl _, Nat.le_refl _, hH.2.1⟩
      have hini : decide (q.1.name = "<init>") = true → meth.name = "<init>" := fun h9 => ((name_of_methodNamed B.named B.method).1).trans (of_decide_eq_true h9)
      have hS0 : va_S (mg_A D) s.heap s.heap [] := va_S.rf
      have hl9 := lv_entry (as.map mg_tv) (n := q.2.2.1) (by rw [mg_slotsS]; exact hsl1)
      rw [lg_entry_eq]
      generalize (lg_sl (as.map mg_tv) ++ List.replicate (q.2.2.1 - (lg_sl (as.map mg_tv)).length) Slot.unset).toArray = ls at hl9 ⊢
      have hF : mg_Fr ls q.2.2.1 (mg_ent 0 as) := ⟨by rw [mg_entS]; exact hl9, mg_entO 0 as hoks⟩
      have hG := h (mg_G p l e (mg_rm q) s m (as.map mg_tv).toArray below meth c (vx_MQ below (mg_Qc D N) (mg_XC D X) (as.map mg_tv).toArray s q.2.2.2.2.2.2.1 (160 * q.2.2.2.2.2.2.1) (mg_A D)) D q.2.2.1 q.2.2.2.2.2.2.1 (160 * q.2.2.2.2.2.2.1)) (fun pc ls st M B9 h9 => mg_evS Cx hini
        (fun hd hr => gs_ret Cx (by rw [B.returns]; exact c2) hd hr)
        (fun {x M' pc L st B9 H1 locs1 cells slots ls q0 ce} x1 x6 hh hH1 hS1 hF1 hst1 hc hs hce hcv hcl => by
          have hcast : va_Nw (.castable (mg_ex x) (mg_ex x)) s := hWw.1 _ (by rcases mg_exs x1 x6 with rfl | rfl | rfl | rfl | rfl | rfl <;> decide)
          have hnc := hWw.2.2.2.2.1
          unfold mg_chkH at c3
          simp only [Bool.and_eq_true, Nat.beq_eq, List.all_eq_true, decide_eq_true_eq, Bool.or_eq_true] at c3
          obtain ⟨⟨l1, l2⟩, l3⟩ := c3
          have l3' : ∀ z ∈ C.2.2.1.zip q.2.2.2.2.1, z.1.1 = z.2.1 ∧ z.1.2.1 = z.2.2.1 ∧ z.1.2.2.1 = z.2.2.2.1 ∧ 1 ≤ z.1.2.2.2 ∧ z.1.2.2.2 ≤ 6 ∧ z.2.2.2.2 ≠ 0 ∧ (z.2.2.2.2, z.1.2.2.2) ∈ mg_hp := fun z hz => by
            have := l3 z hz
            exact ⟨this.1.1.1, this.1.1.2, this.1.2, this.2⟩
          refine gs_hand Cx x1 x6 hH1 hS1 hF1 hc hs hce hcv hcl hcast hnc C.2.2.1 (q.2.2.2.2.1.map fun z => z.2.2.2) [] ?_ (by rw [List.length_map]; exact l1) ?_ (fun z hz => (nomatch hz)) (mg_handN hh (fun hX _ hpass => ?_))
          · rw [List.nil_append, htb2]
            exact mg_tabEq _ _ l1 (fun z hz => ⟨(l3' z hz).1, (l3' z hz).2.1, (l3' z hz).2.2.1⟩)
          · intro z hz
            rw [List.zip_map_right] at hz
            obtain ⟨z', hz', rfl⟩ := List.mem_map.mp hz
            obtain ⟨-, -, -, g1, g2, g3, g4⟩ := l3' z' hz'
            refine ⟨g1, g2, g3, ?_⟩
            have ho : C.2.2.2.1.2 = 9 := by
              rcases l2 with l2 | l2
              · rw [List.isEmpty_iff.mp l2] at hz'
                rw [List.zip_nil_right] at hz'
                cases hz'
              · exact l2
            rw [ho]
            exact hts _ (mg_filt (mg_memf mg_hpk _ g4) (List.all_eq_true.mp mg_hpg _ g4))
          · exact vx_outP hown B.notSynchronized hpass hce hcv hcl (fun t ht hal => ⟨⟨x, M', rfl, x1, x6, hX, by rw [ht]; exact hH1.moved hal⟩, hS1.F ht⟩) hS1.2.2 (by omega) (by omega))
        (fun {pc i b c9 k L st M B9} n1 n0 n2 n3 n4 n5 n6 n7 n8 => by
          have t1 := List.all_eq_true.mp mg_tps _ n3
          simp only [Bool.and_eq_true, decide_eq_true_eq] at t1
          obtain ⟨tx, htx, hb9⟩ := List.mem_map.mp t1.1
          obtain ⟨b', text⟩ := tx
          dsimp only at hb9
          subst hb9
          have hk1 : 1 ≤ k ∧ k ≤ 6 := by omega
          have Cx6 := Cx
          rw [n0] at Cx6
          refine gs_throw Cx6 (fun z hz => ?_) n2 hk1.1 hk1.2 (mg_filt (mg_memf mg_tpk _ n3) (List.all_eq_true.mp mg_tpg _ n3)) (mg_exT hk1.1 hk1.2) htx t1.2 n7.1 n7.2 n4 n5 n6 n8
          have := htb z hz
          rw [List.isEmpty_iff.mp n1] at this
          cases this) c4 1000 false pc ls st M B9 h9) q hq
      exact hG s.heap [] 0 0 ls hH hS0 hF (fun v hv => (nomatch hv)) (by omega) (by omega)
    cases hh : q.2.2.2.2.1 with
    | nil =>
      have hcw : mg_cw q = .code q.1 q.2.1 q.2.2.1 q.2.2.2.1 := by unfold mg_cw; rw [hh]
      refine vx_ofW (ws' := mg_T) hqok.2.2.1 (by rw [hcw]) (fun p e s m args below meth c s₁ B hml ht hv => body p e s m args below meth c s₁ B hml (fun z hz => (ht z hz).elim) ?_ hv)
      rw [hh]
      cases ht9 : c.exceptionTable.toList with
      | nil => rfl
      | cons z t => exact (ht z (by rw [ht9]; exact List.mem_cons_self)).elim
    | cons h9 t9 =>
      have hcw : mg_cw q = .codeWith q.1 q.2.1 q.2.2.1 q.2.2.2.1 (h9 :: t9) := by unfold mg_cw; rw [hh]
      refine vx_ofWH (ws' := mg_T) (hh := h9 :: t9) hqok.2.2.1 (by rw [hcw]) (fun p e s m args below meth c s₁ B hml hv => ?_)
      have hts0 := atoms_spec (ws := mg_cw q :: mg_T) B.pre
      have htab : c.exceptionTable.toList = tableOf q.2.2.2.2.1 := by rw [hh]; exact vx_table (x := q.1) B (by rw [← hcw]; exact hts0 _ List.mem_cons_self)
      exact body p e s m args below meth c s₁ B hml (fun z hz => by rw [← htab]; exact hz) htab hv
