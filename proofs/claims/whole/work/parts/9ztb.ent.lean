/-! what the statement gives at the law's entry -/
theorem mg_strN : mg_str.all (fun q => decide (Cond.exactly (.string "MergeGrid" q.1) "java/lang/String" ∈ flatC (Jvm.Cond.and given_1 narrow_1))) = true := by decide +kernel
theorem mg_ncN : [1, 2, 3, 4, 5, 6].all (fun a => [1, 2, 3, 4, 5, 6].all (fun b => Nat.beq a b || decide (Cond.not (.castable (mg_ex a) (mg_ex b)) ∈ flatC (Jvm.Cond.and given_1 narrow_1)))) = true := by decide +kernel
theorem mg_stN : decide (Cond.isRef (.static "java/lang/Throwable" "UNASSIGNED_STACK" "[Ljava/lang/StackTraceElement;") ∈ flatC (Jvm.Cond.and given_1 narrow_1)) && decide (Cond.isRef (.static "java/lang/Throwable" "SUPPRESSED_SENTINEL" "Ljava/util/List;") ∈ flatC (Jvm.Cond.and given_1 narrow_1)) = true := by decide +kernel
theorem mg_six {a : Nat} (h1 : 1 ≤ a) (h6 : a ≤ 6) : a ∈ [1, 2, 3, 4, 5, 6] := by
  have h : a = 1 ∨ a = 2 ∨ a = 3 ∨ a = 4 ∨ a = 5 ∨ a = 6 := by omega
  rcases h with rfl | rfl | rfl | rfl | rfl | rfl <;> decide
theorem mg_W_of {s : State} {A : Array Value} (hts : ∀ w ∈ lw_tbl, w.before A s = true) (hgv : (Jvm.Cond.and given_1 narrow_1).before A s = true) : mg_W s := by
  have fl := flat_of_before _ hgv
  refine ⟨fun x hx => va_Nw.of rfl (hts _ (mg_memf mg_nwk.1 x hx)), fun q hq => va_Nw.of rfl (hts _ (mg_memf mg_nwk.2 q hq)), fun q hq => ?_, fun x hx => va_Nw.of rfl (hts _ (mg_memf mg_nwdk x hx)), fun a b a1 a6 b1 b6 n => va_Nc.of (fl _ ?_), va_AO.of (hts _ (List.mem_of_getElem? (i := 97) (by decide +kernel)))⟩
  · have h1 := hts _ (mg_memf mg_strk q hq)
    have h2 := fl _ (of_decide_eq_true (List.all_eq_true.mp mg_strN q hq))
    obtain ⟨a, c, cA, kA, q1, -⟩ := Cond.exactly_spec (args := A) (first := s) (o := none) (s := s) (idx := []) (t := .string "MergeGrid" q.1) (cls := "java/lang/String") h2
    exact ⟨a, vk_R.of h1 q1⟩
  · have h := List.all_eq_true.mp (List.all_eq_true.mp mg_ncN a (mg_six a1 a6)) b (mg_six b1 b6)
    rw [Bool.or_eq_true] at h
    rcases h with h | h
    · exact absurd (Nat.eq_of_beq_eq_true h) n
    · exact of_decide_eq_true h
theorem mg_Z_of {D : mg_D} {s : State} {A : Array Value} (hD : D.2.2.2 = s.heap.size) (hts : ∀ w ∈ lw_tbl, w.before A s = true) (hgv : (Jvm.Cond.and given_1 narrow_1).before A s = true) : mg_Z D s s.heap := by
  have fl := flat_of_before _ hgv
  have h := mg_stN
  rw [Bool.and_eq_true] at h
  have hA : ∀ a : Nat, a < s.heap.size → ¬ mg_A D a := fun a ha w => by unfold mg_A at w; omega
  exact ⟨vx_Zqof (hts _ (List.mem_of_getElem? (i := 432) (by decide +kernel))) (hts _ (List.mem_of_getElem? (i := 63) (by decide +kernel))) (fl _ (of_decide_eq_true h.1)) hA, vx_Zqof (hts _ (List.mem_of_getElem? (i := 434) (by decide +kernel))) (hts _ (List.mem_of_getElem? (i := 63) (by decide +kernel))) (fl _ (of_decide_eq_true h.2)) hA⟩
theorem mg_lmem {l : List Cond} {ps : List Nat} (h : l.map some = ps.map (fun i => lw_tbl[i]?)) : ∀ w ∈ l, w ∈ lw_tbl := fun w hw => mg_memf (L := l) (f := fun w => w) (ps := ps) h w hw
theorem mg_prim {s : State} {A : Array Value} {ty : FieldType} (h : (Cond.arrayClass ty).before A s = true) : ∃ c : ClassId, ArrOfT s c ty ∧ s.vm.findClass ("[" ++ ty.toString) = some c := by
  obtain ⟨c, k, comp, h1, h2, h3⟩ := Cond.arrayClass_spec h
  exact ⟨c, fun n z => ⟨(fun k h => by cases h), k, h2, comp, h3⟩, h1⟩
theorem mg_K_of {s : State} {A : Array Value} (hts : ∀ w ∈ lw_tbl, w.before A s = true) (z : Nat) : ∃ D : mg_D, D.2.2.2 = z ∧ va_K (D.1, D.2.1) mg_cl (mg_tys D) s := by
  have one : ∀ w ∈ mg_one, w.before A s = true := fun w hw => hts w (mg_lmem mg_onek.1 w hw)
  obtain ⟨c0, i0, k0⟩ := u_known (C := RX0) (T := TX0) (N := 4) (n := 4) hts (mg_lmem mg_lay1.1) (hts (.instantiable RX0 4) (List.mem_of_getElem? (i := 247) (by decide +kernel)))
  obtain ⟨c1, i1, k1⟩ := u_known (C := RX1) (T := TX1) (N := 3) (n := 3) hts (mg_lmem mg_lay2.1) (hts (.instantiable RX1 3) (List.mem_of_getElem? (i := 282) (by decide +kernel)))
  obtain ⟨c2, i2, k2⟩ := u_known (C := RX2) (T := TX2) (N := 6) (n := 6) hts (mg_lmem mg_lay3.1) (hts (.instantiable RX2 6) (List.mem_of_getElem? (i := 98) (by decide +kernel)))
  obtain ⟨c3, i3, k3⟩ := u_known (C := RX3) (T := TX3) (N := 3) (n := 3) hts (mg_lmem mg_lay4.1) (hts (.instantiable RX3 3) (List.mem_of_getElem? (i := 91) (by decide +kernel)))
  obtain ⟨c4, i4, k4⟩ := u_known (C := RX4) (T := TX4) (N := 9) (n := 9) hts (mg_lmem mg_lay5.1) (hts (.instantiable RX4 9) (List.mem_of_getElem? (i := 85) (by decide +kernel)))
  obtain ⟨c5, i5, k5⟩ := u_known (C := RX5) (T := TX5) (N := 6) (n := 6) hts (mg_lmem mg_lay6.1) (hts (.instantiable RX5 6) (List.mem_of_getElem? (i := 77) (by decide +kernel)))
  obtain ⟨c6, i6, k6⟩ := u_known (C := RX6) (T := TX6) (N := 37) (n := 37) hts (mg_lmem mg_lay7.1) (hts (.instantiable RX6 37) (List.mem_of_getElem? (i := 1066) (by decide +kernel)))
  obtain ⟨d8, e8, f8⟩ := mg_prim (ty := .int) (hts (.arrayClass .int) (List.mem_of_getElem? (i := 147) (by decide +kernel)))
  obtain ⟨d10, e10, f10⟩ := mg_prim (ty := .long) (hts (.arrayClass .long) (List.mem_of_getElem? (i := 1513) (by decide +kernel)))
  obtain ⟨d11, e11, f11⟩ := mg_prim (ty := .double) (hts (.arrayClass .double) (List.mem_of_getElem? (i := 1514) (by decide +kernel)))
  obtain ⟨comp, d9, k9, h1, h2, h3, h4, h5⟩ := Cond.arrayOver_spec (hts (.arrayOver (.object "MergeGrid$Cell")) (List.mem_of_getElem? (i := 97) (by decide +kernel)))
  refine ⟨(fun k => [c0, c1, c2, c3, c4, c5, c6].getD k c0, fun k => [i0, i1, i2, i3, i4, i5, i6].getD k i0, fun k => [d8, d8, d8, d8, d8, d8, d8, d8, d8, d9, d10, d11].getD k d8, z), rfl, fun k q hq => ?_, fun k q hq => ?_⟩
  · match k, hq with
    | 0, hq => cases hq; exact k0
    | 1, hq => cases hq; exact k1
    | 2, hq => cases hq; exact k2
    | 3, hq => cases hq; exact k3
    | 4, hq => cases hq; exact k4
    | 5, hq => cases hq; exact k5
    | 6, hq => cases hq; exact k6
    | k + 7, hq => cases hq
  · match k, hq with
    | 0, hq => cases hq; exact ⟨e8, f8⟩
    | 1, hq => cases hq; exact ⟨fun n z => ⟨(fun k h => by cases h), k9, h3, comp, h4⟩, k9, comp, h3, h4, h1, h5⟩
    | 2, hq => cases hq; exact ⟨e10, f10⟩
    | 3, hq => cases hq; exact ⟨e11, f11⟩
    | k + 4, hq => cases hq
/-- the memory at the law's entry -/
def mg_M0 (z b L : Nat) (xs : Nat → Int32) : mg_M := ((z, (fun a => if a = b then 12 else 0), (fun _ => L)), (fun a k => if a = b then (xs k).toInt else 0), (fun _ _ => 0), (fun _ _ => 0), (fun _ _ => 0))
theorem mg_H_of {D : mg_D} {s : State} {b L : Nat} {xs : Nat → Int32} (hD : D.2.2.2 = s.heap.size) (hX : va_X b L xs s s.heap) (hb : b < s.heap.size) : mg_H D (mg_M0 s.heap.size b L xs) s s.heap := by
  refine ⟨rfl, by omega, by omega, fun a h1 h2 => ?_, fun a ha => ?_, fun a => ?_, fun a k => ?_, fun a k => ?_⟩
  · exfalso
    have e : kd (mg_M0 s.heap.size b L xs) a = if a = b then 12 else 0 := rfl
    rw [e] at h1 h2
    by_cases c : a = b
    · rw [if_pos c] at h2; omega
    · rw [if_neg c] at h1; omega
  · have e : kd (mg_M0 s.heap.size b L xs) a = if a = b then 12 else 0 := rfl
    rw [e] at ha
    by_cases c : a = b
    · subst c
      refine ⟨?_, by omega⟩
      have f : (fun j => Int32.ofInt (gi (mg_M0 s.heap.size a L xs) a j)) = xs := by
        funext j
        show Int32.ofInt (if a = a then (xs j).toInt else 0) = xs j
        rw [if_pos rfl, Int32.ofInt_toInt]
      rw [f]
      exact hX
    · rw [if_neg c] at ha; omega
  · have e : kd (mg_M0 s.heap.size b L xs) a = if a = b then 12 else 0 := rfl
    rw [e]
    split <;> omega
  · have e : gi (mg_M0 s.heap.size b L xs) a k = if a = b then (xs k).toInt else 0 := rfl
    rw [e]
    have h1 := Int32.le_toInt (xs k)
    have h2 := Int32.toInt_lt (xs k)
    split <;> omega
  · have e : gl (mg_M0 s.heap.size b L xs) a k = 0 := rfl
    rw [e]
    omega
