theorem mg_exs {k : Nat} (h1 : 1 ≤ k) (h6 : k ≤ 6) : k = 1 ∨ k = 2 ∨ k = 3 ∨ k = 4 ∨ k = 5 ∨ k = 6 := by omega
theorem mg_H_nxt {D : mg_D} {M : mg_M} {s : State} {H H' : Heap} (hH : mg_H D M s H) (hz : H.size ≤ H'.size) (oq : ∀ q, q < H.size → H'[q]? = H[q]?) : mg_H D (nxt M H'.size) s H' := by
  obtain ⟨g1, g2, g3, g4, g5, g6, g7, g8⟩ := hH
  refine ⟨rfl, by omega, g3, fun a q1 q2 => ?_, fun a q1 => ?_, g6, g7, g8⟩
  · obtain ⟨f1, f2⟩ := g4 a q1 q2
    exact ⟨f1.kept (oq a f1.lt), f2⟩
  · obtain ⟨⟨scr, e1, e2, e3, e4, e5⟩, f2⟩ := g5 a q1
    exact ⟨⟨scr, by rw [oq a (by omega)]; exact e1, e2, e3, e4, e5⟩, f2⟩
section MGT
variable {p : Program} {l : Launch} {e : Env} {R : Room} {s : State} {m : MethodId} {args : Array Value} {below : List Frame} {meth : Method} {c : Code} {D : mg_D} {nL AC AS : Nat} {cc : ByteArray} {dp : Nat} {pc : Nat} {L : mg_L} {st : List mg_V} {M : mg_M} {B : Nat} {N0 : mg_O} {X0 : mg_X}
theorem gs_throw (C : mg_cx p l R s m args meth c D nL AC AS cc "MergeGrid" dp) (hno : ∀ x ∈ c.exceptionTable.toList, False) (hdp : 6 ≤ dp) {ik is ic k : Nat} {text : String} (h1 : 1 ≤ k) (h6 : k ≤ 6) (hk : Cond.classLink "MergeGrid" ik (mg_ex k) ∈ mg_T) (hini : Cond.initialized (mg_ex k) ∈ mg_T) (hstr : (is, text) ∈ mg_str)
    (hic : (k = 1 ∧ ic = 68) ∨ (k = 2 ∧ ic = 75) ∨ (k = 3 ∧ ic = 113) ∨ (k = 4 ∧ ic = 122) ∨ (k = 5 ∧ ic = 296) ∨ (k = 6 ∧ ic = 308)) (hB : 1 ≤ B) (hlen : st.length ≤ 4)
    (d0 : decode cc pc = .ok (.new ik, 3)) (d3 : decode cc (pc + 3) = .ok (.dup, 1))
    (dd : (k ≠ 5 ∧ decode cc (pc + 4) = .ok (.ldc is, 2) ∧ decode cc (pc + 6) = .ok (.invokespecial ic, 3) ∧ decode cc (pc + 9) = .ok (.athrow, 1)) ∨ (decode cc (pc + 4) = .ok (.ldc_w is, 3) ∧ decode cc (pc + 7) = .ok (.invokespecial ic, 3) ∧ decode cc (pc + 10) = .ok (.athrow, 1)))
    (hX : ∀ n, nx M ≤ n → X0 k (nxt M n)) : mg_G p l e R s m args below meth c (vx_MQ below (mg_Qc D N0) (mg_XC D X0) args s AC AS (mg_A D)) D nL AC AS pc L st M B := by
  intro H locs cells slots ls hH hS hF hst hc hs
  have C9 := C
  obtain ⟨hx, hb, hml, hts, hown, hK, hW, hZ, hAC, hAS, hlk, hl, hRf, hRl, -⟩ := C9
  have hsum := mg_sum st
  obtain ⟨sa, hsa⟩ := hW.2.2.1 _ hstr
  have hxx : ∀ t : State, s.vm.Alike t.vm → H.size ≤ t.heap.size → (∀ q : Nat, q < H.size → t.heap[q]? = H[q]?) → mg_XC D X0 (mg_ex k) s t := by
    intro t hal hz oq
    have hH2 := mg_H_nxt hH hz oq
    have hS2 : va_S (mg_A D) s.heap t.heap locs := ⟨Nat.le_trans hS.1 hz, fun q q1 q2 => (oq q (Nat.lt_of_lt_of_le q1 hS.1)).trans (hS.2.1 q q1 q2), hS.2.2⟩
    exact ⟨⟨k, _, rfl, h1, h6, hX _ (by rw [show nx M = H.size from hH.1]; exact hz), hH2.moved hal⟩, hS2.F rfl⟩
  have atk : ∀ {ws : List Cond}, ws.all (fun w => decide (w ∈ mg_T) || decide (w = .castable (mg_ex k) (mg_ex k)) || decide (w ∈ mg_nwD.map Cond.declares)) = true → ∀ w ∈ ws, w.before args s = true := by
    intro ws h w hw
    have h9 := List.all_eq_true.mp h w hw
    simp only [Bool.or_eq_true, decide_eq_true_eq] at h9
    rcases h9 with (h9 | h9) | h9
    · exact hts _ h9
    · subst h9
      refine va_Nw.use rfl (hW.1 _ ?_)
      rcases mg_exs h1 h6 with rfl | rfl | rfl | rfl | rfl | rfl <;> decide
    · obtain ⟨x, hx9, rfl⟩ := List.mem_map.mp h9
      exact va_Nw.use rfl (hW.2.2.2.1 _ hx9)
  have gdk : ∀ {ws : List Cond}, ws.all vx_ot = true → ∀ w ∈ Cond.classLink "MergeGrid" ik (mg_ex k) :: Cond.initialized (mg_ex k) :: ws, vx_ot w = true := by
    intro ws h w hw
    rcases List.mem_cons.mp hw with rfl | hw
    · rfl
    · rcases List.mem_cons.mp hw with rfl | hw
      · rfl
      · exact List.all_eq_true.mp h w hw
  have hout : ∀ pc', ∀ x ∈ c.exceptionTable.toList, covers x pc' = false := fun pc' x hx => (hno x hx).elim
  have h5 : k = 5 ∨ k ≠ 5 := by omega
  rcases h5 with rfl | h5
  · have hic5 : ic = 296 := by omega
    subst hic5
    rcases dd with ⟨q, -⟩ | ⟨d4, d7, d10⟩
    · exact absurd rfl q
    · exact mg_throwX mg_x5.1 mg_x5.2.1 mg_x5.2.2.1 mg_x5.2.2.2 hx hb hl hown mg_at5.2.2 mg_fitN (hts _ hk) (hts _ hini) hsa (atk mg_at5.1) (gdk mg_at5.2.1) hZ.1 hZ.2 hS (hF.1.1.trans hml.symm) d0 d3 d4 d7 d10 (hout _) (by show 2 + 3 < _; omega) (by show _ + (13 * (2 + 1) + 43) ≤ _; omega) (by omega) (by omega) hlk hxx hS.2.2 (by omega) (by omega)
  · have hat : (vx_atS "MergeGrid" ic (mg_ex k) ["java/lang/RuntimeException", "java/lang/Exception"]).all (fun w => decide (w ∈ mg_T) || decide (w = .castable (mg_ex k) (mg_ex k)) || decide (w ∈ mg_nwD.map Cond.declares)) = true ∧ (vx_atS "MergeGrid" ic (mg_ex k) ["java/lang/RuntimeException", "java/lang/Exception"]).all vx_ot = true ∧ Bundle.fit (mg_ex k) = true := by
      rcases hic with ⟨rfl, rfl⟩ | ⟨rfl, rfl⟩ | ⟨rfl, rfl⟩ | ⟨rfl, rfl⟩ | ⟨rfl, rfl⟩ | ⟨rfl, rfl⟩
      · exact mg_at1
      · exact mg_at2
      · exact mg_at3
      · exact mg_at4
      · exact absurd rfl h5
      · exact mg_at6
    rcases dd with ⟨-, d4, d6, d9⟩ | ⟨d4, d7, d10⟩
    · exact vx_throwS hx hb hl hown hat.2.2 mg_fitN (hts _ hk) (hts _ hini) hsa (atk hat.1) (gdk hat.2.1) hZ.1 hZ.2 hS (hF.1.1.trans hml.symm) d0 d3 d4 d6 d9 (hout _) (by show 2 + 3 < _; omega) (by show _ + (13 * (2 + 1) + 43) ≤ _; omega) (by omega) (by omega) hlk hxx hS.2.2 (by omega) (by omega)
    · exact vx_throwSW hx hb hl hown hat.2.2 mg_fitN (hts _ hk) (hts _ hini) hsa (atk hat.1) (gdk hat.2.1) hZ.1 hZ.2 hS (hF.1.1.trans hml.symm) d0 d3 d4 d7 d10 (hout _) (by show 2 + 3 < _; omega) (by show _ + (13 * (2 + 1) + 43) ≤ _; omega) (by omega) (by omega) hlk hxx hS.2.2 (by omega) (by omega)
end MGT
