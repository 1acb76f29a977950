/-! one row an instruction, over the abstract memory: what touches no heap -/
/-- the locals of a frame -/
def mg_Fr (ls : Array Slot) (nL : Nat) (L : mg_L) : Prop := lv_has ls nL (L.map (fun q => (q.1, mg_tv q.2))) ∧ ∀ q ∈ L, mg_ok q.2
theorem mg_cat (v : mg_V) : (mg_tv v).category = if mg_cat2 v = true then 2 else 1 := by
  rcases v with x | a | x | x | x <;> rfl
theorem mg_cat_le (v : mg_V) : (mg_tv v).category ≤ 2 := by
  rcases v with x | a | x | x | x <;> simp [mg_tv, Value.category]
theorem mg_sum (st : List mg_V) : (((st.map mg_tv).map fun v => v.category).sum) ≤ 2 * st.length := by
  induction st with
  | nil => simp
  | cons v st ih =>
    have := mg_cat_le v
    simp only [List.map_cons, List.sum_cons, List.length_cons]
    omega
section MGP
variable {p : Program} {l : Launch} {e : Env} {R : Room} {s : State} {m : MethodId} {args : Array Value} {below : List Frame} {meth : Method} {c : Code} {Q : State → Prop} {D : mg_D} {nL AC AS : Nat} {cc : ByteArray}
/-- from this place of the code the run comes to Q -/
def mg_G (p : Program) (l : Launch) (e : Env) (R : Room) (s : State) (m : MethodId) (args : Array Value) (below : List Frame) (meth : Method) (c : Code) (Q : State → Prop) (D : mg_D) (nL AC AS : Nat) : mg_K := fun pc L st M B =>
  ∀ (H : Heap) (locs : List Loc) (cells slots : Nat) (ls : Array Slot), mg_H D M s H → va_S (mg_A D) s.heap H locs → mg_Fr ls nL L → (∀ v ∈ st, mg_ok v) → cells + B ≤ AC → slots + 160 * B ≤ AS →
    W p l e R s m args below meth c H locs cells slots Q (F0 m pc ls (st.map mg_tv))
theorem gs_pure {pc pc' : Nat} {L : mg_L} {st st' : List mg_V} {M : mg_M} {B : Nat} (k : mg_G p l e R s m args below meth c Q D nL AC AS pc' L st' M B)
    (h : ∀ (H : Heap) (locs : List Loc) (cells slots : Nat) (ls : Array Slot), mg_Fr ls nL L → (∀ v ∈ st, mg_ok v) → (∀ v ∈ st', mg_ok v) ∧ (W p l e R s m args below meth c H locs cells slots Q (F0 m pc' ls (st'.map mg_tv)) → W p l e R s m args below meth c H locs cells slots Q (F0 m pc ls (st.map mg_tv)))) : mg_G p l e R s m args below meth c Q D nL AC AS pc L st M B := by
  intro H locs cells slots ls hH hS hF hst hc hs
  obtain ⟨h1, h2⟩ := h H locs cells slots ls hF hst
  exact h2 (k H locs cells slots ls hH hS hF h1 hc hs)
theorem mg_ok2 {v : mg_V} {st : List mg_V} {P : Prop} (h : ∀ w ∈ v :: st, mg_ok w) (k : mg_ok v → (∀ w ∈ st, mg_ok w) → P) : P := k (h v List.mem_cons_self) (fun w hw => h w (List.mem_cons_of_mem _ hw))
theorem mg_okc {v : mg_V} {st : List mg_V} (h1 : mg_ok v) (h2 : ∀ w ∈ st, mg_ok w) : ∀ w ∈ v :: st, mg_ok w := fun w hw => (List.mem_cons.mp hw).elim (fun e => e ▸ h1) (h2 w)
theorem mg_getS {L : mg_L} {i : Nat} {k : mg_V → Prop} (h : mg_get L i k) : ∃ v, (i, v) ∈ L ∧ k v := by
  induction L with
  | nil => exact h.elim
  | cons q L ih =>
    obtain ⟨j, v⟩ := q
    unfold mg_get at h
    cases hj : Nat.beq j i with
    | true =>
      rw [hj] at h
      have := Nat.eq_of_beq_eq_true hj
      subst this
      exact ⟨v, List.mem_cons_self, h⟩
    | false =>
      rw [hj] at h
      obtain ⟨w, h1, h2⟩ := ih h
      exact ⟨w, List.mem_cons_of_mem _ h1, h2⟩
theorem mg_Fr.at {ls : Array Slot} {L : mg_L} {i : Nat} {v : mg_V} (h : mg_Fr ls nL L) (hi : (i, v) ∈ L) : ls[i]? = some (.val (mg_tv v)) := h.1.2.2 (i, mg_tv v) (List.mem_map.mpr ⟨(i, v), hi, rfl⟩)
theorem mg_remS {L : mg_L} {i : Nat} {w : Bool} {k : mg_L → Prop} (h : mg_rem L i w k) : k (L.filter (fun q => !(Nat.beq q.1 i || (Nat.beq (q.1 + 1) i && mg_cat2 q.2) || (w && Nat.beq q.1 (i + 1))))) := by
  induction L generalizing k with
  | nil => exact h
  | cons q L ih =>
    obtain ⟨j, v⟩ := q
    unfold mg_rem at h
    rw [List.filter_cons]
    dsimp only at h ⊢
    cases hb : (Nat.beq j i || (Nat.beq (j + 1) i && mg_cat2 v) || (w && Nat.beq j (i + 1))) with
    | true =>
      rw [hb] at h
      rw [if_neg (by simp)]
      exact ih h
    | false =>
      rw [hb] at h
      rw [if_pos (by simp)]
      exact ih h
theorem mg_beq (a b : Nat) : Nat.beq a b = (a == b) := Bool.eq_iff_iff.mpr (by rw [Nat.beq_eq, beq_iff_eq])
theorem mg_storeS {ls : Array Slot} {L : mg_L} {i : Nat} {v : mg_V} (hF : mg_Fr ls nL L) (hv : mg_ok v) (hi : i + 1 < nL ∨ (i < nL ∧ mg_cat2 v = false)) :
    ∃ ls', storeLocals ls i (mg_tv v) = some ls' ∧ mg_Fr ls' nL ((i, v) :: L.filter (fun q => !(Nat.beq q.1 i || (Nat.beq (q.1 + 1) i && mg_cat2 q.2) || (mg_cat2 v && Nat.beq q.1 (i + 1))))) := by
  have hsub : ∀ (f : Nat × Value → Bool), (∀ q ∈ L, (!(Nat.beq q.1 i || (Nat.beq (q.1 + 1) i && mg_cat2 q.2) || (mg_cat2 v && Nat.beq q.1 (i + 1)))) = true → f (q.1, mg_tv q.2) = true) → ∀ ls', lv_has ls' nL ((i, mg_tv v) :: (L.map (fun q => (q.1, mg_tv q.2))).filter f) → mg_Fr ls' nL ((i, v) :: L.filter (fun q => !(Nat.beq q.1 i || (Nat.beq (q.1 + 1) i && mg_cat2 q.2) || (mg_cat2 v && Nat.beq q.1 (i + 1))))) := by
    intro f hf ls' h'
    refine ⟨⟨h'.1, h'.2.1, fun q hq => ?_⟩, fun q hq => ?_⟩
    · rcases List.mem_map.mp hq with ⟨q0, hq0, rfl⟩
      rcases List.mem_cons.mp hq0 with rfl | hq1
      · exact h'.2.2 _ List.mem_cons_self
      · obtain ⟨h1, h2⟩ := List.mem_filter.mp hq1
        exact h'.2.2 _ (List.mem_cons_of_mem _ (List.mem_filter.mpr ⟨List.mem_map.mpr ⟨q0, h1, rfl⟩, hf q0 h1 h2⟩))
    · rcases List.mem_cons.mp hq with rfl | hq1
      · exact hv
      · exact hF.2 q (List.mem_filter.mp hq1).1
  have hcat := mg_cat v
  cases hc : mg_cat2 v with
  | false =>
    rw [hc] at hcat
    obtain ⟨ls', h1, h2⟩ := lv_store1 (v := mg_tv v) hF.1 (i := i) (by omega) (by rw [hcat]; rfl)
    refine ⟨ls', h1, ?_⟩
    have := hsub _ (fun q _ hq => ?_) ls' h2
    · rw [hc] at this; exact this
    · have hq2 := mg_cat q.2
      rw [hc] at hq
      simp only [mg_beq, Bool.not_or, Bool.and_eq_true, Bool.not_eq_true', Bool.false_and, beq_eq_false_iff_ne, Bool.and_eq_false_iff] at hq ⊢
      refine ⟨hq.1.1, ?_⟩
      rcases hq.1.2 with h | h
      · exact Or.inl h
      · rw [h] at hq2
        exact Or.inr (by rw [hq2]; decide)
  | true =>
    rw [hc] at hcat
    obtain ⟨ls', h1, h2⟩ := lv_store2 (v := mg_tv v) hF.1 (i := i) (by rcases hi with h | ⟨-, h⟩; exact h; rw [hc] at h; cases h) (by rw [hcat]; rfl)
    refine ⟨ls', h1, ?_⟩
    have := hsub _ (fun q _ hq => ?_) ls' h2
    · rw [hc] at this; exact this
    · have hq2 := mg_cat q.2
      rw [hc] at hq
      simp only [mg_beq, Bool.not_or, Bool.and_eq_true, Bool.not_eq_true', Bool.true_and, beq_eq_false_iff_ne, Bool.and_eq_false_iff] at hq ⊢
      refine ⟨hq.1.1, hq.2, ?_⟩
      rcases hq.1.2 with h | h
      · exact Or.inl h
      · rw [h] at hq2
        exact Or.inr (by rw [hq2]; decide)
end MGP
