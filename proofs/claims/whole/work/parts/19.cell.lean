theorem cX2_lie {D : mg_D} {l : Launch} (hl : l.stackTraces = false) {M : mg_M} {a : Nat} {r c d e : Int} (ha : kd M a = 3) : mg_Mt D l 2 [.inr (.inl a), .inl r, .inl c, .inl d, .inl e] M (fun v M' => v = none ∧ M' = si (si (si (si M a 0 r) a 1 c) a 2 d) a 3 e) mg_no := by
  refine mg_of2 hl ok_X2_lie al_X2_lie rfl (fun K hK => ?_)
  refine hK _ _ _ _ _ ?_
  (repeat ((conv => whnf); refine And.intro (by first | assumption | omega | (simp only [gi_si, gr_si, kd_si, ln_si] at *; omega)) ?_)); (conv => whnf)
  skip
theorem cX2_bottom {D : mg_D} {l : Launch} (hl : l.stackTraces = false) {M : mg_M} {a : Nat} (ha : kd M a = 3) (h1 : -1000 ≤ gi M a 0 ∧ gi M a 0 ≤ 1000 ∧ -1000 ≤ gi M a 2 ∧ gi M a 2 ≤ 1000) : mg_Mt D l 5 [.inr (.inl a)] M (fun v M' => v = some (.inl (gi M a 0 + gi M a 2 - 1)) ∧ M' = M) mg_no := by
  refine mg_of2 hl ok_X2_bottom al_X2_bottom rfl (fun K hK => ?_)
  refine hK _ _ _ _ _ ?_
  (repeat ((conv => whnf); refine And.intro (by first | assumption | omega | (simp only [gi_si, gr_si, kd_si, ln_si] at *; omega)) ?_)); (conv => whnf)
  skip
