/-! the memory's reads behind its writes -/
theorem gi_si {M : mg_M} {a k b j : Nat} {x : Int} : gi (si M a k x) b j = if b = a ∧ j = k then x else gi M b j := rfl
theorem kd_si {M : mg_M} {a k b : Nat} {x : Int} : kd (si M a k x) b = kd M b := rfl
theorem ln_si {M : mg_M} {a k b : Nat} {x : Int} : ln (si M a k x) b = ln M b := rfl
theorem gr_si {M : mg_M} {a k b j : Nat} {x : Int} : gr (si M a k x) b j = gr M b j := rfl
theorem gl_si {M : mg_M} {a k b j : Nat} {x : Int} : gl (si M a k x) b j = gl M b j := rfl
theorem gd_si {M : mg_M} {a k b j : Nat} {x : Int} : gd (si M a k x) b j = gd M b j := rfl
theorem nx_si {M : mg_M} {a k : Nat} {x : Int} : nx (si M a k x) = nx M := rfl
theorem gr_sr {M : mg_M} {a k b j : Nat} {x : Nat} : gr (sr M a k x) b j = if b = a ∧ j = k then x else gr M b j := rfl
theorem kd_sr {M : mg_M} {a k b : Nat} {x : Nat} : kd (sr M a k x) b = kd M b := rfl
theorem ln_sr {M : mg_M} {a k b : Nat} {x : Nat} : ln (sr M a k x) b = ln M b := rfl
theorem gi_sr {M : mg_M} {a k b j : Nat} {x : Nat} : gi (sr M a k x) b j = gi M b j := rfl
theorem nx_sr {M : mg_M} {a k : Nat} {x : Nat} : nx (sr M a k x) = nx M := rfl
theorem gi_cpy {M : mg_M} {s d n b j : Nat} : gi (cpy M s d n) b j = if b = d ∧ j < n then gi M s j else gi M b j := rfl
theorem kd_cpy {M : mg_M} {s d n b : Nat} : kd (cpy M s d n) b = kd M b := rfl
theorem ln_cpy {M : mg_M} {s d n b : Nat} : ln (cpy M s d n) b = ln M b := rfl
theorem gr_cpy {M : mg_M} {s d n b j : Nat} : gr (cpy M s d n) b j = gr M b j := rfl
theorem nx_cpy {M : mg_M} {s d n : Nat} : nx (cpy M s d n) = nx M := rfl
theorem mg_of2 {D : mg_D} {l : Launch} (hl : l.stackTraces = false) {y nL B : Nat} {C : mg_C} (hok : mg_chkM y C = true) (hal : (mg_mt[y - 1]?).map (fun q => (q.2.2.1, q.2.2.2.2.2.2.1)) = some (nL, B)) {as : List mg_V} {M : mg_M} {N : mg_O} {X : mg_X} (hsl : Nat.ble (mg_slots as) nL = true)
    (h : ∀ K : mg_K, (∀ pc ls st M B, mg_ev C (mg_Mt D l) N X K 1000 false pc ls st M B → K pc ls st M B) → K 0 (mg_ent 0 as) [] M B) : mg_Mt D l y as M N X := by
  refine mg_of hl hok (fun q hq => ?_) (fun K hK q hq => ?_)
  · rw [hq] at hal
    have h1 := Option.some.inj hal
    rw [show q.2.2.1 = nL from congrArg Prod.fst h1]
    exact Nat.le_of_ble_eq_true hsl
  · rw [hq] at hal
    have h1 := Option.some.inj hal
    rw [show q.2.2.2.2.2.2.1 = B from congrArg Prod.snd h1]
    exact h K hK
def mg_no : mg_X := fun _ _ => False
