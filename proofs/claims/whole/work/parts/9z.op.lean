/-! what an operation of both₀ owes -/
theorem mg_MtX {D : mg_D} {l : Launch} {y₀ : Nat} {as₀ : List mg_V} {M : mg_M} {N : mg_O} {X₀ X' : mg_X} (h₀ : mg_Mt D l y₀ as₀ M N X₀) (k₀ : ∀ v₀ P, X₀ v₀ P → X' v₀ P) : mg_Mt D l y₀ as₀ M N X' := by
  obtain ⟨q₀, hq, hm₀⟩ := h₀
  refine ⟨q₀, hq, ?_⟩
  intro p₀ e₀ h1 h2 h3 s₀ m₀ args₀ below₀ h4 h5 h6 h7
  obtain ⟨n₀, o, g1, g2, g3₀, g4⟩ := hm₀ p₀ e₀ h1 h2 h3 s₀ m₀ args₀ below₀ h4 h5 h6 h7
  refine ⟨n₀, o, g1, g2, g3₀, ?_⟩
  rcases g4 with g4 | ⟨q9₀, e9₀, E₀, ce, L₀, ⟨⟨k9, P, b1, b2, b3, b4, b5⟩, b6⟩, rest₀⟩
  · exact Or.inl g4
  · exact Or.inr ⟨q9₀, e9₀, E₀, ce, L₀, ⟨⟨k9, P, b1, b2, b3, k₀ _ _ b4, b5⟩, b6⟩, rest₀⟩
/-- what lies below₀ the objects, and the law's arrays₀ -/
def mh_far (M P : mg_M) (g₀ : Nat) : Prop := (∀ a₀, kd P a₀ = kd M a₀) ∧ (∀ a₀, ln P a₀ = ln M a₀) ∧ (∀ a₀ k₀, gl P a₀ k₀ = gl M a₀ k₀) ∧ (∀ a₀ k₀, gd P a₀ k₀ = gd M a₀ k₀) ∧ ∀ a₀ k₀, a₀ < g₀ → gi P a₀ k₀ = gi M a₀ k₀
theorem mh_far_rfl {M : mg_M} {g₀ : Nat} : mh_far M M g₀ := ⟨fun _ => rfl, fun _ => rfl, fun _ _ => rfl, fun _ _ => rfl, fun _ _ _ => rfl⟩
theorem mh_far_tr {M N P : mg_M} {g₀ : Nat} (h₀ : mh_far M N g₀) (k₀ : mh_far N P g₀) : mh_far M P g₀ := ⟨fun a₀ => (k₀.1 a₀).trans (h₀.1 a₀), fun a₀ => (k₀.2.1 a₀).trans (h₀.2.1 a₀), fun a₀ j₀ => (k₀.2.2.1 a₀ j₀).trans (h₀.2.2.1 a₀ j₀), fun a₀ j₀ => (k₀.2.2.2.1 a₀ j₀).trans (h₀.2.2.2.1 a₀ j₀), fun a₀ j₀ w₀ => (k₀.2.2.2.2 a₀ j₀ w₀).trans (h₀.2.2.2.2 a₀ j₀ w₀)⟩
theorem mh_far_f {S : Nat → Nat → Prop} {M P : mg_M} {g₀ : Nat} (f₀ : mm_f S M P) (h₀ : ∀ a₀ k₀, S a₀ k₀ → g₀ ≤ a₀) : mh_far M P g₀ := ⟨f₀.1, f₀.2.1, f₀.2.2.2.2.1, f₀.2.2.2.2.2.1, fun a₀ k₀ w₀ => mm_f_gi f₀ a₀ k₀ (fun s₀ => by have := h₀ a₀ k₀ s₀; omega)⟩
theorem mh_far_fx {M P : mg_M} {g₀ x₀ : Nat} (f₀ : mh_fx x₀ M P) (h₀ : g₀ ≤ x₀) : mh_far M P g₀ := ⟨f₀.1, f₀.2.1, f₀.2.2.2.2.1, f₀.2.2.2.2.2.1, fun a₀ k₀ w₀ => f₀.2.2.2.2.2.2 a₀ k₀ (by omega)⟩
theorem mh_far_fw {M P : mg_M} {g₀ t₀ : Nat} (f₀ : mh_fw M P t₀) (h₀ : g₀ ≤ t₀) : mh_far M P g₀ := ⟨f₀.1, f₀.2.1, f₀.2.2.2.2.1, f₀.2.2.2.2.2.1, fun a₀ k₀ w₀ => (f₀.2.2.2.2.2.2 a₀ k₀).resolve_left (by omega)⟩
/-- both₀ answer₀ the same₀, and the invariant holds₀ again; D: compared at once, N: through₀ the law's long₀ array -/
def mh_opD (D : mg_D) (l : Launch) (yc ym : Nat) (as₀ : List mg_V) (M : mg_M) (g₀ m₀ : Nat) : Prop := ∃ N : mg_V → mg_M → Prop, mg_Mt D l yc (.inr (.inl g₀) :: as₀) M (fun v₀ P => ∃ z₀, v₀ = some z₀ ∧ N z₀ P) mg_no ∧ ∀ z₀ P, N z₀ P → mh_far M P g₀ ∧ mg_Mt D l ym (.inr (.inl m₀) :: as₀) P (fun w₀ Q₀ => w₀ = some z₀ ∧ gi Q₀ m₀ 0 = 0 ∧ mh_far P Q₀ g₀ ∧ ∃ t₀ u₀, mh_INV Q₀ g₀ m₀ t₀ u₀) mg_no
def mh_opN (D : mg_D) (l : Launch) (yc ym : Nat) (as₀ : List mg_V) (M : mg_M) (g₀ m₀ : Nat) : Prop := ∃ N : Int → mg_M → Prop, mg_Mt D l yc (.inr (.inl g₀) :: as₀) M (fun v₀ P => ∃ z₀, v₀ = some (.inl z₀) ∧ N z₀ P) mg_no ∧ ∀ z₀ P, N z₀ P → mh_far M P g₀ ∧ ∀ o, mg_Mt D l ym (.inr (.inl m₀) :: as₀) (sl P o 0 z₀) (fun w₀ Q₀ => w₀ = some (.inl z₀) ∧ gi Q₀ m₀ 0 = 0 ∧ mh_far (sl P o 0 z₀) Q₀ g₀ ∧ ∃ t₀ u₀, mh_INV Q₀ g₀ m₀ t₀ u₀) mg_no
/-- both₀ refuse₀: the class by its kind of throw₀, the reference₀ by its number₀ -/
def mh_opT (D : mg_D) (l : Launch) (yc ym : Nat) (as₀ : List mg_V) (M : mg_M) (g₀ m₀ : Nat) (kind : Nat) (j₀ : Int) : Prop := mg_Mt D l yc (.inr (.inl g₀) :: as₀) M mh_nN (fun k₀ P => k₀ = kind ∧ mh_same M P g₀ m₀ ∧ mh_far M P g₀) ∧ ∀ P, mh_same M P g₀ m₀ → mg_Mt D l ym (.inr (.inl m₀) :: as₀) P (fun w₀ Q₀ => (∃ z₀, w₀ = some (.inl z₀)) ∧ gi Q₀ m₀ 0 = j₀ ∧ mh_far P Q₀ g₀ ∧ ∃ t₀ u₀, mh_INV Q₀ g₀ m₀ t₀ u₀) mg_no
theorem mh_INV_q {M Q₀ : mg_M} {g₀ m₀ t₀ u₀ : Nat} {x₀ : Int} (I₀ : mh_INV M g₀ m₀ t₀ u₀) (h₀ : Q₀ = si M m₀ 0 x₀) : gi Q₀ m₀ 0 = x₀ ∧ mh_far M Q₀ g₀ ∧ ∃ t₀ u₀, mh_INV Q₀ g₀ m₀ t₀ u₀ := by
  have pm := I₀.2.2.1.2
  have f₀ : mm_f (fun a₀ k₀ => a₀ = m₀ ∧ k₀ = 0) M Q₀ := by rw [h₀]; exact mm_f_si mm_f_rfl ⟨rfl, rfl⟩
  refine ⟨by rw [h₀, gi_si, if_pos ⟨rfl, rfl⟩], mh_far_f f₀ (fun a₀ k₀ w₀ => by omega), t₀, u₀, mh_INV_same I₀ (mh_same_f f₀ (fun a₀ k₀ w₀ => by omega))⟩
theorem mh_INV_th {M Q₀ : mg_M} {g₀ m₀ t₀ u₀ : Nat} {x₀ : Int} (I₀ : mh_INV M g₀ m₀ t₀ u₀) (h₀ : mm_th M Q₀ m₀ x₀) : gi Q₀ m₀ 0 = x₀ ∧ mh_far M Q₀ g₀ ∧ ∃ t₀ u₀, mh_INV Q₀ g₀ m₀ t₀ u₀ := by
  have pm := I₀.2.2.1.2
  exact ⟨h₀.2, mh_far_f h₀.1 (fun a₀ k₀ w₀ => by omega), t₀, u₀, mh_INV_same I₀ (mh_same_f h₀.1 (fun a₀ k₀ w₀ => by omega))⟩
theorem mh_INV_ta {M Q₀ : mg_M} {g₀ m₀ t₀ u₀ : Nat} {x₀ : Int} (I₀ : mh_INV M g₀ m₀ t₀ u₀) (h₀ : mm_ta M Q₀ m₀ x₀) : gi Q₀ m₀ 0 = x₀ ∧ mh_far M Q₀ g₀ ∧ ∃ t₀ u₀, mh_INV Q₀ g₀ m₀ t₀ u₀ := by
  have pm := I₀.2.2.1.2
  exact ⟨h₀.2, mh_far_f h₀.1 (fun a₀ k₀ w₀ => by omega), t₀, u₀, mh_INV_same I₀ (mh_same_f h₀.1 (fun a₀ k₀ w₀ => by omega))⟩
theorem mh_INV_sl {M : mg_M} {g₀ m₀ t₀ u₀ o : Nat} {z₀ : Int} (I₀ : mh_INV M g₀ m₀ t₀ u₀) : mh_INV (sl M o 0 z₀) g₀ m₀ t₀ u₀ := mh_INV_same I₀ ⟨fun _ => rfl, fun _ => rfl, fun _ _ => rfl, fun _ _ _ _ _ => rfl⟩
/-- a₀ refusal: the class's throw₀ and the reference's, both₀ told₀ over every memory where the invariant holds₀ -/
theorem mh_opT_of {D : mg_D} {l : Launch} {yc ym : Nat} {as₀ : List mg_V} {M : mg_M} {g₀ m₀ t₀ u₀ kind : Nat} {j₀ : Int} (c₀ : mg_Mt D l yc (.inr (.inl g₀) :: as₀) M mh_nN (mh_tX kind M)) (r₀ : ∀ P, mh_same M P g₀ m₀ → mg_Mt D l ym (.inr (.inl m₀) :: as₀) P (fun w₀ Q₀ => w₀ = some (.inl 0) ∧ (Q₀ = si P m₀ 0 j₀ ∨ mm_th P Q₀ m₀ j₀ ∨ mm_ta P Q₀ m₀ j₀)) mg_no) (I₀ : mh_INV M g₀ m₀ t₀ u₀) : mh_opT D l yc ym as₀ M g₀ m₀ kind j₀ := by
  refine ⟨mg_MtX c₀ ?_, fun P s₀ => mg_MtN (r₀ P s₀) ?_⟩
  · rintro k₀ P ⟨rfl, n₀, hn, rfl⟩
    exact ⟨rfl, mh_same_nx, fun _ => rfl, fun _ => rfl, fun _ _ => rfl, fun _ _ => rfl, fun _ _ _ => rfl⟩
  · rintro w₀ Q₀ ⟨e₀, h₀⟩
    refine ⟨⟨0, e₀⟩, ?_⟩
    have IP := mh_INV_same I₀ s₀
    rcases h₀ with h₀ | h₀ | h₀
    · exact mh_INV_q IP h₀
    · exact mh_INV_th IP h₀
    · exact mh_INV_ta IP h₀
theorem mh_same_v {M P : mg_M} {g₀ m₀ t₀ u₀ : Nat} (I₀ : mh_INV M g₀ m₀ t₀ u₀) (s₀ : mh_same M P g₀ m₀) : (∀ k₀, gi P t₀ k₀ = gi M t₀ k₀) ∧ (∀ k₀, k₀ ≠ 0 → (k₀ < 32 ∨ 35 < k₀) → gi P m₀ k₀ = gi M m₀ k₀) ∧ (∀ a₀, m₀ < a₀ → a₀ < m₀ + 18 → ∀ k₀, gi P a₀ k₀ = gi M a₀ k₀) := by
  have pm := I₀.2.2.1.2
  have pl := I₀.1.2.2.1
  exact ⟨fun k₀ => s₀.2.2.2 t₀ k₀ (by omega) (by omega) (by omega), fun k₀ h1 h2 => s₀.2.2.2 m₀ k₀ (by omega) (by omega) (by omega), fun a₀ h1 h2 k₀ => s₀.2.2.2 a₀ k₀ (by omega) (by omega) (by omega)⟩
theorem ti_rows {D : mg_D} {l : Launch} (hl : l.stackTraces = false) {M : mg_M} {g₀ m₀ t₀ u₀ : Nat} (I₀ : mh_INV M g₀ m₀ t₀ u₀) : mh_opD D l 72 140 [] M g₀ m₀ := by
  obtain ⟨st₀, rc, h4, si9, rts, hid₀, cnt₀, hco, hw, hh, hb₀, hd₀⟩ := mh_INV_m I₀
  have K9 := I₀.1
  have V9 := I₀.2.1
  have zf := I₀.2.2.2.1
  have sq := I₀.2.2.2.2.1
  refine ⟨fun z₀ P => z₀ = .inl (gi M t₀ 0) ∧ P = M, mg_MtN (cX5_rows hl K9) (fun v₀ P h₀ => ⟨_, h₀.1, rfl, h₀.2⟩), ?_⟩
  rintro _ P ⟨rfl, rfl⟩
  refine ⟨mh_far_rfl, mg_MtN (cX6_rows hl st₀.1) ?_⟩
  rintro w₀ Q₀ ⟨e₀, hQ⟩
  exact ⟨by rw [e₀, zf.1], mh_INV_q I₀ hQ⟩
theorem ti_columns {D : mg_D} {l : Launch} (hl : l.stackTraces = false) {M : mg_M} {g₀ m₀ t₀ u₀ : Nat} (I₀ : mh_INV M g₀ m₀ t₀ u₀) : mh_opD D l 73 141 [] M g₀ m₀ := by
  obtain ⟨st₀, rc, h4, si9, rts, hid₀, cnt₀, hco, hw, hh, hb₀, hd₀⟩ := mh_INV_m I₀
  have K9 := I₀.1
  have V9 := I₀.2.1
  have zf := I₀.2.2.2.1
  have sq := I₀.2.2.2.2.1
  refine ⟨fun z₀ P => z₀ = .inl (gi M t₀ 1) ∧ P = M, mg_MtN (cX5_columns hl K9) (fun v₀ P h₀ => ⟨_, h₀.1, rfl, h₀.2⟩), ?_⟩
  rintro _ P ⟨rfl, rfl⟩
  refine ⟨mh_far_rfl, mg_MtN (cX6_columns hl st₀.1) ?_⟩
  rintro w₀ Q₀ ⟨e₀, hQ⟩
  exact ⟨by rw [e₀, zf.2.1], mh_INV_q I₀ hQ⟩
theorem ti_header {D : mg_D} {l : Launch} (hl : l.stackTraces = false) {M : mg_M} {g₀ m₀ t₀ u₀ : Nat} (I₀ : mh_INV M g₀ m₀ t₀ u₀) : mh_opD D l 99 190 [] M g₀ m₀ := by
  obtain ⟨st₀, rc, h4, si9, rts, hid₀, cnt₀, hco, hw, hh, hb₀, hd₀⟩ := mh_INV_m I₀
  have K9 := I₀.1
  have V9 := I₀.2.1
  have zf := I₀.2.2.2.1
  have sq := I₀.2.2.2.2.1
  refine ⟨fun z₀ P => z₀ = .inl (gi M t₀ 2) ∧ P = M, mg_MtN (cX5_header hl K9) (fun v₀ P h₀ => ⟨_, h₀.1, rfl, h₀.2⟩), ?_⟩
  rintro _ P ⟨rfl, rfl⟩
  refine ⟨mh_far_rfl, mg_MtN (cX6_header hl st₀.1) ?_⟩
  rintro w₀ Q₀ ⟨e₀, hQ⟩
  exact ⟨by rw [e₀, zf.2.2], mh_INV_q I₀ hQ⟩
theorem ti_cellCount {D : mg_D} {l : Launch} (hl : l.stackTraces = false) {M : mg_M} {g₀ m₀ t₀ u₀ : Nat} (I₀ : mh_INV M g₀ m₀ t₀ u₀) : mh_opD D l 74 142 [] M g₀ m₀ := by
  obtain ⟨st₀, rc, h4, si9, rts, hid₀, cnt₀, hco, hw, hh, hb₀, hd₀⟩ := mh_INV_m I₀
  have K9 := I₀.1
  have V9 := I₀.2.1
  have zf := I₀.2.2.2.1
  have sq := I₀.2.2.2.2.1
  refine ⟨fun z₀ P => z₀ = .inl (gi M (t₀ + 3) 0) ∧ P = M, mg_MtN (cX5_cellCount hl K9) (fun v₀ P h₀ => ⟨_, h₀.1, rfl, h₀.2⟩), ?_⟩
  rintro _ P ⟨rfl, rfl⟩
  refine ⟨mh_far_rfl, mg_MtN (cX6_cellCount hl st₀.1) ?_⟩
  rintro w₀ Q₀ ⟨e₀, hQ⟩
  exact ⟨by rw [e₀, cnt₀], mh_INV_q I₀ hQ⟩
theorem ti_cellsBySquares {D : mg_D} {l : Launch} (hl : l.stackTraces = false) {M : mg_M} {g₀ m₀ t₀ u₀ : Nat} (I₀ : mh_INV M g₀ m₀ t₀ u₀) : mh_opD D l 75 143 [] M g₀ m₀ := by
  obtain ⟨st₀, rc, h4, si9, rts, hid₀, cnt₀, hco, hw, hh, hb₀, hd₀⟩ := mh_INV_m I₀
  have K9 := I₀.1
  have V9 := I₀.2.1
  have zf := I₀.2.2.2.1
  have sq := I₀.2.2.2.2.1
  refine ⟨fun z₀ P => z₀ = .inl (gi M (t₀ + 3) 0) ∧ P = M, mg_MtN (cX5_cellsBySquares hl K9) (fun v₀ P h₀ => ⟨_, h₀.1, rfl, h₀.2⟩), ?_⟩
  rintro _ P ⟨rfl, rfl⟩
  refine ⟨mh_far_rfl, mg_MtN (cX6_cellsBySquares hl st₀.1) ?_⟩
  rintro w₀ Q₀ ⟨e₀, hQ⟩
  exact ⟨by rw [e₀, cnt₀], mh_INV_q I₀ hQ⟩
theorem ti_topOf0 {D : mg_D} {l : Launch} (hl : l.stackTraces = false) {M : mg_M} {g₀ m₀ t₀ u₀ : Nat} {r₀ c₀ : Int} (I₀ : mh_INV M g₀ m₀ t₀ u₀) (h₀ : mh_rg (gi M t₀ 0) (gi M t₀ 1) r₀ c₀) : mh_opN D l 81 158 [.inl r₀, .inl c₀] M g₀ m₀ := by
  obtain ⟨st₀, rc, h4, si9, rts, hid₀, cnt₀, hco, hw, hh, hb₀, hd₀⟩ := mh_INV_m I₀
  have K9 := I₀.1
  have V9 := I₀.2.1
  have zf := I₀.2.2.2.1
  have sq := I₀.2.2.2.2.1
  have h' : mh_rg (gi M m₀ 1) (gi M m₀ 2) r₀ c₀ := by omega
  refine ⟨fun z₀ P => z₀ = gi M (mh_co M t₀ r₀ c₀) 0 ∧ P = M, mg_MtN (cX5_topOf0 hl K9 h₀) (fun v₀ P h₀ => ⟨_, h₀.1, rfl, h₀.2⟩), ?_⟩
  rintro z9 P ⟨hz, rfl⟩
  refine ⟨mh_far_rfl, fun o => ?_⟩
  have R : mg_Mt D l 158 [.inr (.inl m₀), .inl r₀, .inl c₀] (sl P o 0 z9) (fun v₀ N => v₀ = some (.inl (mh_fT P t₀ 0 r₀ c₀)) ∧ N = si (sl P o 0 z9) m₀ 0 0) mg_no := cX6_topOf0 hl (mh_INV_m (mh_INV_sl I₀)).1 (mh_INV_m (mh_INV_sl I₀)).2.1 h' (rts r₀ c₀ h')
  refine mg_MtN R ?_
  rintro w₀ Q₀ ⟨e₀, hQ⟩
  exact ⟨by rw [e₀, hz]; rfl, mh_INV_q (mh_INV_sl I₀) hQ⟩
theorem ti_topOf1 {D : mg_D} {l : Launch} (hl : l.stackTraces = false) {M : mg_M} {g₀ m₀ t₀ u₀ : Nat} {r₀ c₀ : Int} (I₀ : mh_INV M g₀ m₀ t₀ u₀) (h₀ : ¬ mh_rg (gi M t₀ 0) (gi M t₀ 1) r₀ c₀) : mh_opT D l 81 158 [.inl r₀, .inl c₀] M g₀ m₀ 1 1 := by
  refine mh_opT_of (cX5_topOf1 hl I₀.1 h₀) (fun P s₀ => ?_) I₀
  have IP := mh_INV_same I₀ s₀
  obtain ⟨v1₀, v2, v3⟩ := mh_same_v I₀ s₀
  have z₀ := I₀.2.2.2.1
  have e1₀ := v2 1 (by omega) (by omega)
  have e2₀ := v2 2 (by omega) (by omega)
  exact mg_MtN (cX6_topOf1 hl (mh_INV_m IP).1 (mh_INV_m IP).2.1 (by rw [e1₀, e2₀, z₀.1, z₀.2.1]; exact h₀)) (fun w₀ Q₀ h₀ => ⟨h₀.1, Or.inl h₀.2⟩)
theorem ti_leftOf0 {D : mg_D} {l : Launch} (hl : l.stackTraces = false) {M : mg_M} {g₀ m₀ t₀ u₀ : Nat} {r₀ c₀ : Int} (I₀ : mh_INV M g₀ m₀ t₀ u₀) (h₀ : mh_rg (gi M t₀ 0) (gi M t₀ 1) r₀ c₀) : mh_opN D l 82 159 [.inl r₀, .inl c₀] M g₀ m₀ := by
  obtain ⟨st₀, rc, h4, si9, rts, hid₀, cnt₀, hco, hw, hh, hb₀, hd₀⟩ := mh_INV_m I₀
  have K9 := I₀.1
  have V9 := I₀.2.1
  have zf := I₀.2.2.2.1
  have sq := I₀.2.2.2.2.1
  have h' : mh_rg (gi M m₀ 1) (gi M m₀ 2) r₀ c₀ := by omega
  refine ⟨fun z₀ P => z₀ = gi M (mh_co M t₀ r₀ c₀) 1 ∧ P = M, mg_MtN (cX5_leftOf0 hl K9 h₀) (fun v₀ P h₀ => ⟨_, h₀.1, rfl, h₀.2⟩), ?_⟩
  rintro z9 P ⟨hz, rfl⟩
  refine ⟨mh_far_rfl, fun o => ?_⟩
  have R : mg_Mt D l 159 [.inr (.inl m₀), .inl r₀, .inl c₀] (sl P o 0 z9) (fun v₀ N => v₀ = some (.inl (mh_fT P t₀ 1 r₀ c₀)) ∧ N = si (sl P o 0 z9) m₀ 0 0) mg_no := cX6_leftOf0 hl (mh_INV_m (mh_INV_sl I₀)).1 (mh_INV_m (mh_INV_sl I₀)).2.1 h' (rts r₀ c₀ h')
  refine mg_MtN R ?_
  rintro w₀ Q₀ ⟨e₀, hQ⟩
  exact ⟨by rw [e₀, hz]; rfl, mh_INV_q (mh_INV_sl I₀) hQ⟩
theorem ti_leftOf1 {D : mg_D} {l : Launch} (hl : l.stackTraces = false) {M : mg_M} {g₀ m₀ t₀ u₀ : Nat} {r₀ c₀ : Int} (I₀ : mh_INV M g₀ m₀ t₀ u₀) (h₀ : ¬ mh_rg (gi M t₀ 0) (gi M t₀ 1) r₀ c₀) : mh_opT D l 82 159 [.inl r₀, .inl c₀] M g₀ m₀ 1 1 := by
  refine mh_opT_of (cX5_leftOf1 hl I₀.1 h₀) (fun P s₀ => ?_) I₀
  have IP := mh_INV_same I₀ s₀
  obtain ⟨v1₀, v2, v3⟩ := mh_same_v I₀ s₀
  have z₀ := I₀.2.2.2.1
  have e1₀ := v2 1 (by omega) (by omega)
  have e2₀ := v2 2 (by omega) (by omega)
  exact mg_MtN (cX6_leftOf1 hl (mh_INV_m IP).1 (mh_INV_m IP).2.1 (by rw [e1₀, e2₀, z₀.1, z₀.2.1]; exact h₀)) (fun w₀ Q₀ h₀ => ⟨h₀.1, Or.inl h₀.2⟩)
theorem ti_rowsOf0 {D : mg_D} {l : Launch} (hl : l.stackTraces = false) {M : mg_M} {g₀ m₀ t₀ u₀ : Nat} {r₀ c₀ : Int} (I₀ : mh_INV M g₀ m₀ t₀ u₀) (h₀ : mh_rg (gi M t₀ 0) (gi M t₀ 1) r₀ c₀) : mh_opN D l 83 160 [.inl r₀, .inl c₀] M g₀ m₀ := by
  obtain ⟨st₀, rc, h4, si9, rts, hid₀, cnt₀, hco, hw, hh, hb₀, hd₀⟩ := mh_INV_m I₀
  have K9 := I₀.1
  have V9 := I₀.2.1
  have zf := I₀.2.2.2.1
  have sq := I₀.2.2.2.2.1
  have h' : mh_rg (gi M m₀ 1) (gi M m₀ 2) r₀ c₀ := by omega
  refine ⟨fun z₀ P => z₀ = gi M (mh_co M t₀ r₀ c₀) 2 ∧ P = M, mg_MtN (cX5_rowsOf0 hl K9 h₀) (fun v₀ P h₀ => ⟨_, h₀.1, rfl, h₀.2⟩), ?_⟩
  rintro z9 P ⟨hz, rfl⟩
  refine ⟨mh_far_rfl, fun o => ?_⟩
  have R : mg_Mt D l 160 [.inr (.inl m₀), .inl r₀, .inl c₀] (sl P o 0 z9) (fun v₀ N => v₀ = some (.inl (mh_fT P t₀ 2 r₀ c₀)) ∧ N = si (sl P o 0 z9) m₀ 0 0) mg_no := cX6_rowsOf0 hl (mh_INV_m (mh_INV_sl I₀)).1 (mh_INV_m (mh_INV_sl I₀)).2.1 h' (rts r₀ c₀ h')
  refine mg_MtN R ?_
  rintro w₀ Q₀ ⟨e₀, hQ⟩
  exact ⟨by rw [e₀, hz]; rfl, mh_INV_q (mh_INV_sl I₀) hQ⟩
theorem ti_rowsOf1 {D : mg_D} {l : Launch} (hl : l.stackTraces = false) {M : mg_M} {g₀ m₀ t₀ u₀ : Nat} {r₀ c₀ : Int} (I₀ : mh_INV M g₀ m₀ t₀ u₀) (h₀ : ¬ mh_rg (gi M t₀ 0) (gi M t₀ 1) r₀ c₀) : mh_opT D l 83 160 [.inl r₀, .inl c₀] M g₀ m₀ 1 1 := by
  refine mh_opT_of (cX5_rowsOf1 hl I₀.1 h₀) (fun P s₀ => ?_) I₀
  have IP := mh_INV_same I₀ s₀
  obtain ⟨v1₀, v2, v3⟩ := mh_same_v I₀ s₀
  have z₀ := I₀.2.2.2.1
  have e1₀ := v2 1 (by omega) (by omega)
  have e2₀ := v2 2 (by omega) (by omega)
  exact mg_MtN (cX6_rowsOf1 hl (mh_INV_m IP).1 (mh_INV_m IP).2.1 (by rw [e1₀, e2₀, z₀.1, z₀.2.1]; exact h₀)) (fun w₀ Q₀ h₀ => ⟨h₀.1, Or.inl h₀.2⟩)
theorem ti_columnsOf0 {D : mg_D} {l : Launch} (hl : l.stackTraces = false) {M : mg_M} {g₀ m₀ t₀ u₀ : Nat} {r₀ c₀ : Int} (I₀ : mh_INV M g₀ m₀ t₀ u₀) (h₀ : mh_rg (gi M t₀ 0) (gi M t₀ 1) r₀ c₀) : mh_opN D l 84 161 [.inl r₀, .inl c₀] M g₀ m₀ := by
  obtain ⟨st₀, rc, h4, si9, rts, hid₀, cnt₀, hco, hw, hh, hb₀, hd₀⟩ := mh_INV_m I₀
  have K9 := I₀.1
  have V9 := I₀.2.1
  have zf := I₀.2.2.2.1
  have sq := I₀.2.2.2.2.1
  have h' : mh_rg (gi M m₀ 1) (gi M m₀ 2) r₀ c₀ := by omega
  refine ⟨fun z₀ P => z₀ = gi M (mh_co M t₀ r₀ c₀) 3 ∧ P = M, mg_MtN (cX5_columnsOf0 hl K9 h₀) (fun v₀ P h₀ => ⟨_, h₀.1, rfl, h₀.2⟩), ?_⟩
  rintro z9 P ⟨hz, rfl⟩
  refine ⟨mh_far_rfl, fun o => ?_⟩
  have R : mg_Mt D l 161 [.inr (.inl m₀), .inl r₀, .inl c₀] (sl P o 0 z9) (fun v₀ N => v₀ = some (.inl (mh_fT P t₀ 3 r₀ c₀)) ∧ N = si (sl P o 0 z9) m₀ 0 0) mg_no := cX6_columnsOf0 hl (mh_INV_m (mh_INV_sl I₀)).1 (mh_INV_m (mh_INV_sl I₀)).2.1 h' (rts r₀ c₀ h')
  refine mg_MtN R ?_
  rintro w₀ Q₀ ⟨e₀, hQ⟩
  exact ⟨by rw [e₀, hz]; rfl, mh_INV_q (mh_INV_sl I₀) hQ⟩
theorem ti_columnsOf1 {D : mg_D} {l : Launch} (hl : l.stackTraces = false) {M : mg_M} {g₀ m₀ t₀ u₀ : Nat} {r₀ c₀ : Int} (I₀ : mh_INV M g₀ m₀ t₀ u₀) (h₀ : ¬ mh_rg (gi M t₀ 0) (gi M t₀ 1) r₀ c₀) : mh_opT D l 84 161 [.inl r₀, .inl c₀] M g₀ m₀ 1 1 := by
  refine mh_opT_of (cX5_columnsOf1 hl I₀.1 h₀) (fun P s₀ => ?_) I₀
  have IP := mh_INV_same I₀ s₀
  obtain ⟨v1₀, v2, v3⟩ := mh_same_v I₀ s₀
  have z₀ := I₀.2.2.2.1
  have e1₀ := v2 1 (by omega) (by omega)
  have e2₀ := v2 2 (by omega) (by omega)
  exact mg_MtN (cX6_columnsOf1 hl (mh_INV_m IP).1 (mh_INV_m IP).2.1 (by rw [e1₀, e2₀, z₀.1, z₀.2.1]; exact h₀)) (fun w₀ Q₀ h₀ => ⟨h₀.1, Or.inl h₀.2⟩)
theorem ti_contentAt0 {D : mg_D} {l : Launch} (hl : l.stackTraces = false) {M : mg_M} {g₀ m₀ t₀ u₀ : Nat} {r₀ c₀ : Int} (I₀ : mh_INV M g₀ m₀ t₀ u₀) (h₀ : mh_rg (gi M t₀ 0) (gi M t₀ 1) r₀ c₀) : mh_opN D l 85 162 [.inl r₀, .inl c₀] M g₀ m₀ := by
  obtain ⟨st₀, rc, h4, si9, rts, hid₀, cnt₀, hco, hw, hh, hb₀, hd₀⟩ := mh_INV_m I₀
  have K9 := I₀.1
  have V9 := I₀.2.1
  have zf := I₀.2.2.2.1
  have sq := I₀.2.2.2.2.1
  have h' : mh_rg (gi M m₀ 1) (gi M m₀ 2) r₀ c₀ := by omega
  refine ⟨fun z₀ P => z₀ = gi M (mh_co M t₀ r₀ c₀) 4 ∧ P = M, mg_MtN (cX5_contentAt0 hl K9 h₀) (fun v₀ P h₀ => ⟨_, h₀.1, rfl, h₀.2⟩), ?_⟩
  rintro z9 P ⟨hz, rfl⟩
  refine ⟨mh_far_rfl, fun o => ?_⟩
  have R : mg_Mt D l 162 [.inr (.inl m₀), .inl r₀, .inl c₀] (sl P o 0 z9) (fun v₀ N => v₀ = some (.inl (gi P (m₀ + 2) (mi P (m₀ + 1) r₀ c₀).toNat)) ∧ N = si (sl P o 0 z9) m₀ 0 0) mg_no := cX6_contentAt0 hl (mh_INV_m (mh_INV_sl I₀)).1 (mh_INV_m (mh_INV_sl I₀)).2.1 h' (by have := hid₀ r₀ c₀ h'; show 0 ≤ mi P (m₀ + 1) r₀ c₀ ∧ mi P (m₀ + 1) r₀ c₀ < 140; omega)
  refine mg_MtN R ?_
  rintro w₀ Q₀ ⟨e₀, hQ⟩
  exact ⟨by rw [e₀, hz, ← (sq.2.2.1 r₀ c₀ h₀).1], mh_INV_q (mh_INV_sl I₀) hQ⟩
theorem ti_contentAt1 {D : mg_D} {l : Launch} (hl : l.stackTraces = false) {M : mg_M} {g₀ m₀ t₀ u₀ : Nat} {r₀ c₀ : Int} (I₀ : mh_INV M g₀ m₀ t₀ u₀) (h₀ : ¬ mh_rg (gi M t₀ 0) (gi M t₀ 1) r₀ c₀) : mh_opT D l 85 162 [.inl r₀, .inl c₀] M g₀ m₀ 1 1 := by
  refine mh_opT_of (cX5_contentAt1 hl I₀.1 h₀) (fun P s₀ => ?_) I₀
  have IP := mh_INV_same I₀ s₀
  obtain ⟨v1₀, v2, v3⟩ := mh_same_v I₀ s₀
  have z₀ := I₀.2.2.2.1
  have e1₀ := v2 1 (by omega) (by omega)
  have e2₀ := v2 2 (by omega) (by omega)
  exact mg_MtN (cX6_contentAt1 hl (mh_INV_m IP).1 (mh_INV_m IP).2.1 (by rw [e1₀, e2₀, z₀.1, z₀.2.1]; exact h₀)) (fun w₀ Q₀ h₀ => ⟨h₀.1, Or.inl h₀.2⟩)
theorem ti_styleAt0 {D : mg_D} {l : Launch} (hl : l.stackTraces = false) {M : mg_M} {g₀ m₀ t₀ u₀ : Nat} {r₀ c₀ : Int} (I₀ : mh_INV M g₀ m₀ t₀ u₀) (h₀ : mh_rg (gi M t₀ 0) (gi M t₀ 1) r₀ c₀) : mh_opN D l 86 163 [.inl r₀, .inl c₀] M g₀ m₀ := by
  obtain ⟨st₀, rc, h4, si9, rts, hid₀, cnt₀, hco, hw, hh, hb₀, hd₀⟩ := mh_INV_m I₀
  have K9 := I₀.1
  have V9 := I₀.2.1
  have zf := I₀.2.2.2.1
  have sq := I₀.2.2.2.2.1
  have h' : mh_rg (gi M m₀ 1) (gi M m₀ 2) r₀ c₀ := by omega
  refine ⟨fun z₀ P => z₀ = gi M (mh_co M t₀ r₀ c₀) 5 ∧ P = M, mg_MtN (cX5_styleAt0 hl K9 h₀) (fun v₀ P h₀ => ⟨_, h₀.1, rfl, h₀.2⟩), ?_⟩
  rintro z9 P ⟨hz, rfl⟩
  refine ⟨mh_far_rfl, fun o => ?_⟩
  have R : mg_Mt D l 163 [.inr (.inl m₀), .inl r₀, .inl c₀] (sl P o 0 z9) (fun v₀ N => v₀ = some (.inl (gi P (m₀ + 3) (mi P (m₀ + 1) r₀ c₀).toNat)) ∧ N = si (sl P o 0 z9) m₀ 0 0) mg_no := cX6_styleAt0 hl (mh_INV_m (mh_INV_sl I₀)).1 (mh_INV_m (mh_INV_sl I₀)).2.1 h' (by have := hid₀ r₀ c₀ h'; show 0 ≤ mi P (m₀ + 1) r₀ c₀ ∧ mi P (m₀ + 1) r₀ c₀ < 140; omega)
  refine mg_MtN R ?_
  rintro w₀ Q₀ ⟨e₀, hQ⟩
  exact ⟨by rw [e₀, hz, ← (sq.2.2.1 r₀ c₀ h₀).2], mh_INV_q (mh_INV_sl I₀) hQ⟩
theorem ti_styleAt1 {D : mg_D} {l : Launch} (hl : l.stackTraces = false) {M : mg_M} {g₀ m₀ t₀ u₀ : Nat} {r₀ c₀ : Int} (I₀ : mh_INV M g₀ m₀ t₀ u₀) (h₀ : ¬ mh_rg (gi M t₀ 0) (gi M t₀ 1) r₀ c₀) : mh_opT D l 86 163 [.inl r₀, .inl c₀] M g₀ m₀ 1 1 := by
  refine mh_opT_of (cX5_styleAt1 hl I₀.1 h₀) (fun P s₀ => ?_) I₀
  have IP := mh_INV_same I₀ s₀
  obtain ⟨v1₀, v2, v3⟩ := mh_same_v I₀ s₀
  have z₀ := I₀.2.2.2.1
  have e1₀ := v2 1 (by omega) (by omega)
  have e2₀ := v2 2 (by omega) (by omega)
  exact mg_MtN (cX6_styleAt1 hl (mh_INV_m IP).1 (mh_INV_m IP).2.1 (by rw [e1₀, e2₀, z₀.1, z₀.2.1]; exact h₀)) (fun w₀ Q₀ h₀ => ⟨h₀.1, Or.inl h₀.2⟩)
theorem ti_widthOf0 {D : mg_D} {l : Launch} (hl : l.stackTraces = false) {M : mg_M} {g₀ m₀ t₀ u₀ : Nat} {c₀ : Int} (I₀ : mh_INV M g₀ m₀ t₀ u₀) (h₀ : 0 ≤ c₀ ∧ c₀ < gi M t₀ 1) : mh_opN D l 101 193 [.inl c₀] M g₀ m₀ := by
  obtain ⟨st₀, rc, h4, si9, rts, hid₀, cnt₀, hco, hw, hh, hb₀, hd₀⟩ := mh_INV_m I₀
  have K9 := I₀.1
  have V9 := I₀.2.1
  have zf := I₀.2.2.2.1
  have sq := I₀.2.2.2.2.1
  refine ⟨fun z₀ P => z₀ = gi M (t₀ + 2) c₀.toNat ∧ P = M, mg_MtN (cX5_widthOf0 hl K9 h₀) (fun v₀ P h₀ => ⟨_, h₀.1, rfl, h₀.2⟩), ?_⟩
  rintro z9 P ⟨hz, rfl⟩
  refine ⟨mh_far_rfl, fun o => ?_⟩
  have R : mg_Mt D l 193 [.inr (.inl m₀), .inl c₀] (sl P o 0 z9) (fun v₀ N => v₀ = some (.inl (gi P (m₀ + 4) c₀.toNat)) ∧ N = si (sl P o 0 z9) m₀ 0 0) mg_no := cX6_widthOf0 hl (mh_INV_m (mh_INV_sl I₀)).1 (mh_INV_m (mh_INV_sl I₀)).2.1 (by show 0 ≤ c₀ ∧ c₀ < gi P m₀ 2; omega)
  refine mg_MtN R ?_
  rintro w₀ Q₀ ⟨e₀, hQ⟩
  exact ⟨by rw [e₀, hz, ← sq.2.2.2.1 c₀ h₀.1 h₀.2], mh_INV_q (mh_INV_sl I₀) hQ⟩
theorem ti_widthOf1 {D : mg_D} {l : Launch} (hl : l.stackTraces = false) {M : mg_M} {g₀ m₀ t₀ u₀ : Nat} {c₀ : Int} (I₀ : mh_INV M g₀ m₀ t₀ u₀) (h₀ : ¬ (0 ≤ c₀ ∧ c₀ < gi M t₀ 1)) : mh_opT D l 101 193 [.inl c₀] M g₀ m₀ 1 1 := by
  refine mh_opT_of (cX5_widthOf1 hl I₀.1 h₀) (fun P s₀ => ?_) I₀
  have IP := mh_INV_same I₀ s₀
  obtain ⟨v1₀, v2, v3⟩ := mh_same_v I₀ s₀
  have z₀ := I₀.2.2.2.1
  have e1₀ := v2 1 (by omega) (by omega)
  have e2₀ := v2 2 (by omega) (by omega)
  exact mg_MtN (cX6_widthOf1 hl (mh_INV_m IP).1 (mh_INV_m IP).2.1 (by omega)) (fun w₀ Q₀ h₀ => ⟨h₀.1, Or.inl h₀.2⟩)
theorem ti_heightOf0 {D : mg_D} {l : Launch} (hl : l.stackTraces = false) {M : mg_M} {g₀ m₀ t₀ u₀ : Nat} {c₀ : Int} (I₀ : mh_INV M g₀ m₀ t₀ u₀) (h₀ : 0 ≤ c₀ ∧ c₀ < gi M t₀ 0) : mh_opN D l 102 194 [.inl c₀] M g₀ m₀ := by
  obtain ⟨st₀, rc, h4, si9, rts, hid₀, cnt₀, hco, hw, hh, hb₀, hd₀⟩ := mh_INV_m I₀
  have K9 := I₀.1
  have V9 := I₀.2.1
  have zf := I₀.2.2.2.1
  have sq := I₀.2.2.2.2.1
  refine ⟨fun z₀ P => z₀ = gi M (t₀ + 1) c₀.toNat ∧ P = M, mg_MtN (cX5_heightOf0 hl K9 h₀) (fun v₀ P h₀ => ⟨_, h₀.1, rfl, h₀.2⟩), ?_⟩
  rintro z9 P ⟨hz, rfl⟩
  refine ⟨mh_far_rfl, fun o => ?_⟩
  have R : mg_Mt D l 194 [.inr (.inl m₀), .inl c₀] (sl P o 0 z9) (fun v₀ N => v₀ = some (.inl (gi P (m₀ + 5) c₀.toNat)) ∧ N = si (sl P o 0 z9) m₀ 0 0) mg_no := cX6_heightOf0 hl (mh_INV_m (mh_INV_sl I₀)).1 (mh_INV_m (mh_INV_sl I₀)).2.1 (by show 0 ≤ c₀ ∧ c₀ < gi P m₀ 1; omega)
  refine mg_MtN R ?_
  rintro w₀ Q₀ ⟨e₀, hQ⟩
  exact ⟨by rw [e₀, hz, ← sq.2.2.2.2 c₀ h₀.1 h₀.2], mh_INV_q (mh_INV_sl I₀) hQ⟩
theorem ti_heightOf1 {D : mg_D} {l : Launch} (hl : l.stackTraces = false) {M : mg_M} {g₀ m₀ t₀ u₀ : Nat} {c₀ : Int} (I₀ : mh_INV M g₀ m₀ t₀ u₀) (h₀ : ¬ (0 ≤ c₀ ∧ c₀ < gi M t₀ 0)) : mh_opT D l 102 194 [.inl c₀] M g₀ m₀ 1 1 := by
  refine mh_opT_of (cX5_heightOf1 hl I₀.1 h₀) (fun P s₀ => ?_) I₀
  have IP := mh_INV_same I₀ s₀
  obtain ⟨v1₀, v2, v3⟩ := mh_same_v I₀ s₀
  have z₀ := I₀.2.2.2.1
  have e1₀ := v2 1 (by omega) (by omega)
  have e2₀ := v2 2 (by omega) (by omega)
  exact mg_MtN (cX6_heightOf1 hl (mh_INV_m IP).1 (mh_INV_m IP).2.1 (by omega)) (fun w₀ Q₀ h₀ => ⟨h₀.1, Or.inl h₀.2⟩)
theorem ti_selected0 {D : mg_D} {l : Launch} (hl : l.stackTraces = false) {M : mg_M} {g₀ m₀ t₀ u₀ : Nat} {x₀ : Int} (I₀ : mh_INV M g₀ m₀ t₀ u₀) (h₀ : x₀ = 116 ∨ x₀ = 98 ∨ x₀ = 108 ∨ x₀ = 114) : mh_opN D l 90 168 [.inl x₀] M g₀ m₀ := by
  obtain ⟨st₀, rc, h4, si9, rts, hid₀, cnt₀, hco, hw, hh, hb₀, hd₀⟩ := mh_INV_m I₀
  have K9 := I₀.1
  have V9 := I₀.2.1
  have zf := I₀.2.2.2.1
  have sq := I₀.2.2.2.2.1
  have sl9 := I₀.2.2.2.2.2.2.1.1
  refine ⟨fun z₀ P => z₀ = (if x₀ = 116 then gi M (g₀ + 259) 0 else if x₀ = 98 then gi M (g₀ + 259) 2 else if x₀ = 108 then gi M (g₀ + 259) 1 else gi M (g₀ + 259) 3) ∧ P = M, mg_MtN (cX5_selected0 hl K9 h₀) (fun v₀ P h₀ => ⟨_, h₀.1, rfl, h₀.2⟩), ?_⟩
  rintro z9 P ⟨hz, rfl⟩
  refine ⟨mh_far_rfl, fun o => ?_⟩
  have R : mg_Mt D l 168 [.inr (.inl m₀), .inl x₀] (sl P o 0 z9) (fun v₀ N => v₀ = some (.inl (if x₀ = 116 then gi P m₀ 21 else if x₀ = 98 then gi P m₀ 22 else if x₀ = 108 then gi P m₀ 23 else gi P m₀ 24)) ∧ N = si (sl P o 0 z9) m₀ 0 0) mg_no := cX6_selected0 hl (mh_INV_m (mh_INV_sl I₀)).1 h₀
  refine mg_MtN R ?_
  rintro w₀ Q₀ ⟨e₀, hQ⟩
  exact ⟨by rw [e₀, hz, sl9.1, sl9.2.1, sl9.2.2.1, sl9.2.2.2], mh_INV_q (mh_INV_sl I₀) hQ⟩
theorem ti_selected1 {D : mg_D} {l : Launch} (hl : l.stackTraces = false) {M : mg_M} {g₀ m₀ t₀ u₀ : Nat} {x₀ : Int} (I₀ : mh_INV M g₀ m₀ t₀ u₀) (h₀ : x₀ ≠ 116 ∧ x₀ ≠ 98 ∧ x₀ ≠ 108 ∧ x₀ ≠ 114) : mh_opT D l 90 168 [.inl x₀] M g₀ m₀ 3 1 := by
  refine mh_opT_of (cX5_selected1 hl I₀.1 h₀) (fun P s₀ => ?_) I₀
  have IP := mh_INV_same I₀ s₀
  exact mg_MtN (cX6_selected1 hl (mh_INV_m IP).1 h₀) (fun w₀ Q₀ h₀ => ⟨h₀.1, Or.inl h₀.2⟩)
