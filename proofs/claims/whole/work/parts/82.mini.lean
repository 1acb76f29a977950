/-! the reference's constructor -/
theorem kd_al {M : mg_M} {c₀ n₀ b₀ : Nat} : kd (al M c₀ n₀) b₀ = if b₀ = nx M then c₀ else kd M b₀ := rfl
theorem ln_al {M : mg_M} {c₀ n₀ b₀ : Nat} : ln (al M c₀ n₀) b₀ = if b₀ = nx M then n₀ else ln M b₀ := rfl
theorem gi_al {M : mg_M} {c₀ n₀ b₀ k₀ : Nat} : gi (al M c₀ n₀) b₀ k₀ = if b₀ = nx M then 0 else gi M b₀ k₀ := rfl
theorem gr_al {M : mg_M} {c₀ n₀ b₀ k₀ : Nat} : gr (al M c₀ n₀) b₀ k₀ = if b₀ = nx M then 0 else gr M b₀ k₀ := rfl
theorem gl_al {M : mg_M} {c₀ n₀ b₀ k₀ : Nat} : gl (al M c₀ n₀) b₀ k₀ = if b₀ = nx M then 0 else gl M b₀ k₀ := rfl
theorem gd_al {M : mg_M} {c₀ n₀ b₀ k₀ : Nat} : gd (al M c₀ n₀) b₀ k₀ = if b₀ = nx M then 0 else gd M b₀ k₀ := rfl
theorem nx_al {M : mg_M} {c₀ n₀ : Nat} : nx (al M c₀ n₀) = nx M + 1 := rfl
theorem gl_sr {M : mg_M} {a₀ k₀ b₀ j₀ : Nat} {x₀ : Nat} : gl (sr M a₀ k₀ x₀) b₀ j₀ = gl M b₀ j₀ := rfl
theorem gd_sr {M : mg_M} {a₀ k₀ b₀ j₀ : Nat} {x₀ : Nat} : gd (sr M a₀ k₀ x₀) b₀ j₀ = gd M b₀ j₀ := rfl
def mm_fk (i₀ : Nat) : Nat := [5, 6, 7, 8, 9, 14, 15, 16, 17, 18, 19, 20, 28, 29, 30, 31, 36].getD i₀ 0
def mm_fl (i₀ : Nat) : Nat := [120, 140, 140, 10, 12, 120, 140, 140, 10, 12, 120, 140, 120, 140, 140, 140, 12].getD i₀ 0
theorem mm_fki : ∀ i₀, i₀ < 17 → ∀ j₀, j₀ < 17 → mm_fk i₀ = mm_fk j₀ → i₀ = j₀ := by decide
/-- all below₀ an address₀ is₀ as₀ it was -/
def mm_lo (M Z₀ : mg_M) (m₀ : Nat) : Prop := ∀ a₀, a₀ < m₀ → kd Z₀ a₀ = kd M a₀ ∧ ln Z₀ a₀ = ln M a₀ ∧ (∀ k₀, gr Z₀ a₀ k₀ = gr M a₀ k₀) ∧ (∀ k₀, gi Z₀ a₀ k₀ = gi M a₀ k₀) ∧ (∀ k₀, gl Z₀ a₀ k₀ = gl M a₀ k₀) ∧ (∀ k₀, gd Z₀ a₀ k₀ = gd M a₀ k₀)
def mm_ini (M Z₀ : mg_M) (m₀ j₀ : Nat) : Prop := nx Z₀ = m₀ + 1 + j₀ ∧ kd Z₀ m₀ = 7 ∧ mm_lo M Z₀ m₀ ∧ (∀ i₀, i₀ < j₀ → gr Z₀ m₀ (mm_fk i₀) = m₀ + (i₀ + 1) ∧ kd Z₀ (m₀ + (i₀ + 1)) = 8 ∧ ln Z₀ (m₀ + (i₀ + 1)) = mm_fl i₀) ∧ (∀ k₀, gi Z₀ m₀ k₀ = if k₀ = 1 ∨ k₀ = 2 then 4 else 0) ∧ (∀ a₀ k₀, m₀ < a₀ → a₀ < m₀ + 1 + j₀ → gi Z₀ a₀ k₀ = 0)
theorem mm_ini1 {M Z₀ : mg_M} {m₀ j₀ : Nat} (h₀ : mm_ini M Z₀ m₀ j₀) (hj : j₀ < 17) : mm_ini M (sr (al Z₀ 8 (mm_fl j₀)) m₀ (mm_fk j₀) (nx Z₀)) m₀ (j₀ + 1) := by
  obtain ⟨h1, h2, h3, h4, h5, h6⟩ := h₀
  refine ⟨?_, ?_, fun a₀ ha₀ => ?_, fun i₀ hi => ?_, fun k₀ => ?_, fun a₀ k₀ ha₀ ha2 => ?_⟩
  · rw [nx_sr, nx_al]; omega
  · rw [kd_sr, kd_al, if_neg (by omega)]; exact h2
  · obtain ⟨g1, g2, g3₀, g4, g5₀, g6⟩ := h3 a₀ ha₀
    refine ⟨?_, ?_, fun k₀ => ?_, fun k₀ => ?_, fun k₀ => ?_, fun k₀ => ?_⟩
    · rw [kd_sr, kd_al, if_neg (by omega)]; exact g1
    · rw [ln_sr, ln_al, if_neg (by omega)]; exact g2
    · rw [gr_sr, if_neg (by omega), gr_al, if_neg (by omega)]; exact g3₀ k₀
    · rw [gi_sr, gi_al, if_neg (by omega)]; exact g4 k₀
    · rw [gl_sr, gl_al, if_neg (by omega)]; exact g5₀ k₀
    · rw [gd_sr, gd_al, if_neg (by omega)]; exact g6 k₀
  · by_cases e₀ : i₀ = j₀
    · subst e₀
      rw [gr_sr, if_pos ⟨rfl, rfl⟩, kd_sr, kd_al, if_pos (by omega), ln_sr, ln_al, if_pos (by omega)]
      exact ⟨by omega, rfl, rfl⟩
    · have g₀ := h4 i₀ (by omega)
      have ne₀ : ¬ (mm_fk i₀ = mm_fk j₀) := fun q₀ => e₀ (mm_fki i₀ (by omega) j₀ hj q₀)
      rw [gr_sr, if_neg (fun q₀ => ne₀ q₀.2), gr_al, if_neg (by omega), kd_sr, kd_al, if_neg (by omega), ln_sr, ln_al, if_neg (by omega)]
      exact g₀
  · rw [gi_sr, gi_al, if_neg (by omega)]; exact h5 k₀
  · rw [gi_sr, gi_al]
    split
    · rfl
    · exact h6 a₀ k₀ ha₀ (by omega)
theorem mm_ini_st {M Z₀ : mg_M} {m₀ : Nat} (h₀ : mm_ini M Z₀ m₀ 17) : mm_st Z₀ m₀ := by
  obtain ⟨h1, h2, h3, h4, h5, h6⟩ := h₀
  exact ⟨h2, ⟨h4 0 (by decide), h4 1 (by decide), h4 2 (by decide), h4 3 (by decide), h4 4 (by decide)⟩, ⟨h4 5 (by decide), h4 6 (by decide), h4 7 (by decide), h4 8 (by decide), h4 9 (by decide)⟩, h4 10 (by decide), h4 11 (by decide), ⟨h4 12 (by decide), h4 13 (by decide), h4 14 (by decide)⟩, h4 15 (by decide), h4 16 (by decide)⟩
theorem mm_lo_f {S : Nat → Nat → Prop} {M Z₀ N : mg_M} {m₀ : Nat} (f₀ : mm_f S Z₀ N) (n₀ : ∀ a₀ k₀, a₀ < m₀ → ¬ S a₀ k₀) (h₀ : mm_lo M Z₀ m₀) : mm_lo M N m₀ := by
  intro a₀ ha₀
  obtain ⟨g1, g2, g3₀, g4, g5₀, g6⟩ := h₀ a₀ ha₀
  obtain ⟨f1₀, f2₀, f3₀, f4₀, f5₀, f6₀, f7₀⟩ := f₀
  exact ⟨(f1₀ a₀).trans g1, (f2₀ a₀).trans g2, fun k₀ => (f3₀ a₀ k₀).trans (g3₀ k₀), fun k₀ => ((f7₀ a₀ k₀).resolve_left (n₀ a₀ k₀ ha₀)).trans (g4 k₀), fun k₀ => (f5₀ a₀ k₀).trans (g5₀ k₀), fun k₀ => (f6₀ a₀ k₀).trans (g6 k₀)⟩
/-- the reference₀ when it is₀ new₀ -/
def mm_new0 (M N : mg_M) (m₀ : Nat) : Prop := mm_st N m₀ ∧ nx N = m₀ + 18 ∧ mm_lo M N m₀ ∧ (gi N m₀ 1 = 4 ∧ gi N m₀ 2 = 4 ∧ gi N m₀ 3 = 0 ∧ gi N m₀ 10 = 0) ∧ (gi N m₀ 21 = 0 ∧ gi N m₀ 22 = 0 ∧ gi N m₀ 23 = 0 ∧ gi N m₀ 24 = 0) ∧ (gi N m₀ 25 = 0 ∧ gi N m₀ 26 = 0 ∧ gi N m₀ 27 = 0) ∧ (0 ≤ gi N m₀ 4 ∧ gi N m₀ 4 ≤ 120) ∧ (∀ r₀ c₀, mh_rg 4 4 r₀ c₀ → 0 ≤ mi N (m₀ + 1) r₀ c₀ ∧ mi N (m₀ + 1) r₀ c₀ < gi N m₀ 4) ∧ (∀ k₀, 0 ≤ k₀ → k₀ < gi N m₀ 4 → ∃ r₀ c₀, mh_rg 4 4 r₀ c₀ ∧ mi N (m₀ + 1) r₀ c₀ = k₀) ∧ (∀ r₀ c₀ r' c', mh_rg 4 4 r₀ c₀ → mh_rg 4 4 r' c' → (mi N (m₀ + 1) r₀ c₀ = mi N (m₀ + 1) r' c' ↔ r₀ = r' ∧ c₀ = c')) ∧ (∀ r₀ c₀, mh_rg 4 4 r₀ c₀ → gi N (m₀ + 2) (mi N (m₀ + 1) r₀ c₀).toNat = 0 ∧ gi N (m₀ + 3) (mi N (m₀ + 1) r₀ c₀).toNat = 0) ∧ (∀ k₀ : Nat, k₀ < 10 → gi N (m₀ + 4) k₀ = 50) ∧ (∀ k₀ : Nat, k₀ < 12 → gi N (m₀ + 5) k₀ = 20)
set_option maxRecDepth 100000 in
theorem cX6_init {D : mg_D} {l : Launch} (hl : l.stackTraces = false) {M : mg_M} {m₀ : Nat} (k7₀ : kd M m₀ = 7) (hn : nx M = m₀ + 1) (hz : ∀ k₀, gi M m₀ k₀ = 0) : mg_Mt D l 123 [.inr (.inl m₀)] M (fun v₀ N => v₀ = none ∧ mm_new0 M N m₀) mg_no := by
  refine mg_of2 hl ok_X6_init al_X6_init rfl (fun K hK₀ => ?_)
  have L4₀ : ∀ Z₀ N, mm_ini M Z₀ m₀ 17 → mm_f (fun b₀ _ => b₀ = m₀ + 1 ∨ b₀ = m₀ + 4 ∨ b₀ = m₀ + 5) Z₀ N → (∀ k₀ : Nat, k₀ < 10 → gi N (m₀ + 4) k₀ = 50) → (∀ k₀ : Nat, k₀ < 12 → gi N (m₀ + 5) k₀ = 20) → (∀ k₀ : Nat, k₀ < 120 → gi N (m₀ + 1) k₀ = k₀) → mg_Mt D l 129 [.inr (.inl m₀)] N (fun v₀ P => v₀ = none ∧ mm_new0 M P m₀) mg_no := by
    intro Z₀ N h₀ f₀ v4₀ v5 v1₀
    have stN₀ := mm_f_st f₀ (mm_ini_st h₀)
    obtain ⟨h1, h2, h3, h4, h5, h6⟩ := h₀
    have e₀ := fun k₀ => (mm_f_gi f₀ m₀ k₀ (by omega)).trans (h5 k₀)
    have e1₀ : gi N m₀ 1 = 4 := by rw [e₀, if_pos (by omega)]
    have e2₀ : gi N m₀ 2 = 4 := by rw [e₀, if_pos (by omega)]
    have ei : ∀ r₀ c₀, mh_rg 4 4 r₀ c₀ → mi N (m₀ + 1) r₀ c₀ = 10 * r₀ + c₀ := fun r₀ c₀ hr => by unfold mi; rw [v1₀ _ (by omega)]; omega
    refine mg_MtN (cX6_settles hl stN₀ (by unfold mm_rc; omega) (fun r₀ c₀ hr => by rw [e1₀, e2₀] at hr; rw [ei r₀ c₀ hr]; omega)) ?_
    rintro v₀ P ⟨q₀, s1₀, s2₀, s3₀, s4₀, s5, s6₀⟩
    rw [e1₀, e2₀] at s3₀ s4₀ s5 s6₀
    have eP := fun k₀ (hk : k₀ ≠ 4) => (mm_f_gi s1₀ m₀ k₀ (by omega)).trans (e₀ k₀)
    refine ⟨q₀, mm_f_st s1₀ stN₀, by rw [s1₀.2.2.2.1, f₀.2.2.2.1]; exact h1, mm_lo_f s1₀ (fun a₀ k₀ ha₀ => by omega) (mm_lo_f f₀ (fun a₀ k₀ ha₀ => by omega) h3), ⟨?_, ?_, ?_, ?_⟩, ⟨?_, ?_, ?_, ?_⟩, ⟨?_, ?_, ?_⟩, s2₀, s3₀, s4₀, ?_, ?_, fun k₀ hk => ?_, fun k₀ hk => ?_⟩
    · rw [eP 1 (by omega), if_pos (by omega)]
    · rw [eP 2 (by omega), if_pos (by omega)]
    · rw [eP 3 (by omega), if_neg (by omega)]
    · rw [eP 10 (by omega), if_neg (by omega)]
    · rw [eP 21 (by omega), if_neg (by omega)]
    · rw [eP 22 (by omega), if_neg (by omega)]
    · rw [eP 23 (by omega), if_neg (by omega)]
    · rw [eP 24 (by omega), if_neg (by omega)]
    · rw [eP 25 (by omega), if_neg (by omega)]
    · rw [eP 26 (by omega), if_neg (by omega)]
    · rw [eP 27 (by omega), if_neg (by omega)]
    · intro r₀ c₀ r' c' hr hr'
      rw [s5 r₀ c₀ r' c' hr hr', ei r₀ c₀ hr, ei r' c' hr']
      omega
    · intro r₀ c₀ hr
      rw [(s6₀ r₀ c₀ hr).1, (s6₀ r₀ c₀ hr).2, mm_f_gi f₀ (m₀ + 2) _ (by omega), mm_f_gi f₀ (m₀ + 3) _ (by omega)]
      exact ⟨h6 _ _ (by omega) (by omega), h6 _ _ (by omega) (by omega)⟩
    · rw [mm_f_gi s1₀ (m₀ + 4) _ (by omega)]; exact v4₀ k₀ hk
    · rw [mm_f_gi s1₀ (m₀ + 5) _ (by omega)]; exact v5 k₀ hk
  have L3₀ : ∀ Z₀ N, mm_ini M Z₀ m₀ 17 → mm_f (fun b₀ _ => b₀ = m₀ + 1 ∨ b₀ = m₀ + 4 ∨ b₀ = m₀ + 5) Z₀ N → (∀ k₀ : Nat, k₀ < 10 → gi N (m₀ + 4) k₀ = 50) → (∀ k₀ : Nat, k₀ < 12 → gi N (m₀ + 5) k₀ = 20) → K 204 [(0, Sum.inr (Sum.inl m₀)), (1, Sum.inl 0)] [] N 3 := by
    intro Z₀ N h₀ f₀ v4₀ v5
    have stN₀ := mm_f_st f₀ (mm_ini_st h₀)
    refine mh_for (P := fun j₀ Y => mm_f (fun b₀ _ => b₀ = m₀ + 1) N Y ∧ ∀ k₀ : Nat, (k₀ : Int) < j₀ → gi Y (m₀ + 1) k₀ = k₀) (G := fun j₀ Y => K 204 [(0, Sum.inr (Sum.inl m₀)), (1, Sum.inl j₀)] [] Y 3) (lo := 0) (hi := 120) (by omega) ?_ ?_ N ⟨mm_f_rfl, fun k₀ hk => by omega⟩
    · rintro Y ⟨g₀, w₀⟩
      have k7Y := (mm_f_st g₀ stN₀).1
      have se := L4₀ Z₀ Y h₀ (mm_f_tr f₀ (mm_f_mono g₀ (fun b₀ k₀ z₀ => by omega))) (fun k₀ hk => by rw [mm_f_gi g₀ (m₀ + 4) _ (by omega)]; exact v4₀ k₀ hk) (fun k₀ hk => by rw [mm_f_gi g₀ (m₀ + 5) _ (by omega)]; exact v5 k₀ hk) (fun k₀ hk => w₀ k₀ (by omega))
      clear L4₀ w₀ v4₀ v5 hz h₀
      refine hK₀ _ _ _ _ _ ?_
      (repeat' (((conv => whnf); first | (show (_ : Option mg_V) = _ ∧ _; assumption) | (show K _ _ _ _ _; assumption) | (show mm_th _ _ _ _; assumption) | refine And.intro (by first | assumption | omega | (simp only [true_and, kd_si, ln_si, gr_si]; first | done | assumption | omega)) ?_ | (refine And.intro (fun _ => ?_) (fun _ => ?_) <;> first | (exfalso; omega) | skip) | intro _ | fail)))
      (conv => whnf)
      refine Exists.intro _ (Exists.intro _ (And.intro (se) (And.intro ?_ (fun _ _ h₀ => h₀.elim))))
      rintro _ P ⟨rfl, Q1₀⟩
      have Q₀ := And.intro (Eq.refl (none : Option mg_V)) Q1₀
      clear se
      (repeat' (((conv => whnf); first | (show (_ : Option mg_V) = _ ∧ _; assumption) | (show K _ _ _ _ _; assumption) | (show mm_th _ _ _ _; assumption) | refine And.intro (by first | assumption | omega | (simp only [true_and, kd_si, ln_si, gr_si]; first | done | assumption | omega)) ?_ | (refine And.intro (fun _ => ?_) (fun _ => ?_) <;> first | (exfalso; omega) | skip) | intro _ | fail)))
    · rintro j₀ Y j0 j1 ⟨g₀, w₀⟩ nex
      have stY := mm_f_st g₀ stN₀
      have k7Y := stY.1
      obtain ⟨a5, d5₀⟩ := mm_arf stY.2.1.1 (by decide)
      have w2₀ := nex (si Y (m₀ + 1) j₀.toNat j₀) ⟨mm_f_si g₀ rfl, fun k₀ hk => by
        rw [gi_si]
        by_cases e₀ : k₀ = j₀.toNat
        · rw [if_pos ⟨rfl, e₀⟩]; omega
        · rw [if_neg (by omega)]; exact w₀ k₀ (by omega)⟩
      clear L4₀ nex w₀ v4₀ v5 hz h₀
      refine hK₀ _ _ _ _ _ ?_
      (repeat' (((conv => whnf); first | (show (_ : Option mg_V) = _ ∧ _; assumption) | (show K _ _ _ _ _; assumption) | (show mm_th _ _ _ _; assumption) | refine And.intro (by first | assumption | omega | (simp only [true_and, kd_si, ln_si, gr_si]; first | done | assumption | omega)) ?_ | (refine And.intro (fun _ => ?_) (fun _ => ?_) <;> first | (exfalso; omega) | skip) | intro _ | fail)))
      all_goals ((conv => whnf); rw [a5]; exact w2₀)
  have L2₀ : ∀ Z₀ N, mm_ini M Z₀ m₀ 17 → mm_f (fun b₀ _ => b₀ = m₀ + 1 ∨ b₀ = m₀ + 4 ∨ b₀ = m₀ + 5) Z₀ N → (∀ k₀ : Nat, k₀ < 10 → gi N (m₀ + 4) k₀ = 50) → K 182 [(0, Sum.inr (Sum.inl m₀)), (1, Sum.inl 0)] [] N 3 := by
    intro Z₀ N h₀ f₀ v4₀
    have stN₀ := mm_f_st f₀ (mm_ini_st h₀)
    refine mh_for (P := fun j₀ Y => mm_f (fun b₀ _ => b₀ = m₀ + 5) N Y ∧ ∀ k₀ : Nat, (k₀ : Int) < j₀ → gi Y (m₀ + 5) k₀ = 20) (G := fun j₀ Y => K 182 [(0, Sum.inr (Sum.inl m₀)), (1, Sum.inl j₀)] [] Y 3) (lo := 0) (hi := 12) (by omega) ?_ ?_ N ⟨mm_f_rfl, fun k₀ hk => by omega⟩
    · rintro Y ⟨g₀, w₀⟩
      have k7Y := (mm_f_st g₀ stN₀).1
      have q₀ := L3₀ Z₀ Y h₀ (mm_f_tr f₀ (mm_f_mono g₀ (fun b₀ k₀ z₀ => by omega))) (fun k₀ hk => by rw [mm_f_gi g₀ (m₀ + 4) _ (by omega)]; exact v4₀ k₀ hk) (fun k₀ hk => w₀ k₀ (by omega))
      clear L4₀ L3₀ w₀ hz h₀
      refine hK₀ _ _ _ _ _ ?_
      (repeat' (((conv => whnf); first | (show (_ : Option mg_V) = _ ∧ _; assumption) | (show K _ _ _ _ _; assumption) | (show mm_th _ _ _ _; assumption) | refine And.intro (by first | assumption | omega | (simp only [true_and, kd_si, ln_si, gr_si]; first | done | assumption | omega)) ?_ | (refine And.intro (fun _ => ?_) (fun _ => ?_) <;> first | (exfalso; omega) | skip) | intro _ | fail)))
    · rintro j₀ Y j0 j1 ⟨g₀, w₀⟩ nex
      have stY := mm_f_st g₀ stN₀
      have k7Y := stY.1
      obtain ⟨a8, d8₀⟩ := mm_arf stY.2.1.2.2.2.2 (by decide)
      have w2₀ := nex (si Y (m₀ + 5) j₀.toNat 20) ⟨mm_f_si g₀ rfl, fun k₀ hk => by
        rw [gi_si]
        by_cases e₀ : k₀ = j₀.toNat
        · rw [if_pos ⟨rfl, e₀⟩]
        · rw [if_neg (by omega)]; exact w₀ k₀ (by omega)⟩
      clear L4₀ L3₀ nex w₀ hz h₀
      refine hK₀ _ _ _ _ _ ?_
      (repeat' (((conv => whnf); first | (show (_ : Option mg_V) = _ ∧ _; assumption) | (show K _ _ _ _ _; assumption) | (show mm_th _ _ _ _; assumption) | refine And.intro (by first | assumption | omega | (simp only [true_and, kd_si, ln_si, gr_si]; first | done | assumption | omega)) ?_ | (refine And.intro (fun _ => ?_) (fun _ => ?_) <;> first | (exfalso; omega) | skip) | intro _ | fail)))
      all_goals ((conv => whnf); rw [a8]; exact w2₀)
  have L1 : ∀ Z₀ N, mm_ini M Z₀ m₀ 17 → mm_f (fun b₀ _ => b₀ = m₀ + 1 ∨ b₀ = m₀ + 4 ∨ b₀ = m₀ + 5) Z₀ N → K 160 [(0, Sum.inr (Sum.inl m₀)), (1, Sum.inl 0)] [] N 3 := by
    intro Z₀ N h₀ f₀
    have stN₀ := mm_f_st f₀ (mm_ini_st h₀)
    refine mh_for (P := fun j₀ Y => mm_f (fun b₀ _ => b₀ = m₀ + 4) N Y ∧ ∀ k₀ : Nat, (k₀ : Int) < j₀ → gi Y (m₀ + 4) k₀ = 50) (G := fun j₀ Y => K 160 [(0, Sum.inr (Sum.inl m₀)), (1, Sum.inl j₀)] [] Y 3) (lo := 0) (hi := 10) (by omega) ?_ ?_ N ⟨mm_f_rfl, fun k₀ hk => by omega⟩
    · rintro Y ⟨g₀, w₀⟩
      have k7Y := (mm_f_st g₀ stN₀).1
      have q₀ := L2₀ Z₀ Y h₀ (mm_f_tr f₀ (mm_f_mono g₀ (fun b₀ k₀ z₀ => by omega))) (fun k₀ hk => w₀ k₀ (by omega))
      clear L4₀ L3₀ L2₀ w₀ hz h₀
      refine hK₀ _ _ _ _ _ ?_
      (repeat' (((conv => whnf); first | (show (_ : Option mg_V) = _ ∧ _; assumption) | (show K _ _ _ _ _; assumption) | (show mm_th _ _ _ _; assumption) | refine And.intro (by first | assumption | omega | (simp only [true_and, kd_si, ln_si, gr_si]; first | done | assumption | omega)) ?_ | (refine And.intro (fun _ => ?_) (fun _ => ?_) <;> first | (exfalso; omega) | skip) | intro _ | fail)))
    · rintro j₀ Y j0 j1 ⟨g₀, w₀⟩ nex
      have stY := mm_f_st g₀ stN₀
      have k7Y := stY.1
      obtain ⟨a8, d8₀⟩ := mm_arf stY.2.1.2.2.2.1 (by decide)
      have w2₀ := nex (si Y (m₀ + 4) j₀.toNat 50) ⟨mm_f_si g₀ rfl, fun k₀ hk => by
        rw [gi_si]
        by_cases e₀ : k₀ = j₀.toNat
        · rw [if_pos ⟨rfl, e₀⟩]
        · rw [if_neg (by omega)]; exact w₀ k₀ (by omega)⟩
      clear L4₀ L3₀ L2₀ nex w₀ hz h₀
      refine hK₀ _ _ _ _ _ ?_
      (repeat' (((conv => whnf); first | (show (_ : Option mg_V) = _ ∧ _; assumption) | (show K _ _ _ _ _; assumption) | (show mm_th _ _ _ _; assumption) | refine And.intro (by first | assumption | omega | (simp only [true_and, kd_si, ln_si, gr_si]; first | done | assumption | omega)) ?_ | (refine And.intro (fun _ => ?_) (fun _ => ?_) <;> first | (exfalso; omega) | skip) | intro _ | fail)))
      all_goals ((conv => whnf); rw [a8]; exact w2₀)
  clear L2₀ L3₀ L4₀
  have i0₀ : ∀ Z₀, Z₀ = si (si M m₀ 1 4) m₀ 2 4 → mm_ini M Z₀ m₀ 0 := by
    intro Z₀ hZ
    rw [hZ]
    refine ⟨hn, k7₀, fun a₀ ha₀ => ⟨rfl, rfl, fun k₀ => rfl, fun k₀ => ?_, fun k₀ => rfl, fun k₀ => rfl⟩, fun i₀ hi => by omega, fun k₀ => ?_, fun a₀ k₀ h1 h2 => by omega⟩
    · rw [gi_si, if_neg (by omega), gi_si, if_neg (by omega)]
    · rw [gi_si, gi_si, hz]
      (repeat' split) <;> first | rfl | omega
  refine hK₀ _ _ _ _ _ ?_
  (conv => whnf)
  refine And.intro k7₀ ?_
  (conv => whnf)
  refine And.intro (by rw [kd_si]; exact k7₀) ?_
  (conv => whnf)
  generalize hZ0 : si (si M m₀ 1 4) m₀ 2 4 = Z0
  have i0₀ := i0₀ Z0 hZ0.symm
  clear hZ0
  refine And.intro (by omega) ?_
  (conv => whnf)
  refine And.intro (by rw [kd_al, if_neg (by rw [i0₀.1]; omega)]; exact i0₀.2.1) ?_
  (conv => whnf)
  refine And.intro (by rw [i0₀.1]; omega) ?_
  have i1₀ := mm_ini1 i0₀ (by decide)
  change mm_ini M (sr (al Z0 8 (Int.toNat 120)) m₀ 5 (nx Z0)) m₀ 1 at i1₀
  generalize hZ1 : sr (al Z0 8 (Int.toNat 120)) m₀ 5 (nx Z0) = Z1 at *
  clear hZ1 i0₀
  (conv => whnf)
  refine And.intro (by omega) ?_
  (conv => whnf)
  refine And.intro (by rw [kd_al, if_neg (by rw [i1₀.1]; omega)]; exact i1₀.2.1) ?_
  (conv => whnf)
  refine And.intro (by rw [i1₀.1]; omega) ?_
  have i2₀ := mm_ini1 i1₀ (by decide)
  change mm_ini M (sr (al Z1 8 (Int.toNat 140)) m₀ 6 (nx Z1)) m₀ 2 at i2₀
  generalize hZ2 : sr (al Z1 8 (Int.toNat 140)) m₀ 6 (nx Z1) = Z2 at *
  clear hZ2 i1₀
  (conv => whnf)
  refine And.intro (by omega) ?_
  (conv => whnf)
  refine And.intro (by rw [kd_al, if_neg (by rw [i2₀.1]; omega)]; exact i2₀.2.1) ?_
  (conv => whnf)
  refine And.intro (by rw [i2₀.1]; omega) ?_
  have i3₀ := mm_ini1 i2₀ (by decide)
  change mm_ini M (sr (al Z2 8 (Int.toNat 140)) m₀ 7 (nx Z2)) m₀ 3 at i3₀
  generalize hZ3 : sr (al Z2 8 (Int.toNat 140)) m₀ 7 (nx Z2) = Z3 at *
  clear hZ3 i2₀
  (conv => whnf)
  refine And.intro (by omega) ?_
  (conv => whnf)
  refine And.intro (by rw [kd_al, if_neg (by rw [i3₀.1]; omega)]; exact i3₀.2.1) ?_
  (conv => whnf)
  refine And.intro (by rw [i3₀.1]; omega) ?_
  have i4₀ := mm_ini1 i3₀ (by decide)
  change mm_ini M (sr (al Z3 8 (Int.toNat 10)) m₀ 8 (nx Z3)) m₀ 4 at i4₀
  generalize hZ4 : sr (al Z3 8 (Int.toNat 10)) m₀ 8 (nx Z3) = Z4 at *
  clear hZ4 i3₀
  (conv => whnf)
  refine And.intro (by omega) ?_
  (conv => whnf)
  refine And.intro (by rw [kd_al, if_neg (by rw [i4₀.1]; omega)]; exact i4₀.2.1) ?_
  (conv => whnf)
  refine And.intro (by rw [i4₀.1]; omega) ?_
  have i5₀ := mm_ini1 i4₀ (by decide)
  change mm_ini M (sr (al Z4 8 (Int.toNat 12)) m₀ 9 (nx Z4)) m₀ 5 at i5₀
  generalize hZ5 : sr (al Z4 8 (Int.toNat 12)) m₀ 9 (nx Z4) = Z5 at *
  clear hZ5 i4₀
  (conv => whnf)
  refine And.intro (by omega) ?_
  (conv => whnf)
  refine And.intro (by rw [kd_al, if_neg (by rw [i5₀.1]; omega)]; exact i5₀.2.1) ?_
  (conv => whnf)
  refine And.intro (by rw [i5₀.1]; omega) ?_
  have i6₀ := mm_ini1 i5₀ (by decide)
  change mm_ini M (sr (al Z5 8 (Int.toNat 120)) m₀ 14 (nx Z5)) m₀ 6 at i6₀
  generalize hZ6 : sr (al Z5 8 (Int.toNat 120)) m₀ 14 (nx Z5) = Z6 at *
  clear hZ6 i5₀
  (conv => whnf)
  refine And.intro (by omega) ?_
  (conv => whnf)
  refine And.intro (by rw [kd_al, if_neg (by rw [i6₀.1]; omega)]; exact i6₀.2.1) ?_
  (conv => whnf)
  refine And.intro (by rw [i6₀.1]; omega) ?_
  have i7₀ := mm_ini1 i6₀ (by decide)
  change mm_ini M (sr (al Z6 8 (Int.toNat 140)) m₀ 15 (nx Z6)) m₀ 7 at i7₀
  generalize hZ7 : sr (al Z6 8 (Int.toNat 140)) m₀ 15 (nx Z6) = Z7 at *
  clear hZ7 i6₀
  (conv => whnf)
  refine And.intro (by omega) ?_
  (conv => whnf)
  refine And.intro (by rw [kd_al, if_neg (by rw [i7₀.1]; omega)]; exact i7₀.2.1) ?_
  (conv => whnf)
  refine And.intro (by rw [i7₀.1]; omega) ?_
  have i8₀ := mm_ini1 i7₀ (by decide)
  change mm_ini M (sr (al Z7 8 (Int.toNat 140)) m₀ 16 (nx Z7)) m₀ 8 at i8₀
  generalize hZ8 : sr (al Z7 8 (Int.toNat 140)) m₀ 16 (nx Z7) = Z8 at *
  clear hZ8 i7₀
  (conv => whnf)
  refine And.intro (by omega) ?_
  (conv => whnf)
  refine And.intro (by rw [kd_al, if_neg (by rw [i8₀.1]; omega)]; exact i8₀.2.1) ?_
  (conv => whnf)
  refine And.intro (by rw [i8₀.1]; omega) ?_
  have i9₀ := mm_ini1 i8₀ (by decide)
  change mm_ini M (sr (al Z8 8 (Int.toNat 10)) m₀ 17 (nx Z8)) m₀ 9 at i9₀
  generalize hZ9 : sr (al Z8 8 (Int.toNat 10)) m₀ 17 (nx Z8) = Z9 at *
  clear hZ9 i8₀
  (conv => whnf)
  refine And.intro (by omega) ?_
  (conv => whnf)
  refine And.intro (by rw [kd_al, if_neg (by rw [i9₀.1]; omega)]; exact i9₀.2.1) ?_
  (conv => whnf)
  refine And.intro (by rw [i9₀.1]; omega) ?_
  have i10₀ := mm_ini1 i9₀ (by decide)
  change mm_ini M (sr (al Z9 8 (Int.toNat 12)) m₀ 18 (nx Z9)) m₀ 10 at i10₀
  generalize hZ10 : sr (al Z9 8 (Int.toNat 12)) m₀ 18 (nx Z9) = Z10 at *
  clear hZ10 i9₀
  (conv => whnf)
  refine And.intro (by omega) ?_
  (conv => whnf)
  refine And.intro (by rw [kd_al, if_neg (by rw [i10₀.1]; omega)]; exact i10₀.2.1) ?_
  (conv => whnf)
  refine And.intro (by rw [i10₀.1]; omega) ?_
  have i11₀ := mm_ini1 i10₀ (by decide)
  change mm_ini M (sr (al Z10 8 (Int.toNat 120)) m₀ 19 (nx Z10)) m₀ 11 at i11₀
  generalize hZ11 : sr (al Z10 8 (Int.toNat 120)) m₀ 19 (nx Z10) = Z11 at *
  clear hZ11 i10₀
  (conv => whnf)
  refine And.intro (by omega) ?_
  (conv => whnf)
  refine And.intro (by rw [kd_al, if_neg (by rw [i11₀.1]; omega)]; exact i11₀.2.1) ?_
  (conv => whnf)
  refine And.intro (by rw [i11₀.1]; omega) ?_
  have i12₀ := mm_ini1 i11₀ (by decide)
  change mm_ini M (sr (al Z11 8 (Int.toNat 140)) m₀ 20 (nx Z11)) m₀ 12 at i12₀
  generalize hZ12 : sr (al Z11 8 (Int.toNat 140)) m₀ 20 (nx Z11) = Z12 at *
  clear hZ12 i11₀
  (conv => whnf)
  refine And.intro (by omega) ?_
  (conv => whnf)
  refine And.intro (by rw [kd_al, if_neg (by rw [i12₀.1]; omega)]; exact i12₀.2.1) ?_
  (conv => whnf)
  refine And.intro (by rw [i12₀.1]; omega) ?_
  have i13 := mm_ini1 i12₀ (by decide)
  change mm_ini M (sr (al Z12 8 (Int.toNat 120)) m₀ 28 (nx Z12)) m₀ 13 at i13
  generalize hZ13 : sr (al Z12 8 (Int.toNat 120)) m₀ 28 (nx Z12) = Z13 at *
  clear hZ13 i12₀
  (conv => whnf)
  refine And.intro (by omega) ?_
  (conv => whnf)
  refine And.intro (by rw [kd_al, if_neg (by rw [i13.1]; omega)]; exact i13.2.1) ?_
  (conv => whnf)
  refine And.intro (by rw [i13.1]; omega) ?_
  have i14 := mm_ini1 i13 (by decide)
  change mm_ini M (sr (al Z13 8 (Int.toNat 140)) m₀ 29 (nx Z13)) m₀ 14 at i14
  generalize hZ14 : sr (al Z13 8 (Int.toNat 140)) m₀ 29 (nx Z13) = Z14 at *
  clear hZ14 i13
  (conv => whnf)
  refine And.intro (by omega) ?_
  (conv => whnf)
  refine And.intro (by rw [kd_al, if_neg (by rw [i14.1]; omega)]; exact i14.2.1) ?_
  (conv => whnf)
  refine And.intro (by rw [i14.1]; omega) ?_
  have i15 := mm_ini1 i14 (by decide)
  change mm_ini M (sr (al Z14 8 (Int.toNat 140)) m₀ 30 (nx Z14)) m₀ 15 at i15
  generalize hZ15 : sr (al Z14 8 (Int.toNat 140)) m₀ 30 (nx Z14) = Z15 at *
  clear hZ15 i14
  (conv => whnf)
  refine And.intro (by omega) ?_
  (conv => whnf)
  refine And.intro (by rw [kd_al, if_neg (by rw [i15.1]; omega)]; exact i15.2.1) ?_
  (conv => whnf)
  refine And.intro (by rw [i15.1]; omega) ?_
  have i16 := mm_ini1 i15 (by decide)
  change mm_ini M (sr (al Z15 8 (Int.toNat 140)) m₀ 31 (nx Z15)) m₀ 16 at i16
  generalize hZ16 : sr (al Z15 8 (Int.toNat 140)) m₀ 31 (nx Z15) = Z16 at *
  clear hZ16 i15
  (conv => whnf)
  refine And.intro (by omega) ?_
  (conv => whnf)
  refine And.intro (by rw [kd_al, if_neg (by rw [i16.1]; omega)]; exact i16.2.1) ?_
  (conv => whnf)
  refine And.intro (by rw [i16.1]; omega) ?_
  have i17 := mm_ini1 i16 (by decide)
  change mm_ini M (sr (al Z16 8 (Int.toNat 12)) m₀ 36 (nx Z16)) m₀ 17 at i17
  generalize hZ17 : sr (al Z16 8 (Int.toNat 12)) m₀ 36 (nx Z16) = Z17 at *
  clear hZ17 i16
  (conv => whnf)
  exact L1 Z17 Z17 i17 mm_f_rfl
