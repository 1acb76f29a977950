/-- in the area f₀..e, a₀..b -/
abbrev mh_inA (f₀ e₀ a₀ b₀ r₀ c₀ : Int) : Prop := f₀ ≤ r₀ ∧ r₀ ≤ e₀ ∧ a₀ ≤ c₀ ∧ c₀ ≤ b₀
def mi_lp (f₀ e₀ a₀ b₀ u₀ w₀ : Int) (T L₀ t₀ l : Int → Int → Int) (r₀ c₀ : Int) : Int := if mh_inA f₀ e₀ a₀ b₀ r₀ c₀ then 10 * (r₀ - (r₀ - f₀) % u₀ + t₀ ((r₀ - f₀) % u₀) ((c₀ - a₀) % w₀)) + (c₀ - (c₀ - a₀) % w₀ + l ((r₀ - f₀) % u₀) ((c₀ - a₀) % w₀)) else 10 * T r₀ c₀ + L₀ r₀ c₀
def mi_lc (M : mg_M) (m₀ x₀ y₀ : Nat) (f₀ e₀ a₀ b₀ u₀ w₀ k₀ : Int) : Int := if mh_inA f₀ e₀ a₀ b₀ (k₀ / 10) (k₀ % 10) then gi M y₀ (mi M (m₀ + 13) ((k₀ / 10 - f₀) % u₀) ((k₀ % 10 - a₀) % w₀)).toNat else gi M x₀ (gi M (m₀ + 1) k₀.toNat).toNat
/-- the copies' cells₀ -/
abbrev mm_brs (M : mg_M) (m₀ : Nat) (t₀ l h₀ v₀ : Int → Int → Int) : Prop := ∀ p₀ q₀, mh_rg (gi M m₀ 25) (gi M m₀ 26) p₀ q₀ → mh_rcJ (gi M m₀ 25) (gi M m₀ 26) (mi M (m₀ + 13)) (mi M (m₀ + 13) p₀ q₀) (t₀ p₀ q₀) (l p₀ q₀) (h₀ p₀ q₀) (v₀ p₀ q₀)
theorem mi_lpk {M : mg_M} {m₀ x₀ y₀ : Nat} {f₀ e₀ a₀ b₀ n₀ d₀ : Int} {T L₀ H₀ W₀ t₀ l h₀ v₀ : Int → Int → Int} {r₀ c₀ : Int} (rc : mm_rc M m₀) (hbk : (1 ≤ gi M m₀ 25 ∧ gi M m₀ 25 ≤ 12) ∧ (1 ≤ gi M m₀ 26 ∧ gi M m₀ 26 ≤ 10)) (hf : 0 ≤ f₀ ∧ e₀ < gi M m₀ 1) (ha₀ : 0 ≤ a₀ ∧ b₀ < gi M m₀ 2) (he : e₀ = f₀ + n₀ * gi M m₀ 25 - 1) (hb₀ : b₀ = a₀ + d₀ * gi M m₀ 26 - 1) (hR : mm_rts M m₀ T L₀ H₀ W₀) (hcut : ∀ r₀ c₀, mh_rg (gi M m₀ 1) (gi M m₀ 2) r₀ c₀ → mh_mt f₀ e₀ a₀ b₀ (T r₀ c₀) (L₀ r₀ c₀) (H₀ r₀ c₀) (W₀ r₀ c₀) → mh_wn f₀ e₀ a₀ b₀ (T r₀ c₀) (L₀ r₀ c₀) (H₀ r₀ c₀) (W₀ r₀ c₀)) (hB₀ : mm_brs M m₀ t₀ l h₀ v₀) (hr : mh_rg (gi M m₀ 1) (gi M m₀ 2) r₀ c₀) :
    (0 ≤ mi_lp f₀ e₀ a₀ b₀ (gi M m₀ 25) (gi M m₀ 26) T L₀ t₀ l r₀ c₀ ∧ mi_lp f₀ e₀ a₀ b₀ (gi M m₀ 25) (gi M m₀ 26) T L₀ t₀ l r₀ c₀ < 120) ∧ (mh_inA f₀ e₀ a₀ b₀ r₀ c₀ → mi_lc M m₀ x₀ y₀ f₀ e₀ a₀ b₀ (gi M m₀ 25) (gi M m₀ 26) (mi_lp f₀ e₀ a₀ b₀ (gi M m₀ 25) (gi M m₀ 26) T L₀ t₀ l r₀ c₀) = gi M y₀ (mi M (m₀ + 13) ((r₀ - f₀) % gi M m₀ 25) ((c₀ - a₀) % gi M m₀ 26)).toNat) ∧ (¬ mh_inA f₀ e₀ a₀ b₀ r₀ c₀ → mi_lc M m₀ x₀ y₀ f₀ e₀ a₀ b₀ (gi M m₀ 25) (gi M m₀ 26) (mi_lp f₀ e₀ a₀ b₀ (gi M m₀ 25) (gi M m₀ 26) T L₀ t₀ l r₀ c₀) = gi M x₀ (mi M (m₀ + 1) r₀ c₀).toNat) := by
  unfold mm_rc at rc
  by_cases c1₀ : mh_inA f₀ e₀ a₀ b₀ r₀ c₀
  · have ej : mi_lp f₀ e₀ a₀ b₀ (gi M m₀ 25) (gi M m₀ 26) T L₀ t₀ l r₀ c₀ = 10 * (r₀ - (r₀ - f₀) % gi M m₀ 25 + t₀ ((r₀ - f₀) % gi M m₀ 25) ((c₀ - a₀) % gi M m₀ 26)) + (c₀ - (c₀ - a₀) % gi M m₀ 26 + l ((r₀ - f₀) % gi M m₀ 25) ((c₀ - a₀) % gi M m₀ 26)) := by unfold mi_lp; rw [if_pos c1₀]
    have u0 : 0 ≤ (r₀ - f₀) % gi M m₀ 25 ∧ (r₀ - f₀) % gi M m₀ 25 < gi M m₀ 25 := ⟨Int.emod_nonneg _ (by omega), Int.emod_lt_of_pos _ (by omega)⟩
    have w0₀ : 0 ≤ (c₀ - a₀) % gi M m₀ 26 ∧ (c₀ - a₀) % gi M m₀ 26 < gi M m₀ 26 := ⟨Int.emod_nonneg _ (by omega), Int.emod_lt_of_pos _ (by omega)⟩
    have br := hB₀ _ _ ⟨u0, w0₀⟩
    have t1₀ := br.1
    have t2₀ := br.2.1
    have t3₀ := (br.2.2 (t₀ ((r₀ - f₀) % gi M m₀ 25) ((c₀ - a₀) % gi M m₀ 26)) (l ((r₀ - f₀) % gi M m₀ 25) ((c₀ - a₀) % gi M m₀ 26)) (by omega) (by omega)).2 (by omega)
    have k1₀ := mh_blk (x₀ := r₀ - f₀) (d₀ := gi M m₀ 25) (n₀ := n₀) (l := t₀ ((r₀ - f₀) % gi M m₀ 25) ((c₀ - a₀) % gi M m₀ 26)) (by omega) (by omega) (by omega)
    have k2₀ := mh_blk (x₀ := c₀ - a₀) (d₀ := gi M m₀ 26) (n₀ := d₀) (l := l ((r₀ - f₀) % gi M m₀ 25) ((c₀ - a₀) % gi M m₀ 26)) (by omega) (by omega) (by omega)
    generalize hp : (r₀ - f₀) % gi M m₀ 25 = p₀ at *
    generalize hq : (c₀ - a₀) % gi M m₀ 26 = q₀ at *
    generalize t₀ p₀ q₀ = t0₀ at *
    generalize l p₀ q₀ = l0 at *
    have d1₀ : (10 * (r₀ - p₀ + t0₀) + (c₀ - q₀ + l0)) / 10 = r₀ - p₀ + t0₀ := by omega
    have d2₀ : (10 * (r₀ - p₀ + t0₀) + (c₀ - q₀ + l0)) % 10 = c₀ - q₀ + l0 := by omega
    rw [ej]
    refine ⟨by omega, fun _ => ?_, fun z₀ => (z₀ c1₀).elim⟩
    unfold mi_lc
    rw [d1₀, d2₀, if_pos (by omega), show r₀ - p₀ + t0₀ - f₀ = r₀ - f₀ - p₀ + t0₀ by omega, k1₀.2.2, show c₀ - q₀ + l0 - a₀ = c₀ - a₀ - q₀ + l0 by omega, k2₀.2.2, t3₀]
  · have ej : mi_lp f₀ e₀ a₀ b₀ (gi M m₀ 25) (gi M m₀ 26) T L₀ t₀ l r₀ c₀ = 10 * T r₀ c₀ + L₀ r₀ c₀ := by unfold mi_lp; rw [if_neg c1₀]
    have rr := hR r₀ c₀ hr
    have t1₀ := rr.1
    have t2₀ := rr.2.1
    have t3₀ := (rr.2.2 r₀ c₀ hr.1 hr.2).1 rfl
    have t4₀ := (rr.2.2 (T r₀ c₀) (L₀ r₀ c₀) (by omega) (by omega)).2 (by omega)
    have cu := hcut r₀ c₀ hr
    have no₀ : ¬ mh_inA f₀ e₀ a₀ b₀ (T r₀ c₀) (L₀ r₀ c₀) := fun z₀ => by have := cu (by omega); omega
    have d1₀ : (10 * T r₀ c₀ + L₀ r₀ c₀) / 10 = T r₀ c₀ := by omega
    have d2₀ : (10 * T r₀ c₀ + L₀ r₀ c₀) % 10 = L₀ r₀ c₀ := by omega
    rw [ej]
    refine ⟨by omega, fun z₀ => (c1₀ z₀).elim, fun _ => ?_⟩
    unfold mi_lc
    rw [d1₀, d2₀, if_neg no₀]
    unfold mi at t4₀
    rw [t4₀]
    rfl
