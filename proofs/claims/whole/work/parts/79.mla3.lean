set_option maxRecDepth 100000 in
theorem cX6_lays {D : mg_D} {l : Launch} (hl : l.stackTraces = false) {M N : mg_M} {m₀ : Nat} {f₀ e₀ a₀ b₀ n₀ d₀ : Int} {T L₀ H₀ W₀ t₀ ll h₀ v₀ : Int → Int → Int} (st₀ : mm_st M m₀) (rc : mm_rc M m₀) (hb1 : 1 ≤ gi M m₀ 1 ∧ 1 ≤ gi M m₀ 2) (fN₀ : mm_f (fun b₀ k₀ => (b₀ = m₀ ∧ (k₀ = 0 ∨ (10 ≤ k₀ ∧ k₀ ≤ 13) ∨ (32 ≤ k₀ ∧ k₀ ≤ 35))) ∨ (m₀ + 6 ≤ b₀ ∧ b₀ ≤ m₀ + 10)) M N) (kt : mm_kt M N m₀) (z0 : gi N m₀ 0 = 0) (hA : gi N m₀ 32 = f₀ ∧ gi N m₀ 33 = e₀ ∧ gi N m₀ 34 = a₀ ∧ gi N m₀ 35 = b₀) (hbk : (1 ≤ gi M m₀ 25 ∧ gi M m₀ 25 ≤ 12) ∧ (1 ≤ gi M m₀ 26 ∧ gi M m₀ 26 ≤ 10)) (hf : 0 ≤ f₀ ∧ e₀ < gi M m₀ 1) (ha₀ : 0 ≤ a₀ ∧ b₀ < gi M m₀ 2) (he : e₀ = f₀ + n₀ * gi M m₀ 25 - 1) (hb₀ : b₀ = a₀ + d₀ * gi M m₀ 26 - 1) (hR : mm_rts M m₀ T L₀ H₀ W₀) (hcut : ∀ r₀ c₀, mh_rg (gi M m₀ 1) (gi M m₀ 2) r₀ c₀ → mh_mt f₀ e₀ a₀ b₀ (T r₀ c₀) (L₀ r₀ c₀) (H₀ r₀ c₀) (W₀ r₀ c₀) → mh_wn f₀ e₀ a₀ b₀ (T r₀ c₀) (L₀ r₀ c₀) (H₀ r₀ c₀) (W₀ r₀ c₀)) (hB₀ : mm_brs M m₀ t₀ ll h₀ v₀) (hid₀ : ∀ r₀ c₀, mh_rg (gi M m₀ 1) (gi M m₀ 2) r₀ c₀ → 0 ≤ mi M (m₀ + 1) r₀ c₀ ∧ mi M (m₀ + 1) r₀ c₀ < 120) (hci : ∀ p₀ q₀, mh_rg (gi M m₀ 25) (gi M m₀ 26) p₀ q₀ → 0 ≤ mi M (m₀ + 13) p₀ q₀ ∧ mi M (m₀ + 13) p₀ q₀ < 120) : mg_Mt D l 185 [.inr (.inl m₀)] N (fun v9 P => v9 = none ∧ mm_nw M P m₀ (gi M m₀ 1) (gi M m₀ 2) (gi M m₀ 3) (mi_lp f₀ e₀ a₀ b₀ (gi M m₀ 25) (gi M m₀ 26) T L₀ t₀ ll) (mi_lc M m₀ (m₀ + 2) (m₀ + 14) f₀ e₀ a₀ b₀ (gi M m₀ 25) (gi M m₀ 26)) (mi_lc M m₀ (m₀ + 3) (m₀ + 15) f₀ e₀ a₀ b₀ (gi M m₀ 25) (gi M m₀ 26)) (fun k₀ => gi M (m₀ + 4) k₀.toNat) (fun k₀ => gi M (m₀ + 5) k₀.toNat)) mg_no := by
  refine mg_of2 hl ok_X6_lays al_X6_lays rfl (fun K hK₀ => ?_)
  have rc' := rc
  unfold mm_rc at rc'
  have stN₀ := mm_f_st fN₀ st₀
  have k7₀ := stN₀.1
  have C1₀ : ∀ Y, mm_f (fun b₀ _ => b₀ = m₀ + 11 ∨ b₀ = m₀ + 12 ∨ b₀ = m₀ + 16) N Y → (∀ k₀ : Int, 0 ≤ k₀ → k₀ < 120 → gi Y (m₀ + 11) k₀.toNat = gi M (m₀ + 1) k₀.toNat) → K 34 [(0, Sum.inr (Sum.inl m₀)), (1, Sum.inl 0)] [] Y 0 := by
    intro Y f2₀ v2
    have stY := mm_f_st f2₀ stN₀
    have eY : ∀ k₀, ¬ (k₀ = 0 ∨ (10 ≤ k₀ ∧ k₀ ≤ 13) ∨ (32 ≤ k₀ ∧ k₀ ≤ 35)) → gi Y m₀ k₀ = gi M m₀ k₀ := fun k₀ hk => (mm_f_gi f2₀ m₀ k₀ (by omega)).trans (mm_f_gi fN₀ m₀ k₀ (by omega))
    have eA₀ : ∀ q₀ k₀, (q₀ = m₀ + 1 ∨ q₀ = m₀ + 2 ∨ q₀ = m₀ + 3 ∨ q₀ = m₀ + 4 ∨ q₀ = m₀ + 5 ∨ q₀ = m₀ + 13 ∨ q₀ = m₀ + 14 ∨ q₀ = m₀ + 15) → gi Y q₀ k₀ = gi M q₀ k₀ := fun q₀ k₀ hq => (mm_f_gi f2₀ q₀ k₀ (by omega)).trans (mm_f_gi fN₀ q₀ k₀ (by omega))
    refine mm_laysC hl hK₀ (M := M) (Y := Y) (f₀ := f₀) (e₀ := e₀) (a₀ := a₀) (b₀ := b₀) (R := gi M m₀ 1) (C := gi M m₀ 2) (cn := mi_lc M m₀ (m₀ + 2) (m₀ + 14) f₀ e₀ a₀ b₀ (gi M m₀ 25) (gi M m₀ 26)) (sy := mi_lc M m₀ (m₀ + 3) (m₀ + 15) f₀ e₀ a₀ b₀ (gi M m₀ 25) (gi M m₀ 26)) stY rc ⟨rfl, rfl⟩ ⟨eY 1 (by omega), eY 2 (by omega), v2⟩ ?_ hbk ⟨eY 25 (by omega), eY 26 (by omega)⟩ ⟨hf.1, ha₀.1⟩ hR hB₀ (fun k₀ => eA₀ _ k₀ (by omega)) hid₀ hci rfl ?_ ?_ ?_ ?_
    · rw [mm_f_gi f2₀ m₀ 32 (by omega), mm_f_gi f2₀ m₀ 33 (by omega), mm_f_gi f2₀ m₀ 34 (by omega), mm_f_gi f2₀ m₀ 35 (by omega)]
      exact hA
    · exact fun r₀ c₀ hr => (mi_lpk (x₀ := 0) (y₀ := 0) rc hbk hf ha₀ he hb₀ hR hcut hB₀ hr).1
    · intro r₀ c₀ hr hin
      rw [eA₀ _ _ (by omega), eA₀ _ _ (by omega)]
      exact ⟨(mi_lpk rc hbk hf ha₀ he hb₀ hR hcut hB₀ hr).2.1 hin, (mi_lpk rc hbk hf ha₀ he hb₀ hR hcut hB₀ hr).2.1 hin⟩
    · intro r₀ c₀ hr hin
      rw [eA₀ _ _ (by omega), eA₀ _ _ (by omega)]
      exact ⟨(mi_lpk rc hbk hf ha₀ he hb₀ hR hcut hB₀ hr).2.2 hin, (mi_lpk rc hbk hf ha₀ he hb₀ hR hcut hB₀ hr).2.2 hin⟩
    · intro Z₀ g₀ w₀
      have stZ₀ := mm_f_st g₀ stY
      refine mm_laysD hl hK₀ (M := M) stZ₀ (fun P hP => ⟨rfl, hP⟩) (fun Z' g' w' => ?_)
      have fA : mm_f (mm_sB m₀) M Z' := mm_f_tr (mm_f_tr (mm_f_tr (mm_f_mono fN₀ (fun b₀ k₀ z₀ => by omega)) (mm_f_mono f2₀ (fun b₀ k₀ z₀ => by omega))) (mm_f_mono g₀ (fun b₀ k₀ z₀ => by omega))) (mm_f_mono g' (fun b₀ k₀ z₀ => by omega))
      have eM₀ := fun k₀ => (mm_f_gi g' m₀ k₀ (by omega)).trans (mm_f_gi g₀ m₀ k₀ (by omega))
      refine ⟨fA, ⟨by rw [eM₀ 0, mm_f_gi f2₀ m₀ 0 (by omega)]; exact z0, by rw [eM₀ 1]; exact eY 1 (by omega), by rw [eM₀ 2]; exact eY 2 (by omega), by rw [eM₀ 3]; exact eY 3 (by omega)⟩, mm_kt_f g' (fun k₀ _ _ => by omega) (fun b₀ k₀ _ _ => by omega) (mm_kt_f g₀ (fun k₀ _ _ => by omega) (fun b₀ k₀ _ _ => by omega) (mm_kt_f f2₀ (fun k₀ _ _ => by omega) (fun b₀ k₀ _ _ => by omega) kt)), by omega, ?_, ?_, ?_, ?_⟩
      · intro r₀ c₀ hr
        have q₀ := (mi_lpk (x₀ := 0) (y₀ := 0) rc hbk hf ha₀ he hb₀ hR hcut hB₀ hr).1
        exact ⟨(mm_f_gi g' (m₀ + 1) _ (by omega)).trans (w₀ r₀ c₀ hr).1, by omega⟩
      · intro r₀ c₀ hr
        have q₀ := (mi_lpk (x₀ := 0) (y₀ := 0) rc hbk hf ha₀ he hb₀ hR hcut hB₀ hr).1
        have w2₀ := w' (mi_lp f₀ e₀ a₀ b₀ (gi M m₀ 25) (gi M m₀ 26) T L₀ t₀ ll r₀ c₀).toNat (by omega)
        rw [w2₀.1, w2₀.2]
        exact (w₀ r₀ c₀ hr).2
      · intro k₀ k0₀ k1₀
        rw [mm_f_gi g' (m₀ + 4) _ (by omega), mm_f_gi g₀ (m₀ + 4) _ (by omega), eA₀ _ _ (by omega)]
      · intro k₀ k0₀ k1₀
        rw [mm_f_gi g' (m₀ + 5) _ (by omega), mm_f_gi g₀ (m₀ + 5) _ (by omega), eA₀ _ _ (by omega)]
  have B1 : ∀ Y, mm_f (fun b₀ _ => b₀ = m₀ + 11) N Y → (∀ k₀ : Int, 0 ≤ k₀ → k₀ < 120 → gi Y (m₀ + 11) k₀.toNat = gi M (m₀ + 1) k₀.toNat) → K 6 [(0, Sum.inr (Sum.inl m₀)), (1, Sum.inl 0)] [] Y 0 := by
    intro Y f2₀ v2
    have stY := mm_f_st f2₀ stN₀
    refine mh_for (P := fun j₀ Z₀ => mm_f (fun b₀ _ => b₀ = m₀ + 12 ∨ b₀ = m₀ + 16) Y Z₀) (G := fun j₀ Z₀ => K 6 [(0, Sum.inr (Sum.inl m₀)), (1, Sum.inl j₀)] [] Z₀ 0) (lo := 0) (hi := 120) (by omega) ?_ ?_ Y mm_f_rfl
    · intro Z₀ g₀
      have k7Z := (mm_f_st g₀ stY).1
      have w₀ := C1₀ Z₀ (mm_f_tr (mm_f_mono f2₀ (fun b₀ k₀ z₀ => by omega)) (mm_f_mono g₀ (fun b₀ k₀ z₀ => by omega))) (fun k₀ k0₀ k1₀ => by rw [mm_f_gi g₀ (m₀ + 11) _ (by omega)]; exact v2 k₀ k0₀ k1₀)
      clear C1₀ v2 hR hcut hB₀ hid₀ hci
      refine hK₀ _ _ _ _ _ ?_
      (repeat' (((conv => whnf); first | (show (_ : Option mg_V) = _ ∧ _; assumption) | (show K _ _ _ _ _; assumption) | (show mm_th _ _ _ _; assumption) | refine And.intro (by first | assumption | omega | (simp only [true_and, kd_si, ln_si, gr_si]; first | done | assumption | omega)) ?_ | (refine And.intro (fun _ => ?_) (fun _ => ?_) <;> first | (exfalso; omega) | skip) | intro _ | fail)))
    · intro j₀ Z₀ j0 j1 g₀ nex
      have stZ₀ := mm_f_st g₀ stY
      have k7Z := stZ₀.1
      obtain ⟨a20, d20₀⟩ := mm_arf stZ₀.2.2.2.2.1 (by decide)
      obtain ⟨a31, d31₀⟩ := mm_arf stZ₀.2.2.2.2.2.2.1 (by decide)
      have w₀ := nex (si (si Z₀ (m₀ + 16) j₀.toNat 0) (m₀ + 12) j₀.toNat 0) (mm_f_si (mm_f_si g₀ (by omega)) (by omega))
      clear nex C1₀ v2 hR hcut hB₀ hid₀ hci
      refine hK₀ _ _ _ _ _ ?_
      (repeat' (((conv => whnf); first | (show (_ : Option mg_V) = _ ∧ _; assumption) | (show K _ _ _ _ _; assumption) | (show mm_th _ _ _ _; assumption) | refine And.intro (by first | assumption | omega | (simp only [true_and, kd_si, ln_si, gr_si]; first | done | assumption | omega)) ?_ | (refine And.intro (fun _ => ?_) (fun _ => ?_) <;> first | (exfalso; omega) | skip) | intro _ | fail)))
      all_goals ((conv => whnf); simp only [gr_si, a20, a31]; exact w₀)
  clear C1₀ hR hcut hB₀ hid₀ hci
  refine hK₀ _ _ _ _ _ ?_
  (repeat' (((conv => whnf); first | (show (_ : Option mg_V) = _ ∧ _; assumption) | (show K _ _ _ _ _; assumption) | (show mm_th _ _ _ _; assumption) | refine And.intro (by first | assumption | omega | (simp only [true_and, kd_si, ln_si, gr_si]; first | done | assumption | omega)) ?_ | (refine And.intro (fun _ => ?_) (fun _ => ?_) <;> first | (exfalso; omega) | skip) | intro _ | fail)))
  (conv => whnf)
  refine Exists.intro _ (Exists.intro _ (And.intro (cX6_putsAside hl stN₀) (And.intro ?_ (fun _ _ h₀ => h₀.elim))))
  rintro _ Y ⟨rfl, g₀, v2⟩
  have w₀ := B1 Y g₀ (fun k₀ k0₀ k1₀ => by rw [v2 _ (by omega), mm_f_gi fN₀ (m₀ + 1) _ (by omega)])
  clear B1 v2
  (repeat' (((conv => whnf); first | (show (_ : Option mg_V) = _ ∧ _; assumption) | (show K _ _ _ _ _; assumption) | (show mm_th _ _ _ _; assumption) | refine And.intro (by first | assumption | omega | (simp only [true_and, kd_si, ln_si, gr_si]; first | done | assumption | omega)) ?_ | (refine And.intro (fun _ => ?_) (fun _ => ?_) <;> first | (exfalso; omega) | skip) | intro _ | fail)))
