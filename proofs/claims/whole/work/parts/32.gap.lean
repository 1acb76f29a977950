def mh_ad (X : mg_M) (c : Nat) (r s u v : Int) : mg_M := mg_put6 (si X c 0 (gi X c 0 + 1)) (gr X (c + 1) (gi X c 0).toNat) r s u v 0 0
theorem mh_ad_kd {X : mg_M} {c a : Nat} {r s u v : Int} : kd (mh_ad X c r s u v) a = kd X a := rfl
theorem mh_ad_ln {X : mg_M} {c a : Nat} {r s u v : Int} : ln (mh_ad X c r s u v) a = ln X a := rfl
theorem mh_ad_gr {X : mg_M} {c a k : Nat} {r s u v : Int} : gr (mh_ad X c r s u v) a k = gr X a k := rfl
theorem mh_ad_nx {X : mg_M} {c : Nat} {r s u v : Int} : nx (mh_ad X c r s u v) = nx X := rfl
theorem mh_ad_gl {X : mg_M} {c a k : Nat} {r s u v : Int} : gl (mh_ad X c r s u v) a k = gl X a k := rfl
theorem mh_ad_gd {X : mg_M} {c a k : Nat} {r s u v : Int} : gd (mh_ad X c r s u v) a k = gd X a k := rfl
theorem mh_ad_ne {X : mg_M} {c b k : Nat} {r s u v : Int} (n : b ≠ gr X (c + 1) (gi X c 0).toNat) (n2 : ¬ (b = c ∧ k = 0)) : gi (mh_ad X c r s u v) b k = gi X b k := by
  unfold mh_ad
  rw [mh_p6_ne n, gi_si, if_neg n2]
theorem mh_ad_at {X : mg_M} {c : Nat} {r s u v : Int} : gi (mh_ad X c r s u v) (gr X (c + 1) (gi X c 0).toNat) 0 = r ∧ gi (mh_ad X c r s u v) (gr X (c + 1) (gi X c 0).toNat) 1 = s ∧ gi (mh_ad X c r s u v) (gr X (c + 1) (gi X c 0).toNat) 2 = u ∧ gi (mh_ad X c r s u v) (gr X (c + 1) (gi X c 0).toNat) 3 = v ∧ gi (mh_ad X c r s u v) (gr X (c + 1) (gi X c 0).toNat) 4 = 0 ∧ gi (mh_ad X c r s u v) (gr X (c + 1) (gi X c 0).toNat) 5 = 0 := by
  unfold mh_ad mg_put6
  simp [gi_si]
theorem mh_ad_sz {X : mg_M} {c : Nat} {r s u v : Int} (h : mg_cL X c) (hs : gi X c 0 < 120) : gi (mh_ad X c r s u v) c 0 = gi X c 0 + 1 := by
  have g7 := h.2.2.2.2.2.2.1
  have g8 := h.2.2.2.2.2.2.2.1 (gi X c 0).toNat (by omega)
  unfold mh_ad
  rw [mh_p6_ne (by omega), gi_si, if_pos ⟨rfl, rfl⟩]
theorem mh_ad_cL {X : mg_M} {c : Nat} {r s u v : Int} (h : mg_cL X c) (hs : gi X c 0 < 120) : mg_cL (mh_ad X c r s u v) c := by
  have e := mh_ad_sz (r := r) (s := s) (u := u) (v := v) h hs
  obtain ⟨g1, g2, g3, g4, g5, g6, g7, g8, g9⟩ := h
  exact ⟨g1, g2, g3, g4, g5, g6, by omega, g8, g9⟩
def mh_gp (M : mg_M) (t : Nat) (r c : Int) : mg_M := mh_ad (mh_so M t r c (gi M (t + 3) 0)) (t + 3) r c 1 1
/-- what a bare square's cell leaves as it is -/
theorem mh_gp_rd {M : mg_M} {t : Nat} {r c : Int} (h : mh_tl M t) (hr : 0 ≤ r ∧ r < gi M t 0) (hc : 0 ≤ c ∧ c < gi M t 1) (hb : mh_at M t r c = -1) : (∀ a, kd (mh_gp M t r c) a = kd M a) ∧ (∀ a, ln (mh_gp M t r c) a = ln M a) ∧ (∀ a k, gr (mh_gp M t r c) a k = gr M a k) ∧ nx (mh_gp M t r c) = nx M ∧ (∀ a k, gl (mh_gp M t r c) a k = gl M a k) ∧ (∀ a k, gd (mh_gp M t r c) a k = gd M a k) ∧ (∀ a k, a ≠ t + 126 → ¬ (a = t + 3 ∧ k = 0) → a ≠ gr M (t + 3 + 1) (gi M (t + 3) 0).toNat → gi (mh_gp M t r c) a k = gi M a k) ∧ gi (mh_gp M t r c) (t + 3) 0 = gi M (t + 3) 0 + 1 ∧ (∀ p q, 0 ≤ p → 0 ≤ q → q < 10 → mh_at (mh_gp M t r c) t p q = if p = r ∧ q = c then gi M (t + 3) 0 else mh_at M t p q) ∧ (gi (mh_gp M t r c) (gr M (t + 3 + 1) (gi M (t + 3) 0).toNat) 0 = r ∧ gi (mh_gp M t r c) (gr M (t + 3 + 1) (gi M (t + 3) 0).toNat) 1 = c ∧ gi (mh_gp M t r c) (gr M (t + 3 + 1) (gi M (t + 3) 0).toNat) 2 = 1 ∧ gi (mh_gp M t r c) (gr M (t + 3 + 1) (gi M (t + 3) 0).toNat) 3 = 1 ∧ gi (mh_gp M t r c) (gr M (t + 3 + 1) (gi M (t + 3) 0).toNat) 4 = 0 ∧ gi (mh_gp M t r c) (gr M (t + 3 + 1) (gi M (t + 3) 0).toNat) 5 = 0) := by
  have room := mh_room h hr hc hb
  obtain ⟨ht, hl, hk, ha, _⟩ := h
  have b := ht.2.2
  have z := hl.2.2.2.2.2.2.1
  have g8 := hl.2.2.2.2.2.2.2.1 (gi M (t + 3) 0).toNat (by omega)
  have f := @mh_fx_so t r c (gi M (t + 3) 0) M
  have fs := f.2.2.2.2.2.2 (t + 3) 0 (by omega)
  have fg := f.2.2.1 (t + 3 + 1)
  have hl2 := mh_fx_cL f (show t + 3 ≠ t + 126 by omega) hl
  have at6 := @mh_ad_at (mh_so M t r c (gi M (t + 3) 0)) (t + 3) r c 1 1
  rw [fs, fg] at at6
  refine ⟨f.1, f.2.1, f.2.2.1, f.2.2.2.1, f.2.2.2.2.1, f.2.2.2.2.2.1, ?_, ?_, ?_, at6⟩
  · intro a k n1 n2 n3
    unfold mh_gp
    rw [mh_ad_ne (by rw [fs, fg]; exact n3) n2]
    exact f.2.2.2.2.2.2 a k n1
  · unfold mh_gp
    rw [mh_ad_sz hl2 (by omega), fs]
  · intro p q hp hq hq2
    have e : mh_at (mh_gp M t r c) t p q = mh_at (mh_so M t r c (gi M (t + 3) 0)) t p q := by
      unfold mh_at mh_gp
      exact mh_ad_ne (by rw [fs, fg]; omega) (by omega)
    rw [e, mh_so_at (by omega) hp ⟨hq, hq2⟩]
    (repeat' split) <;> first | rfl | omega
