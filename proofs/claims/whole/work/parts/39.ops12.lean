/-! OPERATIONS 12: tin, deep -/
section ZOP12
variable {x s m : ZMem} {c n : Nat}
theorem M_tin_t (h : WFs m) {p : Int} (hp : 0 ≤ p ∧ p < m 0 3) : F_X12_isTin n p m = some (1, m) := by rw [M_isTin h.nt, if_pos hp]
theorem M_tin_f (h : WFs m) {p : Int} (hp : ¬ (0 ≤ p ∧ p < m 0 3)) : F_X12_isTin n p m = some (0, m) := by rw [M_isTin h.nt, if_neg hp]
theorem op_tin (h : CP c x m) (hc : c ≤ 1000) (a w : Int) : SIM c (F_X11_tin n a w x) (F_X12_tin n a w m) := by
  have hw := WFs_t h.k.2
  have hk := XK_t (k := 1) h.k.1
  have hnp : wr m 0 16 0 0 3 = m 0 3 := rfl
  have es : x 4 3 = m 0 3 := h.k.1.s4
  have b1 := npS_bd (x 4 3) a
  have b3 := ncS_bd w 3
  have ex : ∀ r : Int, -6 ≤ r ∧ r ≤ -1 → refS (npS (x 4 3) a) (ncS w 3) 0 = r → F_X11_tin n a w x = some (r, rfX x r) := by
    intro r hr e
    unfold F_X11_tin
    refine E_bnd (X_noSuch _ _ _ _) (E_bnd (X_noChoice _ _ _ _) (E_bnd (X_ref2 h.f hc b1 b3 e (by omega)) ?_))
    rw [if_neg (by omega)]
  by_cases hp : 0 ≤ a ∧ a < m 0 3
  · by_cases h2 : 0 ≤ w ∧ w ≤ 3
    · obtain ⟨p, rfl⟩ : ∃ p : Nat, a = (p : Int) := ⟨a.toNat, by omega⟩
      have hp2 : (p : Int) < wr m 0 16 0 0 3 := hp.2
      have h8 := hw.nt
      refine SIM_tw h ?_
      unfold F_X11_tin F_X12_tin
      refine TW_bx (X_noSuch _ _ _ _) (TW_bx (X_noChoice _ _ _ _) (TW_bx (X_not2 (by simp only [refS, npS, ncS, outS, eiS, rmS, eaS]; (repeat' split) <;> omega) b1) ?_))
      rw [if_pos rfl]
      refine TW_bm (M_tin_t hw hp) ?_
      refine TW_m (if_neg (by decide)) (TW_bm (M_in_t h2) (TW_m (if_neg (by decide)) ?_))
      simp only [zM1, zM2, zM3, zM4, zM5, zM6, zM7, zM8, zM9, zM10, zM11, zM12, zM13, zM14, zM15, zM16, zM17, zM18, zM19, zM20, zM21, zM22, zM23, zM24, zM25, zM26, zM27, zM28, zM29, Int.toNat_natCast]
      have hc7 : w = 0 ∨ w = 1 ∨ w = 2 ∨ w = 3 := by omega
      rcases hc7 with rfl | rfl | rfl | rfl
      · exact TW_x (if_neg (by decide)) (TW_x (if_neg (by decide)) (TW_bx (X_t0 hk hp2) (TW_m (if_pos rfl) (TW_cm (by omega) (TW_some rfl)))))
      · exact TW_x (if_neg (by decide)) (TW_x (if_neg (by decide)) (TW_bx (X_t1 hk hp2) (TW_m (if_neg (by decide)) (TW_m (if_pos rfl) (TW_cm (by omega) (TW_some rfl))))))
      · exact TW_x (if_pos rfl) (TW_bx (X_area hk hw hp2) (TW_m (if_neg (by decide)) (TW_m (if_neg (by decide)) (TW_m (if_pos rfl) (TW_bm (M_areaOf hw hp2) (TW_some rfl))))))
      · exact TW_x (if_neg (by decide)) (TW_x (if_pos rfl) (TW_bx (X_long hk hw hp2) (TW_m (if_neg (by decide)) (TW_m (if_neg (by decide)) (TW_m (if_neg (by decide)) (TW_bm (M_longIn hw hp2) (TW_some rfl)))))))
    · refine SIM_ref h (r := -2) (by decide) (ex _ (by decide) (by simp only [refS, npS, ncS, outS, eiS, rmS, eaS]; (repeat' split) <;> omega)) ?_
      unfold F_X12_tin
      refine E_bnd (M_tin_t hw hp) ?_
      rw [if_neg (by decide)]
      refine E_bnd (M_in_f h2) ?_
      rw [if_pos rfl]
      refine E_bnd (M_tin_t hw hp) ?_
      rw [if_neg (by decide)]
      exact E_bnd (M_ref h hc (by decide)) rfl
  · refine SIM_ref h (r := -1) (by decide) (ex _ (by decide) (by simp only [refS, npS, ncS, outS, eiS, rmS, eaS]; (repeat' split) <;> omega)) ?_
    unfold F_X12_tin
    refine E_bnd (M_tin_f hw hp) ?_
    rw [if_pos rfl]
    refine E_bnd (M_tin_f hw hp) ?_
    rw [if_pos rfl]
    exact E_bnd (M_ref h hc (by decide)) rfl
theorem op_deep (h : CP c x m) (hc : c ≤ 1000) (hn : 10000 ≤ n) (a w : Int) : SIM c (F_X11_deep n a w x) (F_X12_deep n a w m) := by
  have hw := WFs_t h.k.2
  have hk := XK_t (k := 1) h.k.1
  have hnp : wr m 0 16 0 0 3 = m 0 3 := rfl
  have es : x 4 3 = m 0 3 := h.k.1.s4
  have b1 := npS_bd (x 4 3) a
  have b3 := ncS_bd w 1
  have ex : ∀ r : Int, -6 ≤ r ∧ r ≤ -1 → refS (npS (x 4 3) a) (ncS w 1) 0 = r → F_X11_deep n a w x = some (4000000000000000000 - r, rfX x r) := by
    intro r hr e
    unfold F_X11_deep
    refine E_bnd (X_noSuch _ _ _ _) (E_bnd (X_noChoice _ _ _ _) (E_bnd (X_ref2 h.f hc b1 b3 e (by omega)) ?_))
    rw [if_neg (by omega)]
    exact E_chk (by omega) rfl
  by_cases hp : 0 ≤ a ∧ a < m 0 3
  · by_cases h2 : 0 ≤ w ∧ w ≤ 1
    · obtain ⟨p, rfl⟩ : ∃ p : Nat, a = (p : Int) := ⟨a.toNat, by omega⟩
      have hp2 : (p : Int) < wr m 0 16 0 0 3 := hp.2
      have hg := hw.g
      have hv := hw.vol
      have w1 := long_bds hw hp2
      have w2 := mul_bd1 (a := 14 * wr m 0 16 0 0 5) (b := wr m 0 16 0 0 1) (A := 13986) (B := 24) (by omega) (by omega) hg.1 hg.2
      refine SIM_tw h ?_
      unfold F_X11_deep F_X12_deep
      refine TW_bx (X_noSuch _ _ _ _) (TW_bx (X_noChoice _ _ _ _) (TW_bx (X_not2 (by simp only [refS, npS, ncS, outS, eiS, rmS, eaS]; (repeat' split) <;> omega) b1) ?_))
      rw [if_pos rfl, hk.vo, hk.gu, hk.fm]
      refine TW_bm (M_tin_t hw hp) ?_
      refine TW_m (if_neg (by decide)) (TW_bm (M_in_t h2) (TW_m (if_neg (by decide)) ?_))
      refine TW_cx (by omega) (TW_cx (by omega) (TW_bx (X_area hk hw hp2) (TW_cx (by omega) ?_)))
      refine TW_cm (by omega) (TW_cm (by omega) (TW_bm (M_areaOf hw hp2) (TW_cm (by omega) ?_)))
      exact TW_id (terms_tw hn (by omega) (by omega) (by omega))
    · refine SIM_refL h (r := -2) (by decide) (ex _ (by decide) (by simp only [refS, npS, ncS, outS, eiS, rmS, eaS]; (repeat' split) <;> omega)) ?_
      unfold F_X12_deep
      refine E_bnd (M_tin_t hw hp) ?_
      rw [if_neg (by decide)]
      refine E_bnd (M_in_f h2) ?_
      rw [if_pos rfl]
      refine E_bnd (M_tin_t hw hp) ?_
      rw [if_neg (by decide)]
      exact E_bnd (M_ref h hc (by decide)) (E_chk (by omega) rfl)
  · refine SIM_refL h (r := -1) (by decide) (ex _ (by decide) (by simp only [refS, npS, ncS, outS, eiS, rmS, eaS]; (repeat' split) <;> omega)) ?_
    unfold F_X12_deep
    refine E_bnd (M_tin_f hw hp) ?_
    rw [if_pos rfl]
    refine E_bnd (M_tin_f hw hp) ?_
    rw [if_pos rfl]
    exact E_bnd (M_ref h hc (by decide)) (E_chk (by omega) rfl)
end ZOP12
