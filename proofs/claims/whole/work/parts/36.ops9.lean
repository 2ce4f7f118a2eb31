/-! OPERATIONS 9: part -/
section ZOP9
variable {x s m : ZMem} {c n : Nat}
theorem op_part (h : CP c x m) (hc : c ≤ 1000) (a w : Int) : SIM c (F_X11_part n a w x) (F_X12_part n a w m) := by
  have hw := WFs_t h.k.2
  have hk := XK_t (k := 1) h.k.1
  have hnp : wr m 0 16 0 0 2 = m 0 2 := rfl
  have b1 := npS_bd (m 0 2) a
  have b3 := ncS_bd w 6
  have ex : ∀ r : Int, -6 ≤ r ∧ r ≤ -1 → refS (npS (m 0 2) a) (ncS w 6) 0 = r → F_X11_part n a w x = some (r, rfX x r) := by
    intro r hr e
    unfold F_X11_part
    refine E_bnd (X_noPart h.k n a) (E_bnd (X_noChoice _ _ _ _) (E_bnd (X_ref2 h.f hc b1 b3 e (by omega)) ?_))
    rw [if_neg (by omega)]
  by_cases hp : 0 ≤ a ∧ a < m 0 2
  · by_cases h2 : 0 ≤ w ∧ w ≤ 6
    · obtain ⟨p, rfl⟩ : ∃ p : Nat, a = (p : Int) := ⟨a.toNat, by omega⟩
      have hp2 : (p : Int) < wr m 0 16 0 0 2 := hp.2
      have h8 := hw.np
      refine SIM_tw h ?_
      unfold F_X11_part F_X12_part
      refine TW_bx (X_noPart h.k n p) (TW_bx (X_noChoice _ _ _ _) (TW_bx (X_not2 (by simp only [refS, npS, ncS, outS, eiS, rmS, eaS]; (repeat' split) <;> omega) b1) ?_))
      rw [if_pos rfl]
      refine TW_bm (M_part_t hw hp) ?_
      refine TW_m (if_neg (by decide)) (TW_bm (M_in_t h2) (TW_m (if_neg (by decide)) ?_))
      simp only [zM1, zM2, zM3, zM4, zM5, zM6, zM7, zM8, zM9, zM10, zM11, zM12, zM13, zM14, zM15, zM16, zM17, zM18, zM19, zM20, zM21, zM22, zM23, zM24, zM25, zM26, zM27, zM28, zM29, Int.toNat_natCast]
      have hc7 : w = 0 ∨ w = 1 ∨ w = 2 ∨ w = 3 ∨ w = 4 ∨ w = 5 ∨ w = 6 := by omega
      rcases hc7 with rfl | rfl | rfl | rfl | rfl | rfl | rfl
      · exact TW_x (if_neg (by decide)) (TW_x (if_neg (by decide)) (TW_bx (X_p0 hk hp2) (TW_m (if_pos rfl) (TW_cm (by omega) (TW_some rfl)))))
      · exact TW_x (if_neg (by decide)) (TW_x (if_neg (by decide)) (TW_bx (X_p1 hk hp2) (TW_m (if_neg (by decide)) (TW_m (if_pos rfl) (TW_cm (by omega) (TW_some rfl))))))
      · exact TW_x (if_neg (by decide)) (TW_x (if_neg (by decide)) (TW_bx (X_p2 hk hp2) (TW_m (if_neg (by decide)) (TW_m (if_neg (by decide)) (TW_m (if_pos rfl) (TW_cm (by omega) (TW_some rfl)))))))
      · exact TW_x (if_neg (by decide)) (TW_x (if_neg (by decide)) (TW_bx (X_p3 hk hp2) (TW_m (if_neg (by decide)) (TW_m (if_neg (by decide)) (TW_m (if_neg (by decide)) (TW_m (if_pos rfl) (TW_cm (by omega) (TW_some rfl))))))))
      · exact TW_x (if_neg (by decide)) (TW_x (if_neg (by decide)) (TW_bx (X_p4 hk hp2) (TW_m (if_neg (by decide)) (TW_m (if_neg (by decide)) (TW_m (if_neg (by decide)) (TW_m (if_neg (by decide)) (TW_m (if_pos rfl) (TW_cm (by omega) (TW_some rfl)))))))))
      · exact TW_x (if_pos rfl) (TW_bx (X_takenNow hk hw hp2) (TW_m (if_neg (by decide)) (TW_m (if_neg (by decide)) (TW_m (if_neg (by decide)) (TW_m (if_neg (by decide)) (TW_m (if_neg (by decide)) (TW_m (if_pos rfl) (TW_bm (M_takenFor hw hp2 hw.g) (TW_some rfl)))))))))
      · exact TW_x (if_neg (by decide)) (TW_x (if_pos rfl) (TW_bx (X_left hk hw hp2) (TW_m (if_neg (by decide)) (TW_m (if_neg (by decide)) (TW_m (if_neg (by decide)) (TW_m (if_neg (by decide)) (TW_m (if_neg (by decide)) (TW_m (if_neg (by decide)) (TW_bm (M_leftOf hw hp2) (TW_some rfl))))))))))
    · refine SIM_ref h (r := -2) (by decide) (ex _ (by decide) (by simp only [refS, npS, ncS, outS, eiS, rmS, eaS]; (repeat' split) <;> omega)) ?_
      unfold F_X12_part
      refine E_bnd (M_part_t hw hp) ?_
      rw [if_neg (by decide)]
      refine E_bnd (M_in_f h2) ?_
      rw [if_pos rfl]
      refine E_bnd (M_part_t hw hp) ?_
      rw [if_neg (by decide)]
      exact E_bnd (M_ref h hc (by decide)) rfl
  · refine SIM_ref h (r := -1) (by decide) (ex _ (by decide) (by simp only [refS, npS, ncS, outS, eiS, rmS, eaS]; (repeat' split) <;> omega)) ?_
    unfold F_X12_part
    refine E_bnd (M_part_f hw hp) ?_
    rw [if_pos rfl]
    refine E_bnd (M_part_f hw hp) ?_
    rw [if_pos rfl]
    exact E_bnd (M_ref h hc (by decide)) rfl
end ZOP9
