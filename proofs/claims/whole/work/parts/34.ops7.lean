/-! OPERATIONS 7: what is left of a part -/
theorem upS_mul {b u : Int} (hb : 1 ≤ b) : upS (b * u) b = u := by
  unfold upS
  rw [show b * u + b - 1 = (b - 1) + b * u by omega, Int.add_mul_ediv_left _ _ (by omega), Int.ediv_eq_zero_of_lt (by omega) (by omega)]
  omega
/-- what is left of a part, in twelfths -/
def leftS (s : ZMem) (p : Nat) : Int := max (12 * upS (takS s p (s 4 p * s 0 1) (s 0 0)) 12 - upS (12 * s 4 p * s 0 1) (s 0 0)) 0
section ZOP7
variable {x s m : ZMem} {c n p : Nat}
theorem left_bds (hw : WFs s) (hp : (p : Int) < s 0 2) : (0 ≤ takS s p (s 4 p * s 0 1) (s 0 0) ∧ takS s p (s 4 p * s 0 1) (s 0 0) ≤ 290000) ∧ (0 ≤ upS (takS s p (s 4 p * s 0 1) (s 0 0)) 12 ∧ upS (takS s p (s 4 p * s 0 1) (s 0 0)) 12 ≤ 290000) ∧ (0 ≤ 12 * s 4 p * s 0 1 ∧ 12 * s 4 p * s 0 1 ≤ 28512) ∧ (0 ≤ upS (12 * s 4 p * s 0 1) (s 0 0) ∧ upS (12 * s 4 p * s 0 1) (s 0 0) ≤ 28512) := by
  have hg := hw.g
  have hf := hw.f
  obtain ⟨h1, h2, h3, h4, -⟩ := hw.pt p hp
  have a1 := ag_bd hw hp (g := s 0 1) (B := 24) (by omega)
  have t := takS_bd hw hp (a := s 4 p * s 0 1) (b := s 0 0) (by omega) hf
  have u := upS_bd (a := takS s p (s 4 p * s 0 1) (s 0 0)) (b := 12) t.1 (by decide)
  have w := mul_bd (a := 12 * s 4 p) (b := s 0 1) (A := 1188) (B := 24) (by omega) (by omega) (by omega) hg.2
  have v := upS_bd (a := 12 * s 4 p * s 0 1) (b := s 0 0) w.1 (by omega)
  exact ⟨t, ⟨u.1, by omega⟩, by omega, by omega⟩
theorem left_bd (hw : WFs s) (hp : (p : Int) < s 0 2) : 0 ≤ leftS s p ∧ leftS s p ≤ 3480000 := by
  have := left_bds hw hp
  unfold leftS
  omega
theorem X_left (h : XK x 1 s) (hw : WFs s) (hp : (p : Int) < s 0 2) : F_X3_left n (p : Int) x = some (leftS s p, x) := by
  obtain ⟨t, u, w, v⟩ := left_bds hw hp
  have hf := hw.f
  obtain ⟨h1, h2, h3, h4, -⟩ := hw.pt p hp
  unfold F_X3_left
  refine E_bnd (X_takenNow h hw hp) (E_bnd (X_up (by omega) (by decide)) (E_chk (by omega) (E_bnd (X_p3 h hp) ?_)))
  rw [h.gu, h.fm]
  exact E_chk (by omega) (E_chk (by omega) (E_bnd (X_up (by omega) (by omega)) (E_chk (by omega) rfl)))
theorem left_sur (hw : WFs s) (hp : (p : Int) < s 0 2) (h3 : s 1 p = 3) : s 2 p * upS (upS (takS s p (s 4 p * s 0 1) (s 0 0)) 12) (s 2 p) = upS (takS s p (s 4 p * s 0 1) (s 0 0)) 12 := by
  obtain ⟨-, h2, -⟩ := hw.pt p hp
  have e : takS s p (s 4 p * s 0 1) (s 0 0) = 12 * (s 2 p * upS (s 4 p * s 0 1) (s 0 0 * s 2 p)) := by
    unfold takS
    rw [if_neg (by omega), if_neg (by omega), if_neg (by omega), if_pos h3, Int.mul_assoc]
  rw [e, upS_mul (by decide), upS_mul h2.1]
theorem M_leftOf (hw : WFs s) (hp : (p : Int) < s 0 2) : F_X12_leftOf n (p : Int) s = some (leftS s p, s) := by
  obtain ⟨t, u, w, v⟩ := left_bds hw hp
  have hf := hw.f
  have hnp := hw.np
  have hg := hw.g
  obtain ⟨h1, h2, h3, h4, -⟩ := hw.pt p hp
  unfold F_X12_leftOf
  refine E_bnd (M_takenFor hw hp hg) (E_bnd (M_up (by omega) (by decide)) ?_)
  simp only [zM1, zM2, zM3, zM4, zM5, zM6, zM7, zM8, zM9, zM10, zM11, zM12, zM13, zM14, zM15, zM16, zM17, zM18, zM19, zM20, zM21, zM22, zM23, zM24, zM25, zM26, zM27, zM28, zM29, Int.toNat_natCast]
  refine E_chk (by omega) (E_ite (fun c3 => ?_) (fun c3 => ?_))
  · have ls := left_sur hw hp c3
    refine E_chk (by omega) (E_chk (by omega) (E_bnd (M_up (by omega) (by omega)) ?_))
    rw [ls]
    refine E_chk (by omega) (E_chk (by omega) (E_chk (by omega) (E_chk (by omega) (E_chk (by omega) (E_bnd (M_up (by omega) (by omega)) (E_chk (by omega) (E_ite (fun c4 => E_some ?_ rfl) (fun c4 => E_some ?_ rfl))))))))
    all_goals
      unfold leftS
      omega
  · refine E_chk (by omega) (E_chk (by omega) (E_chk (by omega) (E_chk (by omega) (E_bnd (M_up (by omega) (by omega)) (E_chk (by omega) (E_ite (fun c4 => E_some ?_ rfl) (fun c4 => E_some ?_ rfl)))))))
    all_goals
      unfold leftS
      omega
end ZOP7
