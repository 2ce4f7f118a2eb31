/-! OPERATIONS 11: tins: area, minutes; deep, tin -/
def areaS (s : ZMem) (t : Nat) : Int := if s 6 t = 1 then 14 * s 7 t * s 7 t else 11 * s 7 t * s 7 t
def longS (s : ZMem) (t : Nat) : Int := min (max (nearS (s 0 6 * s 0 1 * areaS s 0) (s 0 0 * areaS s t)) (max (s 0 6 / 3) 1)) 999
section ZOP11
variable {x s m : ZMem} {c n t : Nat}
theorem X_t0 (h : XK x 1 s) (ht : (t : Int) < s 0 3) : F_X9_at n 4 (t : Int) 0 x = some (s 6 t, x) := by
  obtain ⟨-, -, ⟨t1, t2, t3⟩, -⟩ := XK_parts h
  rw [← (t3 t ht).1]
  exact X_at (j := 0) t1 (by rw [t2]; exact ht) (by decide)
theorem X_t1 (h : XK x 1 s) (ht : (t : Int) < s 0 3) : F_X9_at n 4 (t : Int) 1 x = some (s 7 t, x) := by
  obtain ⟨-, -, ⟨t1, t2, t3⟩, -⟩ := XK_parts h
  rw [← (t3 t ht).2]
  exact X_at (j := 1) t1 (by rw [t2]; exact ht) (by decide)
theorem area_bds (hw : WFs s) (ht : (t : Int) < s 0 3) : (1 ≤ 14 * s 7 t * s 7 t ∧ 14 * s 7 t * s 7 t ≤ 12600) ∧ (1 ≤ 11 * s 7 t * s 7 t ∧ 11 * s 7 t * s 7 t ≤ 9900) ∧ (1 ≤ s 7 t ∧ s 7 t ≤ 30) := by
  obtain ⟨-, h2⟩ := hw.tn t ht
  have a := mul_bd1 (a := 14 * s 7 t) (b := s 7 t) (A := 420) (B := 30) (by omega) (by omega) h2.1 h2.2
  have b := mul_bd1 (a := 11 * s 7 t) (b := s 7 t) (A := 330) (B := 30) (by omega) (by omega) h2.1 h2.2
  omega
theorem area_bd (hw : WFs s) (ht : (t : Int) < s 0 3) : 1 ≤ areaS s t ∧ areaS s t ≤ 12600 := by
  have := area_bds hw ht
  unfold areaS
  split <;> omega
theorem X_area (h : XK x 1 s) (hw : WFs s) (ht : (t : Int) < s 0 3) : F_X10_area n (t : Int) x = some (areaS s t, x) := by
  have b := area_bds hw ht
  unfold F_X10_area areaS
  refine E_bnd (X_t1 h ht) (E_bnd (X_t0 h ht) (E_ite (fun e => E_chk (by omega) (E_chk (by omega) ?_)) (fun e => E_chk (by omega) (E_chk (by omega) ?_))))
  · rw [if_pos e]
  · rw [if_neg e]
theorem M_areaOf (hw : WFs s) (ht : (t : Int) < s 0 3) : F_X12_areaOf n (t : Int) s = some (areaS s t, s) := by
  have b := area_bds hw ht
  have h5 := hw.nt
  unfold F_X12_areaOf areaS
  simp only [zM1, zM2, zM3, zM4, zM5, zM6, zM7, zM8, zM9, zM10, zM11, zM12, zM13, zM14, zM15, zM16, zM17, zM18, zM19, zM20, zM21, zM22, zM23, zM24, zM25, zM26, zM27, zM28, zM29, Int.toNat_natCast]
  refine E_chk (by omega) (E_ite (fun e => E_chk (by omega) (E_chk (by omega) (E_chk (by omega) (E_chk (by omega) ?_)))) (fun e => E_chk (by omega) (E_chk (by omega) (E_chk (by omega) (E_chk (by omega) ?_)))))
  · rw [if_pos e]
  · rw [if_neg e]
theorem long_bds (hw : WFs s) (ht : (t : Int) < s 0 3) : (1 ≤ s 0 6 * s 0 1 ∧ s 0 6 * s 0 1 ≤ 2376) ∧ (1 ≤ s 0 6 * s 0 1 * areaS s 0 ∧ s 0 6 * s 0 1 * areaS s 0 ≤ 29937600) ∧ (1 ≤ s 0 0 * areaS s t ∧ s 0 0 * areaS s t ≤ 302400) := by
  have hg := hw.g
  have hf := hw.f
  have hm := hw.tim
  have a0 := area_bd hw (t := 0) (by omega)
  have at' := area_bd hw ht
  have u := mul_bd1 (a := s 0 6) (b := s 0 1) hm.1 hm.2 hg.1 hg.2
  have v := mul_bd1 (a := s 0 6 * s 0 1) (b := areaS s 0) u.1 u.2 a0.1 a0.2
  have w := mul_bd1 (a := s 0 0) (b := areaS s t) hf.1 hf.2 at'.1 at'.2
  omega
theorem X_long (h : XK x 1 s) (hw : WFs s) (ht : (t : Int) < s 0 3) : F_X10_minutesIn n (t : Int) x = some (longS s t, x) := by
  obtain ⟨u, v, w⟩ := long_bds hw ht
  have hm := hw.tim
  have ht0 : ((0 : Nat) : Int) < s 0 3 := by omega
  unfold F_X10_minutesIn
  rw [h.mi, h.gu]
  refine E_chk (by omega) (E_bnd (X_area (t := 0) h hw ht0) (E_chk (by omega) (E_bnd (X_area h hw ht) ?_)))
  rw [h.fm]
  refine E_chk (by omega) (E_bnd (X_nearest (by omega) (by omega)) ?_)
  rw [h.mi]
  exact E_chk ⟨by omega, by decide⟩ rfl
theorem M_longIn (hw : WFs s) (ht : (t : Int) < s 0 3) : F_X12_longIn n (t : Int) s = some (longS s t, s) := by
  obtain ⟨u, v, w⟩ := long_bds hw ht
  have hm := hw.tim
  have ht0 : ((0 : Nat) : Int) < s 0 3 := by omega
  unfold F_X12_longIn longS
  refine E_chk (by omega) (E_bnd (M_areaOf (t := 0) hw ht0) (E_chk (by omega) (E_bnd (M_areaOf hw ht) (E_chk (by omega) (E_bnd (M_nearest (by omega) (by omega)) (E_chk ⟨by omega, by decide⟩ ?_))))))
  refine E_ite (fun e1 => E_chk ⟨by omega, by decide⟩ (E_ite (fun e2 => E_ite (fun e3 => E_some ?_ rfl) (fun e3 => E_some ?_ rfl)) (fun e2 => E_some ?_ rfl))) (fun e1 => E_ite (fun e2 => E_ite (fun e3 => E_some ?_ rfl) (fun e3 => E_some ?_ rfl)) (fun e2 => E_some ?_ rfl))
  all_goals omega
end ZOP11
