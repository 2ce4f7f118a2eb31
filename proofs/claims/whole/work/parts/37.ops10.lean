/-! OPERATIONS 10: count -/
def cntS (s : ZMem) (a S : Int) : Int := if a = 0 then s 0 2 else if a = 1 then s 0 0 else if a = 2 then s 0 1 else if a = 3 then s 0 3 else if a = 4 then s 0 4 else if a = 5 then S else if a = 6 then s 0 19 else if a = 7 then s 0 49 else if a = 8 then s 0 5 else if a = 9 then s 0 6 else if a = 10 then s 0 41 else if 11 ≤ a ∧ a ≤ 16 then s 10 (a - 10).toNat else if a = 17 then s 0 33 else if a = 18 then s 0 47 else if 20 ≤ a ∧ a ≤ 22 then s 9 (a - 20).toNat else -9
def houS (s : ZMem) : Int := sumS (fun p => s 5 p) (s 0 2).toNat
section ZOP10
variable {x s m : ZMem} {c n : Nat}
theorem hou_bd (hw : WFs s) {k : Nat} (hk : k ≤ (s 0 2).toNat) : 0 ≤ sumS (fun p => s 5 p) k ∧ sumS (fun p => s 5 p) k ≤ 792 := by
  have h8 := np_le hw
  have := sumS_bd (f := fun p => s 5 p) (B := 99) (by decide) k (fun i hi => by
    obtain ⟨-, -, -, -, h5, -⟩ := hw.pt i (np_lt hw (by omega))
    exact h5)
  omega
theorem X_allHouse (h : XK x 1 s) (hw : WFs s) (hn : 10000 ≤ n) : F_X3_allHouse n x = some (houS s, x) := by
  have h8 := np_le hw
  refine loop_run (L := fun q (z : Int × Int × ZMem) => L_X3_allHouse_4 n q z.1 z.2.1 z.2.2) (s 0 2).toNat (fun k => (sumS (fun p => s 5 p) k, (k : Int), x)) _ ?_ ?_ n (by omega)
  · intro k q hk
    have hk2 := np_lt hw hk
    have b := hou_bd hw (k := k) (by omega)
    obtain ⟨-, -, -, -, h5, -⟩ := hw.pt k hk2
    show B_X3_allHouse_4 n (L_X3_allHouse_4 n q) _ (k : Int) x = L_X3_allHouse_4 n q (sumS (fun p => s 5 p) k + s 5 k) ((k + 1 : Nat) : Int) x
    unfold B_X3_allHouse_4
    refine E_bnd (X_size n 2 x) ?_
    rw [h.s2, if_neg (by omega)]
    refine E_bnd (X_p4 h hk2) (E_chk (by omega) (E_chk (by omega) ?_))
    rw [cast1]
  · intro q
    show B_X3_allHouse_4 n (L_X3_allHouse_4 n q) _ ((s 0 2).toNat : Int) x = _
    unfold B_X3_allHouse_4
    refine E_bnd (X_size n 2 x) ?_
    rw [h.s2, if_pos (by have := np_cast hw; omega)]
    rfl
theorem M_count (hw : WFs s) (hn : 10000 ≤ n) (a : Int) (ra : R32 a) : L_X12_count_9 n n a 0 0 s = some (cntS s a (houS s), s) := by
  have h8 := np_le hw
  refine loop_run (L := fun q (z : Int × Int × ZMem) => L_X12_count_9 n q a z.1 z.2.1 z.2.2) (s 0 2).toNat (fun k => (sumS (fun p => s 5 p) k, (k : Int), s)) _ ?_ ?_ n (by omega)
  · intro k q hk
    have hk2 := np_lt hw hk
    have b := hou_bd hw (k := k) (by omega)
    obtain ⟨-, -, -, -, h5, -⟩ := hw.pt k hk2
    show B_X12_count_9 n (L_X12_count_9 n q) a _ (k : Int) s = L_X12_count_9 n q a (sumS (fun p => s 5 p) k + s 5 k) ((k + 1 : Nat) : Int) s
    unfold B_X12_count_9
    simp only [zM5, Int.toNat_natCast]
    rw [if_neg (by omega)]
    refine E_chk (by omega) (E_chk (by omega) (E_chk (by omega) ?_))
    rw [cast1]
  · intro q
    show B_X12_count_9 n (L_X12_count_9 n q) a (houS s) ((s 0 2).toNat : Int) s = _
    unfold B_X12_count_9
    refine Eq.trans (if_pos (by have := np_cast hw; omega)) ?_
    by_cases hr : 0 ≤ a ∧ a ≤ 18
    · have hcs : a = 0 ∨ a = 1 ∨ a = 2 ∨ a = 3 ∨ a = 4 ∨ a = 5 ∨ a = 6 ∨ a = 7 ∨ a = 8 ∨ a = 9 ∨ a = 10 ∨ a = 11 ∨ a = 12 ∨ a = 13 ∨ a = 14 ∨ a = 15 ∨ a = 16 ∨ a = 17 ∨ a = 18 := by omega
      rcases hcs with rfl | rfl | rfl | rfl | rfl | rfl | rfl | rfl | rfl | rfl | rfl | rfl | rfl | rfl | rfl | rfl | rfl | rfl | rfl <;> rfl
    · refine Eq.trans (if_neg (by omega)) (Eq.trans (if_neg (by omega)) (Eq.trans (if_neg (by omega)) (Eq.trans (if_neg (by omega)) (Eq.trans (if_neg (by omega)) (Eq.trans (if_neg (by omega)) (Eq.trans (if_neg (by omega)) (Eq.trans (if_neg (by omega)) (Eq.trans (if_neg (by omega)) (Eq.trans (if_neg (by omega)) (Eq.trans (if_neg (by omega)) (Eq.trans (if_neg (by omega)) (Eq.trans (if_neg (by omega)) (Eq.trans (if_neg (by omega)) (Eq.trans (if_neg (by omega)) (Eq.trans (if_neg (by omega)) (Eq.trans (if_neg (by omega)) (Eq.trans (if_neg (by omega)) (Eq.trans (if_neg (by omega)) (?_)))))))))))))))))))
      have e : cntS s a (houS s) = if 20 ≤ a ∧ a ≤ 22 then s 9 (a - 20).toNat else -9 := by
        unfold cntS
        exact Eq.trans (if_neg (by omega)) (Eq.trans (if_neg (by omega)) (Eq.trans (if_neg (by omega)) (Eq.trans (if_neg (by omega)) (Eq.trans (if_neg (by omega)) (Eq.trans (if_neg (by omega)) (Eq.trans (if_neg (by omega)) (Eq.trans (if_neg (by omega)) (Eq.trans (if_neg (by omega)) (Eq.trans (if_neg (by omega)) (Eq.trans (if_neg (by omega)) (Eq.trans (if_neg (by omega)) (Eq.trans (if_neg (by omega)) (if_neg (by omega))))))))))))))
      rw [e]
      by_cases h2 : 20 ≤ a ∧ a ≤ 22
      · refine E_bnd (M_in_t h2) (Eq.trans (if_neg (by decide)) (E_chk (by omega) (E_chk (by rw [zM9]; omega) ?_)))
        rw [if_pos h2]
      · refine E_bnd (M_in_f h2) (Eq.trans (if_pos rfl) (E_bnd (M_in_f (by omega)) (Eq.trans (if_pos rfl) ?_)))
        rw [if_neg h2]
theorem op_count (h : CP c x m) (hn : 10000 ≤ n) (a : Int) (ra : R32 a) : SIM c (F_X11_count n a x) (F_X12_count n a m) := by
  have hw := WFs_t h.k.2
  have hk := XK_t (k := 1) h.k.1
  refine SIM_tw h ⟨cntS (wr m 0 16 0) a (houS (wr m 0 16 0)), ?_, ?_⟩
  · by_cases h1 : 11 ≤ a ∧ a ≤ 16
    · obtain ⟨f1, f2, f3⟩ := h.f
      obtain ⟨k, hkk⟩ : ∃ k : Nat, a - 10 = (k : Int) := ⟨(a - 10).toNat, by omega⟩
      unfold F_X11_count
      rw [if_neg (by omega), if_neg (by omega)]
      refine E_chk (by omega) ?_
      rw [hkk]
      refine E_bnd (X_at0 f1 (by omega)) (E_some ?_ rfl)
      have e : cntS (wr m 0 16 0) a (houS (wr m 0 16 0)) = m 10 k := by
        unfold cntS
        refine Eq.trans (if_neg (by omega)) (Eq.trans (if_neg (by omega)) (Eq.trans (if_neg (by omega)) (Eq.trans (if_neg (by omega)) (Eq.trans (if_neg (by omega)) (Eq.trans (if_neg (by omega)) (Eq.trans (if_neg (by omega)) (Eq.trans (if_neg (by omega)) (Eq.trans (if_neg (by omega)) (Eq.trans (if_neg (by omega)) (Eq.trans (if_neg (by omega)) (Eq.trans (if_pos h1) ?_)))))))))))
        rw [hkk, Int.toNat_natCast]
        rfl
      rw [e]
      exact (f3 k (by omega) (by omega)).1
    by_cases h2 : 20 ≤ a ∧ a ≤ 22
    · obtain ⟨k, hkk⟩ : ∃ k : Nat, a - 20 = (k : Int) := ⟨(a - 20).toNat, by omega⟩
      unfold F_X11_count
      rw [if_neg (by omega), if_pos (by omega), if_neg (by omega), if_neg (by omega)]
      refine E_chk (by omega) ?_
      rw [hkk]
      refine E_bnd (X_at0 hk.t8 (by rw [hk.s8]; omega)) (E_some ?_ rfl)
      have e : cntS (wr m 0 16 0) a (houS (wr m 0 16 0)) = m 9 k := by
        unfold cntS
        refine Eq.trans (if_neg (by omega)) (Eq.trans (if_neg (by omega)) (Eq.trans (if_neg (by omega)) (Eq.trans (if_neg (by omega)) (Eq.trans (if_neg (by omega)) (Eq.trans (if_neg (by omega)) (Eq.trans (if_neg (by omega)) (Eq.trans (if_neg (by omega)) (Eq.trans (if_neg (by omega)) (Eq.trans (if_neg (by omega)) (Eq.trans (if_neg (by omega)) (Eq.trans (if_neg (by omega)) (Eq.trans (if_neg (by omega)) (Eq.trans (if_neg (by omega)) (Eq.trans (if_pos h2) ?_))))))))))))))
        rw [hkk, Int.toNat_natCast]
        rfl
      rw [e]
      exact h.k.1.2.2.2.2.2.2.1 k (by omega)
    by_cases hr : 0 ≤ a ∧ a ≤ 18
    · have hcs : a = 0 ∨ a = 1 ∨ a = 2 ∨ a = 3 ∨ a = 4 ∨ a = 5 ∨ a = 6 ∨ a = 7 ∨ a = 8 ∨ a = 9 ∨ a = 10 ∨ a = 17 ∨ a = 18 := by omega
      rcases hcs with rfl | rfl | rfl | rfl | rfl | rfl | rfl | rfl | rfl | rfl | rfl | rfl | rfl
      · exact Eq.trans (show F_X11_count n 0 x = some (x 2 3, x) from rfl) (E_some (hk.s2) rfl)
      · exact Eq.trans (show F_X11_count n 1 x = some (x 1 0, x) from rfl) (E_some (hk.fm) rfl)
      · exact Eq.trans (show F_X11_count n 2 x = some (x 1 1, x) from rfl) (E_some (hk.gu) rfl)
      · exact Eq.trans (show F_X11_count n 3 x = some (x 4 3, x) from rfl) (E_some (hk.s4) rfl)
      · exact Eq.trans (show F_X11_count n 4 x = some (x 6 3, x) from rfl) (E_some (hk.s6) rfl)
      · exact Eq.trans (show F_X11_count n 5 x = bnd (F_X3_allHouse n x) (fun v42 m43 => some (v42, m43)) from rfl) (E_bnd (X_allHouse hk hw hn) rfl)
      · exact Eq.trans (show F_X11_count n 6 x = some (x 41 3, x) from rfl) (E_some (h.l.2.1) rfl)
      · exact Eq.trans (show F_X11_count n 7 x = some (x 45 3, x) from rfl) (E_some (h.r.2.1) rfl)
      · exact Eq.trans (show F_X11_count n 8 x = some (x 1 2, x) from rfl) (E_some (hk.vo) rfl)
      · exact Eq.trans (show F_X11_count n 9 x = some (x 1 3, x) from rfl) (E_some (hk.mi) rfl)
      · exact Eq.trans (show F_X11_count n 10 x = some (x 10 3, x) from rfl) (E_some (hk.s10) rfl)
      · exact Eq.trans (show F_X11_count n 17 x = some (x 47 3, x) from rfl) (E_some (h.e.2.1) rfl)
      · exact Eq.trans (show F_X11_count n 18 x = some (x 12 3, x) from rfl) (E_some (hk.s12) rfl)
    · have e : cntS (wr m 0 16 0) a (houS (wr m 0 16 0)) = -9 := by
        unfold cntS
        exact Eq.trans (if_neg (by omega)) (Eq.trans (if_neg (by omega)) (Eq.trans (if_neg (by omega)) (Eq.trans (if_neg (by omega)) (Eq.trans (if_neg (by omega)) (Eq.trans (if_neg (by omega)) (Eq.trans (if_neg (by omega)) (Eq.trans (if_neg (by omega)) (Eq.trans (if_neg (by omega)) (Eq.trans (if_neg (by omega)) (Eq.trans (if_neg (by omega)) (Eq.trans (if_neg (by omega)) (Eq.trans (if_neg (by omega)) (Eq.trans (if_neg (by omega)) (if_neg (by omega)))))))))))))))
      rw [e]
      have b : B_X11_count_53 n a x = some (-9, x) := by
        unfold B_X11_count_53
        exact Eq.trans (if_neg (by omega)) (Eq.trans (if_neg (by omega)) (Eq.trans (if_neg (by omega)) (Eq.trans (if_neg (by omega)) (Eq.trans (if_neg (by omega)) (Eq.trans (if_neg (by omega)) (Eq.trans (if_neg (by omega)) (Eq.trans (if_neg (by omega)) (Eq.trans (if_neg (by omega)) (Eq.trans (if_neg (by omega)) (Eq.trans (if_neg (by omega)) (Eq.trans (if_neg (by omega)) (Eq.trans (if_neg (by omega)) (Eq.trans (if_neg (by omega)) (Eq.trans (if_neg (by omega)) (Eq.trans (if_neg (by omega)) (Eq.trans (if_neg (by omega)) (Eq.trans (if_neg (by omega)) (if_neg (by omega)))))))))))))))))))
      unfold F_X11_count
      refine E_ite (fun _ => E_ite (fun _ => b) (fun _ => E_ite (fun _ => b) (fun _ => by omega))) (fun _ => E_ite (fun _ => E_ite (fun _ => b) (fun _ => E_ite (fun _ => b) (fun _ => by omega))) (fun _ => by omega))
  · unfold F_X12_count
    exact M_count hw hn a ra
end ZOP10
