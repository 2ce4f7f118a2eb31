/-! OPERATIONS 8: used -/
section ZOP8
variable {x s m : ZMem} {c n p : Nat}
/-- what is left of the part feeds g more -/
def usB (s : ZMem) (g : Int) (p : Nat) : Bool := decide (12 * s 4 p * g ≤ leftS s p * s 0 0)
theorem usB_bds (hw : WFs s) (hp : (p : Int) < s 0 2) {g : Int} (hg : 0 ≤ g ∧ g ≤ 24) : (0 ≤ 12 * s 4 p * g ∧ 12 * s 4 p * g ≤ 28512) ∧ (0 ≤ leftS s p * s 0 0 ∧ leftS s p * s 0 0 ≤ 83520000) ∧ (1 ≤ s 4 p ∧ s 4 p ≤ 99) := by
  have hf := hw.f
  have l := left_bd hw hp
  obtain ⟨h1, h2, h3, h4, -⟩ := hw.pt p hp
  have w := mul_bd (a := 12 * s 4 p) (b := g) (A := 1188) (B := 24) (by omega) (by omega) hg.1 hg.2
  have v := mul_bd (a := leftS s p) (b := s 0 0) (A := 3480000) (B := 24) l.1 l.2 (by omega) hf.2
  omega
theorem X_leftFeeds (h : XK x 1 s) (hw : WFs s) (hn : 10000 ≤ n) {g : Int} (hg : 0 ≤ g ∧ g ≤ 24) : F_X7_leftFeeds n g x = some (b01 (allS (usB s g) (s 0 2).toNat), x) := by
  have h8 := np_le hw
  have key := loop_all (L := fun q (z : Int × ZMem) => L_X7_leftFeeds_2 n q g z.1 z.2) (s 0 2).toNat (usB s g) (fun k => ((k : Int), x)) (some (1, x)) (some (0, x)) ?_ ?_ ?_ n (by omega)
  · refine Eq.trans key ?_
    unfold b01
    split <;> rfl
  all_goals
    first
    | (intro k q hk hf
       have hk2 := np_lt hw hk
       obtain ⟨w, v, u⟩ := usB_bds hw hk2 hg
       show B_X7_leftFeeds_2 n (L_X7_leftFeeds_2 n q) g (k : Int) x = _
       unfold B_X7_leftFeeds_2
       refine E_bnd (X_size n 2 x) ?_
       rw [h.s2, if_neg (by omega)]
       refine E_bnd (X_p3 h hk2) (E_chk (by omega) (E_chk (by omega) (E_bnd (X_left h hw hk2) ?_)))
       rw [h.fm]
       refine E_chk (by omega) ?_
       simp only [usB, decide_eq_true_eq, decide_eq_false_iff_not] at hf
       first
       | (rw [if_pos (by omega)]
          refine E_chk (by omega) ?_
          rw [cast1])
       | rw [if_neg (by omega)])
    | (intro q
       show B_X7_leftFeeds_2 n (L_X7_leftFeeds_2 n q) g _ x = _
       unfold B_X7_leftFeeds_2
       refine E_bnd (X_size n 2 x) ?_
       rw [h.s2, if_pos (by have := np_cast hw; omega)])
theorem M_used_in (hw : WFs s) (hn : 10000 ≤ n) (r : Int → Int → ZMem → ZR) {g : Int} (hg : 0 ≤ g ∧ g ≤ 24) : L_X12_used_18 n r n g 1 0 s = if allS (usB s g) (s 0 2).toNat then r (g - 0) 1 s else r (g - 1) 0 s := by
  have h8 := np_le hw
  refine loop_run (L := fun q (z : Int × Int × ZMem) => L_X12_used_18 n r q g z.1 z.2.1 z.2.2) (s 0 2).toNat (fun k => (b01 (allS (usB s g) k), (k : Int), s)) _ ?_ ?_ n (by omega)
  · intro k q hk
    have hk2 := np_lt hw hk
    obtain ⟨w, v, u⟩ := usB_bds hw hk2 hg
    show B_X12_used_18 n r (L_X12_used_18 n r q) g _ (k : Int) s = L_X12_used_18 n r q g (b01 (allS (usB s g) k && usB s g k)) ((k + 1 : Nat) : Int) s
    unfold B_X12_used_18
    simp only [zM4, Int.toNat_natCast]
    rw [if_neg (by omega)]
    cases ha : allS (usB s g) k with
    | false =>
      rw [b01_f, if_pos rfl]
      refine E_chk (by omega) ?_
      rw [cast1]
      rfl
    | true =>
      rw [b01_t, if_neg (by decide)]
      refine E_chk (by omega) (E_chk (by omega) (E_chk (by omega) (E_bnd (M_leftOf hw hk2) (E_chk (by omega) (E_ite (fun hc => E_chk (by omega) ?_) (fun hc => E_chk (by omega) ?_))))))
      · rw [cast1, show usB s g k = false by simp only [usB, decide_eq_false_iff_not]; omega]
        rfl
      · rw [cast1, show usB s g k = true by simp only [usB, decide_eq_true_eq]; omega]
        rfl
  · intro q
    show B_X12_used_18 n r (L_X12_used_18 n r q) g _ ((s 0 2).toNat : Int) s = _
    unfold B_X12_used_18
    rw [if_pos (by have := np_cast hw; omega)]
    cases ha : allS (usB s g) (s 0 2).toNat with
    | false =>
      rw [b01_f, if_pos rfl, if_neg (by decide)]
      exact E_chk (by omega) rfl
    | true =>
      rw [b01_t, if_neg (show ¬ (1 : Int) = 0 by decide), if_pos rfl]
      exact E_chk (by omega) rfl
theorem allS_true {f : Nat → Bool} : ∀ (k : Nat), (∀ i, i < k → f i = true) → allS f k = true := by
  intro k
  induction k with
  | zero => intro _; rfl
  | succ k ih =>
    intro h
    show (allS f k && f k) = true
    rw [ih (fun i hi => h i (by omega)), h k (by omega)]
    rfl
theorem used_tw (h : XK x 1 s) (hw : WFs s) (hn : 10000 ≤ n) : ∀ (g q q' : Nat), g ≤ 24 → g < q → g + 1 < q' → TW x s (L_X7_moreGuests_3 n q (g : Int) x) (L_X12_used_10 n q' (g : Int) 0 s) := by
  intro g
  induction g with
  | zero =>
    intro q q' h1 hq hq'
    obtain ⟨q, rfl⟩ : ∃ z, q = z + 1 := ⟨q - 1, by omega⟩
    obtain ⟨q', rfl⟩ : ∃ z, q' = z + 2 := ⟨q' - 2, by omega⟩
    show TW x s (B_X7_moreGuests_3 n (L_X7_moreGuests_3 n q) ((0 : Nat) : Int) x) (B_X12_used_10 n (L_X12_used_10 n (q' + 1)) ((0 : Nat) : Int) 0 s)
    unfold B_X7_moreGuests_3 B_X12_used_10
    rw [if_pos (by omega), if_pos rfl]
    have ha : allS (usB s ((0 : Nat) : Int)) (s 0 2).toNat = true := by
      refine allS_true _ (fun i hi => ?_)
      obtain ⟨w, v, u⟩ := usB_bds hw (np_lt hw hi) (g := ((0 : Nat) : Int)) (by decide)
      have e : 12 * s 4 i * ((0 : Nat) : Int) = 0 := Int.mul_zero _
      simp only [usB, decide_eq_true_eq]
      omega
    refine TW_m (M_used_in hw hn _ (by decide)) ?_
    rw [if_pos ha]
    show TW x s _ (B_X12_used_10 n (L_X12_used_10 n q') _ 1 s)
    unfold B_X12_used_10
    rw [if_neg (by decide)]
    exact TW_some rfl
  | succ g ih =>
    intro q q' h1 hq hq'
    obtain ⟨q, rfl⟩ : ∃ z, q = z + 1 := ⟨q - 1, by omega⟩
    obtain ⟨q', rfl⟩ : ∃ z, q' = z + 2 := ⟨q' - 2, by omega⟩
    show TW x s (B_X7_moreGuests_3 n (L_X7_moreGuests_3 n q) ((g + 1 : Nat) : Int) x) (B_X12_used_10 n (L_X12_used_10 n (q' + 1)) ((g + 1 : Nat) : Int) 0 s)
    unfold B_X7_moreGuests_3 B_X12_used_10
    rw [if_neg (by omega), if_pos rfl]
    refine TW_bx (X_leftFeeds h hw hn (by omega)) (TW_m (M_used_in hw hn _ (by omega)) ?_)
    cases ha : allS (usB s ((g + 1 : Nat) : Int)) (s 0 2).toNat with
    | false =>
      rw [b01_f, if_pos rfl, if_neg (by decide)]
      refine TW_cx (by omega) ?_
      rw [show ((g + 1 : Nat) : Int) + (-1) = (g : Int) by omega, show ((g + 1 : Nat) : Int) - 1 = (g : Int) by omega]
      exact ih q (q' + 1) (by omega) (by omega) (by omega)
    | true =>
      rw [b01_t, if_neg (by decide), if_pos rfl]
      show TW x s _ (B_X12_used_10 n (L_X12_used_10 n q') _ 1 s)
      unfold B_X12_used_10
      rw [if_neg (by decide)]
      exact TW_some (by omega)
theorem op_used (h : CP c x m) (hn : 10000 ≤ n) : SIM c (F_X11_used n x) (F_X12_used n m) := by
  refine SIM_tw h ?_
  unfold F_X11_used F_X12_used F_X7_moreGuests
  obtain ⟨r, e1, e2⟩ := used_tw (n := n) (XK_t h.k.1) (WFs_t h.k.2) hn 24 n n (by decide) (by omega) (by omega)
  exact TW_bx e1 ⟨r, rfl, e2⟩
end ZOP8
