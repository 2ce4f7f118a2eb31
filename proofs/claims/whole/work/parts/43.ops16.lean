/-! OPERATIONS 16: fair, tinFor, pair -/
theorem sumS_bd2 {f : Nat → Int} {B : Int} (hB : 0 ≤ B) : ∀ (k : Nat), (∀ i, i < k → -B ≤ f i ∧ f i ≤ B) → -((k : Int) * B) ≤ sumS f k ∧ sumS f k ≤ k * B
  | 0, _ => by simp [sumS]
  | k + 1, h => by
    have h1 := sumS_bd2 hB k (fun i hi => h i (by omega))
    have h2 := h k (by omega)
    have e : ((k + 1 : Nat) : Int) * B = (k : Int) * B + B := by rw [Int.natCast_add, Int.add_mul]; simp
    show -(((k + 1 : Nat) : Int) * B) ≤ sumS f k + f k ∧ sumS f k + f k ≤ _
    omega
/-- a place of the row, on its group's side -/
def aprS (s : ZMem) (g : Int) (j : Nat) : Int := if (g / 2 ^ j) % 2 ^ 1 = 1 then s 29 j else -(s 29 j)
def apS (s : ZMem) (g : Int) : Int := zabs (sumS (aprS s g) (s 0 49).toNat)
def abB (s : ZMem) (p : Nat) : Bool := decide (¬ s 29 p ≤ 0)
theorem pow8' {k : Nat} (h : k ≤ 8) : 1 ≤ (1 : Int) * 2 ^ k ∧ (1 : Int) * 2 ^ k ≤ 256 := by
  by_cases e : k = 8
  · subst e
    decide
  · have := pow8 (k := k) (by omega)
    omega
section ZOP16
variable {x s m : ZMem} {c n p : Nat}
theorem row_sz (hr : CPr x s) : 0 ≤ s 0 49 ∧ s 0 49 ≤ 8 := by
  have := hr.1.2.2.1
  rw [hr.2.1] at this
  exact this
theorem apr_bd (hr : CPr x s) (g : Int) {j : Nat} (hj : (j : Int) < s 0 49) : -99 ≤ aprS s g j ∧ aprS s g j ≤ 99 := by
  have := (hr.2.2 j hj).2
  unfold aprS
  split <;> omega
theorem X_apart (hr : CPr x s) (hn : 10000 ≤ n) (g : Int) : F_X4_groupsApart n g x = some (apS s g, x) := by
  have h8 := row_sz hr
  refine loop_run (L := fun q (z : Int × Int × ZMem) => L_X4_groupsApart_4 n q g z.1 z.2.1 z.2.2) (s 0 49).toNat (fun k => (sumS (aprS s g) k, (k : Int), x)) _ ?_ ?_ n (by omega)
  · intro k q hk
    have hk2 : (k : Int) < s 0 49 := by omega
    have b0 := sumS_bd2 (f := aprS s g) (B := 99) (by decide) k (fun i hi => apr_bd hr g (by omega))
    have b1 := (hr.2.2 k hk2).2
    show B_X4_groupsApart_4 n (L_X4_groupsApart_4 n q) g _ (k : Int) x = L_X4_groupsApart_4 n q g (sumS (aprS s g) k + aprS s g k) ((k + 1 : Nat) : Int) x
    unfold B_X4_groupsApart_4
    refine E_bnd (X_size n 45 x) ?_
    rw [hr.2.1, if_neg (by omega)]
    simp only [Int.toNat_natCast]
    refine E_chk (by omega) (E_ite (fun e => ?_) (fun e => ?_))
    · rw [show aprS s g k = s 29 k by unfold aprS; rw [if_pos e], cast1]
      exact E_bnd (X_rowAt hr hk2) (E_chk (by omega) (E_chk (by omega) rfl))
    · rw [show aprS s g k = -(s 29 k) by unfold aprS; rw [if_neg e], cast1]
      exact E_bnd (X_rowAt hr hk2) (E_chk (by omega) (E_chk (by omega) (E_chk (by omega) rfl)))
  · intro q
    have b0 := sumS_bd2 (f := aprS s g) (B := 99) (by decide) (s 0 49).toNat (fun i hi => apr_bd hr g (by omega))
    have z := zabs_bd (a := sumS (aprS s g) (s 0 49).toNat) (B := 792) (by omega)
    show B_X4_groupsApart_4 n (L_X4_groupsApart_4 n q) g (sumS (aprS s g) (s 0 49).toNat) ((s 0 49).toNat : Int) x = _
    unfold B_X4_groupsApart_4
    refine E_bnd (X_size n 45 x) ?_
    rw [hr.2.1, if_pos (by omega)]
    exact E_chk (by omega) rfl
theorem M_apart (hr : CPr x s) (hn : 10000 ≤ n) (g : Int) : F_X12_apartBy n g s = some (apS s g, s) := by
  have h8 := row_sz hr
  refine loop_run (L := fun q (z : Int × Int × ZMem) => L_X12_apartBy_4 n q g z.1 z.2.1 z.2.2) (s 0 49).toNat (fun k => (sumS (aprS s g) k, (k : Int), s)) _ ?_ ?_ n (by omega)
  · intro k q hk
    have hk2 : (k : Int) < s 0 49 := by omega
    have b0 := sumS_bd2 (f := aprS s g) (B := 99) (by decide) k (fun i hi => apr_bd hr g (by omega))
    have b1 := (hr.2.2 k hk2).2
    show B_X12_apartBy_4 n (L_X12_apartBy_4 n q) g _ (k : Int) s = L_X12_apartBy_4 n q g (sumS (aprS s g) k + aprS s g k) ((k + 1 : Nat) : Int) s
    unfold B_X12_apartBy_4
    simp only [zM1, zM2, zM3, zM4, zM5, zM6, zM7, zM8, zM9, zM10, zM11, zM12, zM13, zM14, zM15, zM16, zM17, zM18, zM19, zM20, zM21, zM22, zM23, zM24, zM25, zM26, zM27, zM28, zM29, Int.toNat_natCast]
    rw [if_neg (by omega)]
    refine E_chk (by omega) (E_ite (fun e => ?_) (fun e => ?_))
    · rw [show aprS s g k = s 29 k by unfold aprS; rw [if_pos e], cast1]
      exact E_chk (by omega) (E_chk (by omega) (E_chk (by omega) rfl))
    · rw [show aprS s g k = -(s 29 k) by unfold aprS; rw [if_neg e], cast1]
      exact E_chk (by omega) (E_chk (by omega) (E_chk (by omega) (E_chk (by omega) rfl)))
  · intro q
    have b0 := sumS_bd2 (f := aprS s g) (B := 99) (by decide) (s 0 49).toNat (fun i hi => apr_bd hr g (by omega))
    show B_X12_apartBy_4 n (L_X12_apartBy_4 n q) g (sumS (aprS s g) (s 0 49).toNat) ((s 0 49).toNat : Int) s = _
    unfold B_X12_apartBy_4
    rw [if_pos (by omega)]
    exact E_bnd (M_plainly (by omega)) rfl
theorem X_holds0 (hr : CPr x s) (hn : 10000 ≤ n) : F_X9_holds n 45 0 x = some (b01 (!(allS (abB s) (s 0 49).toNat)), x) := by
  have h8 := row_sz hr
  have key := loop_all (L := fun q (z : Int × ZMem) => L_X9_holds_2 n 45 q 0 z.1 z.2) (s 0 49).toNat (abB s) (fun k => ((k : Int), x)) (some (0, x)) (some (1, x)) ?_ ?_ ?_ n (by omega)
  · refine Eq.trans key ?_
    cases allS (abB s) (s 0 49).toNat with
    | true => rfl
    | false => rfl
  all_goals
    first
    | (intro k q hk hf
       have hk2 : (k : Int) < s 0 49 := by omega
       have b1 := (hr.2.2 k hk2).2
       show B_X9_holds_2 n 45 (L_X9_holds_2 n 45 q) 0 (k : Int) x = _
       unfold B_X9_holds_2
       rw [hr.2.1, if_neg (by omega)]
       refine E_bnd (X_rowAt hr hk2) ?_
       simp only [abB, decide_eq_true_eq, decide_eq_false_iff_not] at hf
       first
       | (rw [if_neg (by omega)]
          refine E_chk (by omega) ?_
          rw [cast1])
       | rw [if_pos (by omega)])
    | (intro q
       show B_X9_holds_2 n 45 (L_X9_holds_2 n 45 q) 0 _ x = _
       unfold B_X9_holds_2
       rw [hr.2.1, if_pos (by omega)])
theorem M_above (hr : CPr x s) (hn : 10000 ≤ n) : F_X12_areAllAbove n s = some (b01 (decide (¬ s 0 49 ≤ 0) && allS (abB s) (s 0 49).toNat), s) := by
  have h8 := row_sz hr
  have key : ∀ b0 : Bool, L_X12_areAllAbove_15 n n (b01 b0) 0 s = some (b01 (b0 && allS (abB s) (s 0 49).toNat), s) := by
    intro b0
    have := loop_run (L := fun q (z : Int × Int × ZMem) => L_X12_areAllAbove_15 n q z.1 z.2.1 z.2.2) (s 0 49).toNat (fun k => (b01 (b0 && allS (abB s) k), (k : Int), s)) (some (b01 (b0 && allS (abB s) (s 0 49).toNat), s)) ?_ ?_ n (by omega)
    · rw [show (b0 && allS (abB s) 0) = b0 by simp [allS]] at this
      exact this
    · intro k q hk
      have hk2 : (k : Int) < s 0 49 := by omega
      show B_X12_areAllAbove_15 n (L_X12_areAllAbove_15 n q) _ (k : Int) s = L_X12_areAllAbove_15 n q (b01 (b0 && (allS (abB s) k && abB s k))) ((k + 1 : Nat) : Int) s
      unfold B_X12_areAllAbove_15
      simp only [zM1, zM2, zM3, zM4, zM5, zM6, zM7, zM8, zM9, zM10, zM11, zM12, zM13, zM14, zM15, zM16, zM17, zM18, zM19, zM20, zM21, zM22, zM23, zM24, zM25, zM26, zM27, zM28, zM29, Int.toNat_natCast]
      rw [if_neg (by omega), ← Bool.and_assoc]
      cases ha : (b0 && allS (abB s) k) with
      | false =>
        rw [b01_f, if_pos rfl]
        refine E_chk (by omega) ?_
        rw [cast1]
        rfl
      | true =>
        rw [b01_t, if_neg (by decide)]
        refine E_chk (by omega) (E_ite (fun e => ?_) (fun e => ?_))
        · rw [show abB s k = false by simp only [abB, decide_eq_false_iff_not]; omega]
          refine E_chk (by omega) ?_
          rw [cast1]
          rfl
        · rw [show abB s k = true by simp only [abB, decide_eq_true_eq]; exact e]
          refine E_chk (by omega) ?_
          rw [cast1]
          rfl
    · intro q
      show B_X12_areAllAbove_15 n (L_X12_areAllAbove_15 n q) _ ((s 0 49).toNat : Int) s = _
      unfold B_X12_areAllAbove_15
      rw [if_pos (by omega)]
      refine E_chk ?_ rfl
      unfold b01
      split
      · exact Or.inr rfl
      · exact Or.inl rfl
  unfold F_X12_areAllAbove
  refine E_ite (fun e => ?_) (fun e => ?_)
  · rw [show decide (¬ s 0 49 ≤ 0) = false by rw [decide_eq_false_iff_not]; exact fun z => z e]
    exact key false
  · rw [show decide (¬ s 0 49 ≤ 0) = true by rw [decide_eq_true_eq]; exact e]
    exact key true
def fairW (w g : Int) (n : Nat) (x : ZMem) : ZR := if w = 0 then some (g, x) else bnd (F_X4_groupsApart n g x) (fun v m => some (v, m))
theorem fair_loop (hr : CPr x s) (hn : 10000 ≤ n) (w : Int) : ∀ (d : Nat) (b k : Int) (q q' : Nat), 1 * 2 ^ (s 0 49).toNat ≤ k + 2 * (d : Int) → 0 ≤ k ∧ k ≤ 300 → d < q → d < q' → TW x s (bnd (L_X4_groupOfFirst_4 n q b k x) (fun v m => fairW w v n m)) (L_X12_fair_49 n q' w b k s) := by
  have h8 := row_sz hr
  have pw := pow8' (k := (s 0 49).toNat) (by omega)
  intro d
  induction d with
  | zero =>
    intro b k q q' h1 h3 hq hq'
    obtain ⟨q, rfl⟩ : ∃ z, q = z + 1 := ⟨q - 1, by omega⟩
    obtain ⟨q', rfl⟩ : ∃ z, q' = z + 1 := ⟨q' - 1, by omega⟩
    show TW x s (bnd (B_X4_groupOfFirst_4 n (L_X4_groupOfFirst_4 n q) b k x) (fun v m => fairW w v n m)) (B_X12_fair_49 n (L_X12_fair_49 n q') w b k s)
    unfold B_X4_groupOfFirst_4 B_X12_fair_49
    rw [E_bnd (X_size n 45 x) rfl, hr.2.1]
    rw [chk_pos (show (0 : Int) ≤ s 0 49 ∧ s 0 49 < 32 by omega), chk_pos (show R32 (1 * 2 ^ (s 0 49).toNat) by omega), chk_pos (show (0 : Int) ≤ s 0 49 ∧ s 0 49 < 32 by omega), chk_pos (show R32 (1 * 2 ^ (s 0 49).toNat) by omega), if_pos (by omega), if_pos (by omega), bnd_some]
    unfold fairW
    refine TW_i2 (fun e => TW_some rfl) (fun e => TW_bx (X_apart hr hn b) (TW_bm (M_apart hr hn b) (TW_some rfl)))
  | succ d ih =>
    intro b k q q' h1 h3 hq hq'
    obtain ⟨q, rfl⟩ : ∃ z, q = z + 1 := ⟨q - 1, by omega⟩
    obtain ⟨q', rfl⟩ : ∃ z, q' = z + 1 := ⟨q' - 1, by omega⟩
    show TW x s (bnd (B_X4_groupOfFirst_4 n (L_X4_groupOfFirst_4 n q) b k x) (fun v m => fairW w v n m)) (B_X12_fair_49 n (L_X12_fair_49 n q') w b k s)
    unfold B_X4_groupOfFirst_4 B_X12_fair_49
    rw [E_bnd (X_size n 45 x) rfl, hr.2.1]
    rw [chk_pos (show (0 : Int) ≤ s 0 49 ∧ s 0 49 < 32 by omega), chk_pos (show R32 (1 * 2 ^ (s 0 49).toNat) by omega), chk_pos (show (0 : Int) ≤ s 0 49 ∧ s 0 49 < 32 by omega), chk_pos (show R32 (1 * 2 ^ (s 0 49).toNat) by omega)]
    by_cases e : 1 * 2 ^ (s 0 49).toNat ≤ k
    · rw [if_pos e, if_pos e, bnd_some]
      unfold fairW
      refine TW_i2 (fun e => TW_some rfl) (fun e => TW_bx (X_apart hr hn b) (TW_bm (M_apart hr hn b) (TW_some rfl)))
    · rw [if_neg e, if_neg e, E_bnd (X_apart hr hn k) rfl, E_bnd (X_apart hr hn b) rfl]
      refine TW_bm (M_apart hr hn k) (TW_bm (M_apart hr hn b) ?_)
      by_cases e2 : apS s b ≤ apS s k
      · rw [if_pos e2, if_pos e2, chk_pos (show R32 (k + 2) by omega), chk_pos (show R32 (k + 2) by omega)]
        exact ih b (k + 2) q q' (by omega) (by omega) (by omega) (by omega)
      · rw [if_neg e2, if_neg e2, chk_pos (show R32 (k + 2) by omega), chk_pos (show R32 (k + 2) by omega)]
        exact ih k (k + 2) q q' (by omega) (by omega) (by omega) (by omega)
theorem op_fair (h : CP c x m) (hc : c ≤ 1000) (hn : 10000 ≤ n) (w : Int) : SIM c (F_X11_fair n w x) (F_X12_fair n w m) := by
  have hr : CPr x (wr m 0 16 0) := CPr_fr h.r AG.rf (AG.rf.wr rfl)
  have h8 := row_sz hr
  have pw := pow8' (k := (wr m 0 16 0 0 49).toNat) (by omega)
  have b1 := ncS_bd w 1
  have eX : F_X11_fair n w x = B_X11_fair_26 n w (b01 (decide (¬ wr m 0 16 0 0 49 ≤ 0) && allS (abB (wr m 0 16 0)) (wr m 0 16 0 0 49).toNat)) x := by
    unfold F_X11_fair
    refine E_bnd (X_size n 45 x) ?_
    rw [hr.2.1]
    refine E_ite (fun e => ?_) (fun e => ?_)
    · rw [show decide (¬ wr m 0 16 0 0 49 ≤ 0) = false by rw [decide_eq_false_iff_not]; exact fun z => z e]
      rfl
    · rw [show decide (¬ wr m 0 16 0 0 49 ≤ 0) = true by rw [decide_eq_true_eq]; exact e]
      refine E_bnd (X_holds0 hr hn) ?_
      cases allS (abB (wr m 0 16 0)) (wr m 0 16 0 0 49).toNat with
      | true => rfl
      | false => rfl
  have eM := M_above (n := n) hr hn
  rw [eX]
  generalize (decide (¬ wr m 0 16 0 0 49 ≤ 0) && allS (abB (wr m 0 16 0)) (wr m 0 16 0 0 49).toNat) = bb at eM ⊢
  unfold B_X11_fair_26 F_X12_fair
  by_cases h2 : 0 ≤ w ∧ w ≤ 1
  · have e1 : ncS w 1 = 0 := by unfold ncS; rw [if_pos h2]
    cases bb with
    | true =>
      refine SIM_tw h ?_
      refine TW_bx (X_noChoice _ _ _ _) (TW_x (if_neg (by decide)) (TW_bx (X_not2 (by rw [e1]; rfl) b1) (TW_x (if_pos rfl) ?_)))
      refine TW_bm (M_in_t h2) (TW_m (if_neg (by decide)) (TW_bm eM (TW_m (if_neg (by decide)) ?_)))
      exact fair_loop hr hn w 200 1 3 n n (by omega) (by decide) (by omega) (by omega)
    | false =>
      refine SIM_ref h (r := -3) (by decide) ?_ ?_
      · refine E_bnd (X_noChoice _ _ _ _) ?_
        rw [b01_f, if_pos rfl]
        refine E_bnd (X_ref2 h.f hc b1 (by decide) (r := -3) (by rw [e1]; rfl) (by decide)) ?_
        rw [if_neg (by decide)]
      · refine E_bnd (M_in_t h2) ?_
        rw [if_neg (by decide)]
        refine E_bnd eM ?_
        rw [b01_f, if_pos rfl]
        exact E_bnd (M_ref h hc (by decide)) rfl
  · have e1 : ncS w 1 = -2 := by unfold ncS; rw [if_neg h2]
    refine SIM_ref h (r := -2) (by decide) ?_ ?_
    · refine E_bnd (X_noChoice _ _ _ _) (E_ite (fun z => ?_) (fun z => ?_))
      all_goals
        refine E_bnd (X_ref2 h.f hc b1 (by decide) (r := -2) (by rw [e1]; rfl) (by decide)) ?_
        rw [if_neg (by decide)]
    · refine E_bnd (M_in_f h2) ?_
      rw [if_pos rfl]
      exact E_bnd (M_ref h hc (by decide)) rfl
/-- how far a tin's depth is off, over its area -/
def apartS (s : ZMem) (t : Nat) : Int := zabs (s 0 1 * areaS s 0 - s 0 0 * areaS s t)
theorem apart_bds (hw : WFs s) {t : Nat} (ht : (t : Int) < s 0 3) : (0 ≤ s 0 1 * areaS s 0 ∧ s 0 1 * areaS s 0 ≤ 302400) ∧ (0 ≤ s 0 0 * areaS s t ∧ s 0 0 * areaS s t ≤ 302400) ∧ (0 ≤ apartS s t ∧ apartS s t ≤ 302400) ∧ (1 ≤ areaS s t ∧ areaS s t ≤ 12600) := by
  have hg := hw.g
  have hf := hw.f
  have a0 := area_bd hw (t := 0) (by omega)
  have a1 := area_bd hw ht
  have u := mul_bd (a := s 0 1) (b := areaS s 0) (A := 24) (B := 12600) (by omega) hg.2 (by omega) a0.2
  have v := mul_bd (a := s 0 0) (b := areaS s t) (A := 24) (B := 12600) (by omega) hf.2 (by omega) a1.2
  have z := zabs_bd (a := s 0 1 * areaS s 0 - s 0 0 * areaS s t) (B := 302400) (by omega)
  unfold apartS
  omega
theorem X_depthApart (h : XK x 1 s) (hw : WFs s) {t : Nat} (ht : (t : Int) < s 0 3) : F_X10_depthApart n (t : Int) x = some (apartS s t, x) := by
  obtain ⟨b1, b2, b3, b4⟩ := apart_bds hw ht
  have ht0 : ((0 : Nat) : Int) < s 0 3 := by omega
  unfold apartS at b3
  unfold F_X10_depthApart apartS
  rw [h.gu]
  refine E_bnd (X_area (t := 0) h hw ht0) (E_chk (by omega) (E_bnd (X_area h hw ht) ?_))
  rw [h.fm]
  exact E_chk (by omega) (E_chk (by omega) (E_chk (by omega) rfl))
theorem X_nearer (h : XK x 1 s) (hw : WFs s) {t u : Nat} (ht : (t : Int) < s 0 3) (hu : (u : Int) < s 0 3) : F_X10_isNearer n (t : Int) (u : Int) x = some (if apartS s u * areaS s t ≤ apartS s t * areaS s u then 0 else 1, x) := by
  obtain ⟨-, -, b3, b4⟩ := apart_bds hw ht
  obtain ⟨-, -, d3, d4⟩ := apart_bds hw hu
  have m1 := mul_bd (a := apartS s t) (b := areaS s u) (B := 12600) b3.1 b3.2 (by omega) d4.2
  have m2 := mul_bd (a := apartS s u) (b := areaS s t) (B := 12600) d3.1 d3.2 (by omega) b4.2
  unfold F_X10_isNearer
  simp only [lcI_ge0]
  refine E_bnd (X_depthApart h hw ht) (E_bnd (X_area h hw hu) (E_chk (by omega) (E_bnd (X_depthApart h hw hu) (E_bnd (X_area h hw ht) (E_chk (by omega) (E_ite (fun e => ?_) (fun e => ?_)))))))
  · rw [if_pos e]
  · rw [if_neg e]
theorem tinFor_loop (h : XK x 1 s) (hw : WFs s) : ∀ (d : Nat) (b v w : Int) (k q q' : Nat), (k : Int) + (d : Int) = s 0 3 → ((b = -9 ∧ v = 0 ∧ w = 1) ∨ (∃ j : Nat, b = (j : Int) ∧ (j : Int) < s 0 3 ∧ v = apartS s j ∧ w = areaS s j)) → d < q → d < q' → TW x s (L_X10_nearestTin_5 n q b (k : Int) x) (L_X12_tinFor_16 n q' b v w (k : Int) s) := by
  intro d
  have h5 := hw.nt
  induction d with
  | zero =>
    intro b v w k q q' h1 h2 hq hq'
    obtain ⟨q, rfl⟩ : ∃ z, q = z + 1 := ⟨q - 1, by omega⟩
    obtain ⟨q', rfl⟩ : ∃ z, q' = z + 1 := ⟨q' - 1, by omega⟩
    show TW x s (B_X10_nearestTin_5 n (L_X10_nearestTin_5 n q) b (k : Int) x) (B_X12_tinFor_16 n (L_X12_tinFor_16 n q') b v w (k : Int) s)
    unfold B_X10_nearestTin_5 B_X12_tinFor_16
    refine TW_bx (X_size n 4 x) ?_
    rw [h.s4, if_pos (by omega), if_pos (by omega)]
    exact TW_some rfl
  | succ d ih =>
    intro b v w k q q' h1 h2 hq hq'
    obtain ⟨q, rfl⟩ : ∃ z, q = z + 1 := ⟨q - 1, by omega⟩
    obtain ⟨q', rfl⟩ : ∃ z, q' = z + 1 := ⟨q' - 1, by omega⟩
    have hk : (k : Int) < s 0 3 := by omega
    obtain ⟨b1, b2, b3, b4⟩ := apart_bds hw hk
    have ht0 : ((0 : Nat) : Int) < s 0 3 := by omega
    show TW x s (B_X10_nearestTin_5 n (L_X10_nearestTin_5 n q) b (k : Int) x) (B_X12_tinFor_16 n (L_X12_tinFor_16 n q') b v w (k : Int) s)
    have eM : B_X12_tinFor_16 n (L_X12_tinFor_16 n q') b v w (k : Int) s = B_X12_tinFor_65 n (L_X12_tinFor_16 n q') b v w (k : Int) (apartS s k) s := by
      unfold B_X12_tinFor_16
      simp only [lcI_ge0]
      rw [if_neg (by omega)]
      refine E_bnd (M_areaOf (t := 0) hw ht0) (E_chk (by omega) (E_bnd (M_areaOf hw hk) (E_chk (by omega) (E_chk (by omega) (E_ite (fun e => ?_) (fun e => ?_))))))
      · rw [show apartS s k = s 0 1 * areaS s 0 - s 0 0 * areaS s k by unfold apartS zabs; rw [if_pos e]]
      · rw [show apartS s k = -(s 0 1 * areaS s 0 - s 0 0 * areaS s k) by unfold apartS zabs; rw [if_neg e]]
        exact E_chk (by omega) rfl
    rw [eM]
    unfold B_X10_nearestTin_5 B_X12_tinFor_65
    simp only [lcI_ge0]
    refine TW_bx (X_size n 4 x) ?_
    rw [h.s4, if_neg (by omega)]
    refine TW_bm (M_areaOf hw hk) ?_
    rcases h2 with ⟨rfl, rfl, rfl⟩ | ⟨j, rfl, hj, rfl, rfl⟩
    · unfold B_X12_tinFor_111
      refine TW_x (if_pos rfl) (TW_m (if_pos (by decide)) (TW_m (if_neg (by decide)) (TW_m (if_neg (by decide)) (TW_cx (by omega) (TW_cm (by omega) ?_)))))
      rw [cast1]
      exact ih _ _ _ (k + 1) q q' (by omega) (Or.inr ⟨k, rfl, hk, rfl, rfl⟩) (by omega) (by omega)
    · obtain ⟨-, -, d3, d4⟩ := apart_bds hw hj
      have m1 := mul_bd (a := apartS s k) (b := areaS s j) (B := 12600) b3.1 b3.2 (by omega) d4.2
      have m2 := mul_bd (a := apartS s j) (b := areaS s k) (B := 12600) d3.1 d3.2 (by omega) b4.2
      refine TW_x (if_neg (by omega)) (TW_bx (X_nearer h hw hk hj) (TW_m (if_neg (by omega)) (TW_cm (by omega) (TW_cm (by omega) ?_))))
      unfold B_X12_tinFor_111
      rw [cast1]
      by_cases e : apartS s j * areaS s k ≤ apartS s k * areaS s j
      · rw [if_pos e, if_pos e]
        refine TW_x (if_pos rfl) (TW_m (if_pos rfl) (TW_m (if_pos rfl) (TW_cx (by omega) (TW_cm (by omega) ?_))))
        exact ih _ _ _ (k + 1) q q' (by omega) (Or.inr ⟨j, rfl, hj, rfl, rfl⟩) (by omega) (by omega)
      · rw [if_neg e, if_neg e]
        refine TW_x (if_neg (by decide)) (TW_m (if_neg (by decide)) (TW_m (if_neg (by decide)) (TW_cx (by omega) (TW_cm (by omega) ?_))))
        exact ih _ _ _ (k + 1) q q' (by omega) (Or.inr ⟨k, rfl, hk, rfl, rfl⟩) (by omega) (by omega)
theorem op_tinFor (h : CP c x m) (hn : 10000 ≤ n) : SIM c (F_X11_tinFor n x) (F_X12_tinFor n m) := by
  refine SIM_tw h ?_
  have hw := WFs_t h.k.2
  have h8 := hw.nt
  unfold F_X11_tinFor F_X12_tinFor F_X10_nearestTin
  refine TW_x (bnd_id _) ?_
  exact tinFor_loop (n := n) (XK_t h.k.1) hw (wr m 0 16 0 0 3).toNat (-9) 0 1 0 n n (by omega) (Or.inl ⟨rfl, rfl, rfl⟩) (by omega) (by omega)
/-- how far two tins together are off -/
def prS (s : ZMem) (i k : Nat) : Int := zabs ((areaS s i + areaS s k) * s 0 0 - areaS s 0 * s 0 1)
theorem pr_bds (hw : WFs s) {i k : Nat} (hi : (i : Int) < s 0 3) (hk : (k : Int) < s 0 3) : (2 ≤ areaS s i + areaS s k ∧ areaS s i + areaS s k ≤ 25200) ∧ (0 ≤ (areaS s i + areaS s k) * s 0 0 ∧ (areaS s i + areaS s k) * s 0 0 ≤ 604800) ∧ (0 ≤ areaS s 0 * s 0 1 ∧ areaS s 0 * s 0 1 ≤ 302400) ∧ (0 ≤ prS s i k ∧ prS s i k ≤ 604800) := by
  have hg := hw.g
  have hf := hw.f
  have a0 := area_bd hw (t := 0) (by omega)
  have a1 := area_bd hw hi
  have a2 := area_bd hw hk
  have u := mul_bd (a := areaS s i + areaS s k) (b := s 0 0) (A := 25200) (B := 24) (by omega) (by omega) (by omega) hf.2
  have v := mul_bd (a := areaS s 0) (b := s 0 1) (A := 12600) (B := 24) (by omega) a0.2 (by omega) hg.2
  have z := zabs_bd (a := (areaS s i + areaS s k) * s 0 0 - areaS s 0 * s 0 1) (B := 604800) (by omega)
  unfold prS
  omega
def prI (b v w : Int) : Prop := (b = -9 ∧ v = 1000000000 ∧ w = 0) ∨ (0 ≤ b ∧ v = w)
theorem pair_in (h : XK x 1 s) (hw : WFs s) {i : Nat} (hi : (i : Int) < s 0 3) (rx rm : Int → Int → Int → ZMem → ZR) (hc : ∀ b v w, prI b v w → TW x s (rx b v ((i : Int) + 1) x) (rm b w ((i : Int) + 1) s)) : ∀ (d : Nat) (b v w : Int) (k q q' : Nat), (k : Int) + (d : Int) = s 0 3 → prI b v w → d < q → d < q' → TW x s (L_X10_nearestPair_24 n rx q b v (i : Int) (k : Int) x) (L_X12_pair_25 n rm q' b w (i : Int) (k : Int) s) := by
  intro d
  have h5 := hw.nt
  induction d with
  | zero =>
    intro b v w k q q' h1 h2 hq hq'
    obtain ⟨q, rfl⟩ : ∃ z, q = z + 1 := ⟨q - 1, by omega⟩
    obtain ⟨q', rfl⟩ : ∃ z, q' = z + 1 := ⟨q' - 1, by omega⟩
    show TW x s (B_X10_nearestPair_24 n rx (L_X10_nearestPair_24 n rx q) b v (i : Int) (k : Int) x) (B_X12_pair_25 n rm (L_X12_pair_25 n rm q') b w (i : Int) (k : Int) s)
    unfold B_X10_nearestPair_24 B_X12_pair_25
    refine TW_bx (X_size n 4 x) ?_
    rw [h.s4, if_pos (by omega), if_pos (by omega)]
    exact TW_cx (by omega) (TW_cm (by omega) (hc b v w h2))
  | succ d ih =>
    intro b v w k q q' h1 h2 hq hq'
    obtain ⟨q, rfl⟩ : ∃ z, q = z + 1 := ⟨q - 1, by omega⟩
    obtain ⟨q', rfl⟩ : ∃ z, q' = z + 1 := ⟨q' - 1, by omega⟩
    have hk : (k : Int) < s 0 3 := by omega
    have ht0 : ((0 : Nat) : Int) < s 0 3 := by omega
    obtain ⟨b0, b1, b2, b3⟩ := pr_bds hw hi hk
    have b4 := b3
    unfold prS at b4
    show TW x s (B_X10_nearestPair_24 n rx (L_X10_nearestPair_24 n rx q) b v (i : Int) (k : Int) x) (B_X12_pair_25 n rm (L_X12_pair_25 n rm q') b w (i : Int) (k : Int) s)
    unfold B_X10_nearestPair_24 B_X12_pair_25
    refine TW_bx (X_size n 4 x) ?_
    rw [h.s4, if_neg (by omega), if_neg (by omega)]
    refine TW_bx (X_area h hw hi) (TW_bx (X_area h hw hk) ?_)
    rw [h.fm]
    refine TW_cx (by omega) (TW_cx (by omega) (TW_bx (X_area (t := 0) h hw ht0) ?_))
    rw [h.gu]
    refine TW_cx (by omega) (TW_cx (by omega) (TW_cx (by omega) ?_))
    refine TW_bm (M_areaOf hw hi) (TW_bm (M_areaOf hw hk) (TW_cm (by omega) (TW_cm (by omega) (TW_bm (M_areaOf (t := 0) hw ht0) (TW_cm (by omega) (TW_cm (by omega) (TW_bm (M_plainly (by omega)) ?_)))))))
    rw [show zabs ((areaS s i + areaS s k) * s 0 0 - areaS s 0 * s 0 1) = prS s i k from rfl]
    unfold B_X12_pair_82
    rcases h2 with ⟨rfl, rfl, rfl⟩ | ⟨hb, rfl⟩
    · refine TW_x (if_neg (by omega)) (TW_m (if_pos (by decide)) (TW_m (if_neg (by decide)) ?_))
      refine TW_cx (by omega) (TW_cx (by omega) (TW_cx (by omega) (TW_cm (by omega) (TW_cm (by omega) (TW_m (if_neg (by decide)) (TW_cm (by omega) ?_))))))
      rw [cast1]
      exact ih _ _ _ (k + 1) q q' (by omega) (Or.inr ⟨by omega, rfl⟩) (by omega) (by omega)
    · refine TW_m (if_neg (by omega)) (TW_i2 (fun e => ?_) (fun e => ?_))
      · refine TW_cx (by omega) (TW_m (if_pos rfl) (TW_m (if_pos rfl) (TW_cm (by omega) ?_)))
        rw [cast1]
        exact ih _ _ _ (k + 1) q q' (by omega) (Or.inr ⟨hb, rfl⟩) (by omega) (by omega)
      · refine TW_m (if_neg (by decide)) ?_
        refine TW_cx (by omega) (TW_cx (by omega) (TW_cx (by omega) (TW_cm (by omega) (TW_cm (by omega) (TW_m (if_neg (by decide)) (TW_cm (by omega) ?_))))))
        rw [cast1]
        exact ih _ _ _ (k + 1) q q' (by omega) (Or.inr ⟨by omega, rfl⟩) (by omega) (by omega)
theorem pair_out (h : XK x 1 s) (hw : WFs s) (hn : 10000 ≤ n) : ∀ (d : Nat) (b v w : Int) (i q q' : Nat), (i : Int) + (d : Int) = s 0 3 → prI b v w → d < q → d < q' → TW x s (L_X10_nearestPair_8 n q b v (i : Int) x) (L_X12_pair_12 n q' b w (i : Int) s) := by
  intro d
  have h5 := hw.nt
  induction d with
  | zero =>
    intro b v w i q q' h1 h2 hq hq'
    obtain ⟨q, rfl⟩ : ∃ z, q = z + 1 := ⟨q - 1, by omega⟩
    obtain ⟨q', rfl⟩ : ∃ z, q' = z + 1 := ⟨q' - 1, by omega⟩
    show TW x s (B_X10_nearestPair_8 n (L_X10_nearestPair_8 n q) b v (i : Int) x) (B_X12_pair_12 n (L_X12_pair_12 n q') b w (i : Int) s)
    unfold B_X10_nearestPair_8 B_X12_pair_12
    refine TW_bx (X_size n 4 x) ?_
    rw [h.s4, if_pos (by omega), if_pos (by omega)]
    exact TW_some rfl
  | succ d ih =>
    intro b v w i q q' h1 h2 hq hq'
    obtain ⟨q, rfl⟩ : ∃ z, q = z + 1 := ⟨q - 1, by omega⟩
    obtain ⟨q', rfl⟩ : ∃ z, q' = z + 1 := ⟨q' - 1, by omega⟩
    show TW x s (B_X10_nearestPair_8 n (L_X10_nearestPair_8 n q) b v (i : Int) x) (B_X12_pair_12 n (L_X12_pair_12 n q') b w (i : Int) s)
    unfold B_X10_nearestPair_8 B_X12_pair_12
    refine TW_bx (X_size n 4 x) ?_
    rw [h.s4, if_neg (by omega), if_neg (by omega)]
    refine TW_cx (by omega) (TW_cm (by omega) ?_)
    have := pair_in (n := n) h hw (i := i) (by omega) (L_X10_nearestPair_8 n q) (L_X12_pair_12 n q') (fun b v w hI => ?_) d b v w (i + 1) n n (by omega) h2 (by omega) (by omega)
    · rw [← cast1] at this
      exact this
    · rw [cast1]
      exact ih b v w (i + 1) q q' (by omega) hI (by omega) (by omega)
theorem op_pair (h : CP c x m) (hn : 10000 ≤ n) : SIM c (F_X11_pair n x) (F_X12_pair n m) := by
  refine SIM_tw h ?_
  have hw := WFs_t h.k.2
  have h8 := hw.nt
  unfold F_X11_pair F_X12_pair F_X10_nearestPair
  refine TW_x (bnd_id _) ?_
  exact pair_out (n := n) (XK_t h.k.1) hw hn (wr m 0 16 0 0 3).toNat (-9) 1000000000 0 0 n n (by omega) (Or.inl ⟨rfl, rfl, rfl⟩) (by omega) (by omega)
end ZOP16
