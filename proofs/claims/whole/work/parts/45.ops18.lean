/-! OPERATIONS 18: usedUp, dish -/
theorem bit01 (a : Int) : a % 2 ^ 1 = 0 ∨ a % 2 ^ 1 = 1 := by
  rw [show (2 : Int) ^ 1 = 2 from rfl]
  omega
/-- what a dish of the set is worth; what of a part it uses up -/
def worB (s : ZMem) (g : Int) (d : Nat) : Int := ((g / 2 ^ d) % 2 ^ 1) * s 28 (5 * d + 4)
def worS (s : ZMem) (g : Int) : Int := sumS (worB s g) (s 0 47).toNat
def twB (s : ZMem) (g : Int) (p : Nat) (d : Nat) : Int := (if s 28 (5 * d) = (p : Int) then ((g / 2 ^ d) % 2 ^ 1) * s 28 (5 * d + 1) else 0) + (if s 28 (5 * d + 2) = (p : Int) then ((g / 2 ^ d) % 2 ^ 1) * s 28 (5 * d + 3) else 0)
def twS (s : ZMem) (g : Int) (p : Nat) : Int := sumS (twB s g p) (s 0 47).toNat
def upB (s : ZMem) (g : Int) (p : Nat) : Bool := decide (twS s g p ≤ leftS s p)
section ZOP18
variable {x s m : ZMem} {c n p d : Nat}
theorem X_s28 (h : XK x 1 s) {i k : Nat} (hi : (i : Int) < s 0 47) (hk : k < 5) : F_X9_at n 12 (i : Int) (k : Int) x = some (s 28 (5 * i + k), x) := by
  obtain ⟨-, -, -, -, -, -, ⟨t1, t2, t3⟩⟩ := XK_parts h
  rw [← t3 i hi k hk]
  exact X_at t1 (by rw [t2]; exact hi) hk
theorem di_get (hw : WFs s) (hd : (d : Int) < s 0 47) : (0 ≤ s 28 (5 * d) ∧ s 28 (5 * d) < s 0 2) ∧ (0 ≤ s 28 (5 * d + 1) ∧ s 28 (5 * d + 1) ≤ 99) ∧ (0 ≤ s 28 (5 * d + 2) ∧ s 28 (5 * d + 2) < s 0 2) ∧ (0 ≤ s 28 (5 * d + 3) ∧ s 28 (5 * d + 3) ≤ 99) ∧ (0 ≤ s 28 (5 * d + 4) ∧ s 28 (5 * d + 4) ≤ 99) := hw.di d hd
theorem wor_bd (hw : WFs s) (g : Int) (hd : (d : Int) < s 0 47) : 0 ≤ worB s g d ∧ worB s g d ≤ 99 := by
  obtain ⟨-, -, -, -, h5⟩ := di_get hw hd
  unfold worB
  rcases bit01 (g / 2 ^ d) with e | e <;> rw [e] <;> omega
theorem tw_bd (hw : WFs s) (g : Int) (p : Nat) (hd : (d : Int) < s 0 47) : 0 ≤ twB s g p d ∧ twB s g p d ≤ 198 := by
  obtain ⟨-, h2, -, h4, -⟩ := di_get hw hd
  unfold twB
  rcases bit01 (g / 2 ^ d) with e | e <;> rw [e] <;> split <;> split <;> omega
theorem X_worth (h : XK x 1 s) (hw : WFs s) (hn : 10000 ≤ n) (g : Int) : F_X7_worthOf n g x = some (worS s g, x) := by
  have h4 := hw.nd
  refine loop_run (L := fun q (z : Int × Int × ZMem) => L_X7_worthOf_4 n q g z.1 z.2.1 z.2.2) (s 0 47).toNat (fun k => (sumS (worB s g) k, (k : Int), x)) _ ?_ ?_ n (by omega)
  · intro k q hk
    have hk2 : (k : Int) < s 0 47 := by omega
    have b0 := sumS_bd (f := worB s g) (B := 99) (by decide) k (fun i hi => wor_bd hw g (by omega))
    have b1 := wor_bd hw g hk2
    unfold worB at b1
    show B_X7_worthOf_4 n (L_X7_worthOf_4 n q) g _ (k : Int) x = L_X7_worthOf_4 n q g (sumS (worB s g) k + worB s g k) ((k + 1 : Nat) : Int) x
    unfold B_X7_worthOf_4
    refine E_bnd (X_size n 12 x) ?_
    rw [h.s12, if_neg (by omega)]
    simp only [Int.toNat_natCast]
    refine E_chk (by omega) (E_bnd (X_s28 (k := 4) h hk2 (by decide)) (E_chk (by omega) (E_chk (by omega) (E_chk (by omega) ?_))))
    rw [cast1]
    rfl
  · intro q
    show B_X7_worthOf_4 n (L_X7_worthOf_4 n q) g _ ((s 0 47).toNat : Int) x = _
    unfold B_X7_worthOf_4
    refine E_bnd (X_size n 12 x) ?_
    rw [h.s12, if_pos (by omega)]
    rfl
theorem M_worth (hw : WFs s) (hn : 10000 ≤ n) (g : Int) : F_X12_worthOf n g s = some (worS s g, s) := by
  have h4 := hw.nd
  refine loop_run (L := fun q (z : Int × Int × ZMem) => L_X12_worthOf_4 n q g z.1 z.2.1 z.2.2) (s 0 47).toNat (fun k => (sumS (worB s g) k, (k : Int), s)) _ ?_ ?_ n (by omega)
  · intro k q hk
    have hk2 : (k : Int) < s 0 47 := by omega
    have b0 := sumS_bd (f := worB s g) (B := 99) (by decide) k (fun i hi => wor_bd hw g (by omega))
    have b1 := wor_bd hw g hk2
    unfold worB at b1
    show B_X12_worthOf_4 n (L_X12_worthOf_4 n q) g _ (k : Int) s = L_X12_worthOf_4 n q g (sumS (worB s g) k + worB s g k) ((k + 1 : Nat) : Int) s
    unfold B_X12_worthOf_4
    simp only [zM1, zM2, zM3, zM4, zM5, zM6, zM7, zM8, zM9, zM10, zM11, zM12, zM13, zM14, zM15, zM16, zM17, zM18, zM19, zM20, zM21, zM22, zM23, zM24, zM25, zM26, zM27, zM28, zM29, Int.toNat_natCast, show (5 * (k : Int) + 4).toNat = 5 * k + 4 by omega]
    rw [if_neg (by omega)]
    refine E_chk (by omega) (E_chk (by omega) (E_chk (by omega) (E_chk (by omega) (E_chk (by omega) (E_chk (by omega) (E_chk (by omega) ?_))))))
    rw [cast1]
    rfl
  · intro q
    show B_X12_worthOf_4 n (L_X12_worthOf_4 n q) g _ ((s 0 47).toNat : Int) s = _
    unfold B_X12_worthOf_4
    rw [if_pos (by omega)]
    rfl
theorem X_twelfths (h : XK x 1 s) (hw : WFs s) (hn : 10000 ≤ n) (g : Int) (p : Nat) : F_X7_twelfthsOf n g (p : Int) x = some (twS s g p, x) := by
  have h4 := hw.nd
  refine loop_run (L := fun q (z : Int × Int × ZMem) => L_X7_twelfthsOf_5 n q g (p : Int) z.1 z.2.1 z.2.2) (s 0 47).toNat (fun k => (sumS (twB s g p) k, (k : Int), x)) _ ?_ ?_ n (by omega)
  · intro k q hk
    have hk2 : (k : Int) < s 0 47 := by omega
    have b0 := sumS_bd (f := twB s g p) (B := 198) (by decide) k (fun i hi => tw_bd hw g p (by omega))
    obtain ⟨-, d2, -, d4, -⟩ := di_get hw hk2
    show B_X7_twelfthsOf_5 n (L_X7_twelfthsOf_5 n q) g (p : Int) _ (k : Int) x = L_X7_twelfthsOf_5 n q g (p : Int) (sumS (twB s g p) k + twB s g p k) ((k + 1 : Nat) : Int) x
    generalize hA : sumS (twB s g p) k = A at b0
    unfold B_X7_twelfthsOf_5
    refine E_bnd (X_size n 12 x) ?_
    rw [h.s12, if_neg (by omega)]
    simp only [Int.toNat_natCast]
    refine E_chk (by omega) ?_
    rcases bit01 (g / 2 ^ k) with e | e
    · rw [e, if_neg (by decide)]
      rw [show twB s g p k = 0 by unfold twB; rw [e]; split <;> split <;> omega, Int.add_zero]
      refine E_chk (by omega) ?_
      rw [cast1]
    · rw [e, if_pos rfl]
      refine E_bnd (X_s28 (k := 0) h hk2 (by decide)) ?_
      rw [Nat.add_zero]
      by_cases c1 : s 28 (5 * k) = (p : Int)
      · rw [if_pos c1]
        refine E_bnd (X_s28 (k := 1) h hk2 (by decide)) (E_chk (by omega) (E_bnd (X_s28 (k := 2) h hk2 (by decide)) ?_))
        by_cases c2 : s 28 (5 * k + 2) = (p : Int)
        · rw [if_pos c2]
          rw [show A + twB s g p k = A + s 28 (5 * k + 1) + s 28 (5 * k + 3) by unfold twB; rw [e, if_pos c1, if_pos c2]; omega]
          refine E_bnd (X_s28 (k := 3) h hk2 (by decide)) (E_chk (by omega) (E_chk (by omega) ?_))
          rw [cast1]
        · rw [if_neg c2]
          rw [show A + twB s g p k = A + s 28 (5 * k + 1) + 0 by unfold twB; rw [e, if_pos c1, if_neg c2]; omega]
          refine E_chk (by omega) (E_chk (by omega) ?_)
          rw [cast1]
      · rw [if_neg c1]
        refine E_chk (by omega) (E_bnd (X_s28 (k := 2) h hk2 (by decide)) ?_)
        by_cases c2 : s 28 (5 * k + 2) = (p : Int)
        · rw [if_pos c2]
          rw [show A + twB s g p k = A + 0 + s 28 (5 * k + 3) by unfold twB; rw [e, if_neg c1, if_pos c2]; omega]
          refine E_bnd (X_s28 (k := 3) h hk2 (by decide)) (E_chk (by omega) (E_chk (by omega) ?_))
          rw [cast1]
        · rw [if_neg c2]
          rw [show A + twB s g p k = A + 0 + 0 by unfold twB; rw [e, if_neg c1, if_neg c2]; omega]
          refine E_chk (by omega) (E_chk (by omega) ?_)
          rw [cast1]
  · intro q
    show B_X7_twelfthsOf_5 n (L_X7_twelfthsOf_5 n q) g (p : Int) _ ((s 0 47).toNat : Int) x = _
    unfold B_X7_twelfthsOf_5
    refine E_bnd (X_size n 12 x) ?_
    rw [h.s12, if_pos (by omega)]
    rfl
theorem X_leftEnough (h : XK x 1 s) (hw : WFs s) (hn : 10000 ≤ n) (g : Int) : F_X7_leftIsEnough n g x = some (b01 (allS (upB s g) (s 0 2).toNat), x) := by
  have h8 := np_le hw
  have key := loop_all (L := fun q (z : Int × ZMem) => L_X7_leftIsEnough_2 n q g z.1 z.2) (s 0 2).toNat (upB s g) (fun k => ((k : Int), x)) (some (1, x)) (some (0, x)) ?_ ?_ ?_ n (by omega)
  · refine Eq.trans key ?_
    unfold b01
    split <;> rfl
  all_goals
    first
    | (intro k q hk hf
       have hk2 := np_lt hw hk
       show B_X7_leftIsEnough_2 n (L_X7_leftIsEnough_2 n q) g (k : Int) x = _
       unfold B_X7_leftIsEnough_2
       refine E_bnd (X_size n 2 x) ?_
       rw [h.s2, if_neg (by omega)]
       refine E_bnd (X_twelfths h hw hn g k) (E_bnd (X_left h hw hk2) ?_)
       simp only [upB, decide_eq_true_eq, decide_eq_false_iff_not] at hf
       first
       | (rw [if_pos hf]
          refine E_chk (by omega) ?_
          rw [cast1])
       | rw [if_neg hf])
    | (intro q
       show B_X7_leftIsEnough_2 n (L_X7_leftIsEnough_2 n q) g _ x = _
       unfold B_X7_leftIsEnough_2
       refine E_bnd (X_size n 2 x) ?_
       rw [h.s2, if_pos (by have := np_cast hw; omega)])
theorem M_lf68 (hw : WFs s) (r4 : Int → Int → Int → ZMem → ZR) (r18 : Int → Int → Int → Int → Int → ZMem → ZR) (g b : Int) (p : Nat) (hd : (d : Int) < s 0 47) {t a u : Int} (ht : 0 ≤ t ∧ t ≤ 1) (hu : 0 ≤ u ∧ u ≤ 99) (ha : 0 ≤ a ∧ a ≤ 10000) : B_X12_isLeftFor_68 n r4 r18 g b (p : Int) (d : Int) t u a s = r18 g b (p : Int) (a + (u + if s 28 (5 * d + 2) = (p : Int) then t * s 28 (5 * d + 3) else 0)) ((d : Int) + 1) s := by
  have h4 := hw.nd
  obtain ⟨-, d2, -, d4, -⟩ := di_get hw hd
  have tb := mul_bd (a := t) (b := s 28 (5 * d + 3)) ht.1 ht.2 d4.1 d4.2
  unfold B_X12_isLeftFor_68
  simp only [zM1, zM2, zM3, zM4, zM5, zM6, zM7, zM8, zM9, zM10, zM11, zM12, zM13, zM14, zM15, zM16, zM17, zM18, zM19, zM20, zM21, zM22, zM23, zM24, zM25, zM26, zM27, zM28, zM29, show (5 * (d : Int) + 2).toNat = 5 * d + 2 by omega, show (5 * (d : Int) + 3).toNat = 5 * d + 3 by omega]
  refine E_chk (by omega) (E_chk (by omega) (E_chk (by omega) (E_chk (by omega) (E_ite (fun e => ?_) (fun e => ?_)))))
  · rw [if_pos e]
    refine E_chk (by omega) (E_chk (by omega) (E_chk (by omega) (E_chk (by omega) (E_chk (by omega) (E_chk (by omega) ?_)))))
    rw [Int.add_assoc]
  · rw [if_neg e]
    refine E_chk (by omega) (E_chk (by omega) ?_)
    rw [Int.add_assoc]
theorem M_lf_in (hw : WFs s) (hn : 10000 ≤ n) (r4 : Int → Int → Int → ZMem → ZR) (g b : Int) (hp : (p : Int) < s 0 2) : L_X12_isLeftFor_18 n r4 n g b (p : Int) 0 0 s = if b = 0 then r4 g 0 ((p : Int) + 1) s else if upB s g p then r4 g 1 ((p : Int) + 1) s else r4 g 0 ((p : Int) + 1) s := by
  have h4 := hw.nd
  have h8 := hw.np
  refine loop_run (L := fun q (z : Int × Int × ZMem) => L_X12_isLeftFor_18 n r4 q g b (p : Int) z.1 z.2.1 z.2.2) (s 0 47).toNat (fun k => (sumS (twB s g p) k, (k : Int), s)) _ ?_ ?_ n (by omega)
  · intro k q hk
    have hk2 : (k : Int) < s 0 47 := by omega
    have b0 := sumS_bd (f := twB s g p) (B := 198) (by decide) k (fun i hi => tw_bd hw g p (by omega))
    obtain ⟨-, d2, -, d4, -⟩ := di_get hw hk2
    have b1 : 0 ≤ (g / 2 ^ k) % 2 ^ 1 ∧ (g / 2 ^ k) % 2 ^ 1 ≤ 1 := by rcases bit01 (g / 2 ^ k) with e | e <;> rw [e] <;> decide
    have tb := mul_bd (a := (g / 2 ^ k) % 2 ^ 1) (b := s 28 (5 * k + 1)) b1.1 b1.2 d2.1 d2.2
    show B_X12_isLeftFor_18 n r4 (L_X12_isLeftFor_18 n r4 q) g b (p : Int) _ (k : Int) s = L_X12_isLeftFor_18 n r4 q g b (p : Int) (sumS (twB s g p) k + twB s g p k) ((k + 1 : Nat) : Int) s
    unfold B_X12_isLeftFor_18
    simp only [zM1, zM2, zM3, zM4, zM5, zM6, zM7, zM8, zM9, zM10, zM11, zM12, zM13, zM14, zM15, zM16, zM17, zM18, zM19, zM20, zM21, zM22, zM23, zM24, zM25, zM26, zM27, zM28, zM29, Int.toNat_natCast, show (5 * (k : Int)).toNat = 5 * k by omega, show (5 * (k : Int) + 1).toNat = 5 * k + 1 by omega]
    rw [if_neg (by omega)]
    refine E_chk (by omega) (E_chk (by omega) (E_chk (by omega) (E_ite (fun e => ?_) (fun e => ?_))))
    · refine E_chk (by omega) (E_chk (by omega) (E_chk (by omega) (E_chk (by omega) ?_)))
      rw [M_lf68 hw r4 _ g b p hk2 b1 (by omega) (by omega), cast1]
      unfold twB
      rw [if_pos e]
    · rw [M_lf68 hw r4 _ g b p hk2 b1 (by omega) (by omega), cast1]
      unfold twB
      rw [if_neg e]
  · intro q
    show B_X12_isLeftFor_18 n r4 (L_X12_isLeftFor_18 n r4 q) g b (p : Int) _ ((s 0 47).toNat : Int) s = _
    unfold B_X12_isLeftFor_18
    rw [if_pos (by omega)]
    refine E_ite (fun e => ?_) (fun e => ?_)
    · rw [if_pos e]
      exact E_chk (by omega) rfl
    · rw [if_neg e]
      refine E_bnd (M_leftOf hw hp) (E_ite (fun c2 => E_chk (by omega) ?_) (fun c2 => E_chk (by omega) ?_))
      · rw [if_neg]
        simp only [upB, decide_eq_true_eq]
        unfold twS
        omega
      · rw [if_pos]
        simp only [upB, decide_eq_true_eq]
        unfold twS
        omega
theorem M_leftFor (hw : WFs s) (hn : 10000 ≤ n) (g : Int) : F_X12_isLeftFor n g s = some (b01 (allS (upB s g) (s 0 2).toNat), s) := by
  have h8 := np_le hw
  refine loop_run (L := fun q (z : Int × Int × ZMem) => L_X12_isLeftFor_4 n q g z.1 z.2.1 z.2.2) (s 0 2).toNat (fun k => (b01 (allS (upB s g) k), (k : Int), s)) _ ?_ ?_ n (by omega)
  · intro k q hk
    have hk2 := np_lt hw hk
    show B_X12_isLeftFor_4 n (L_X12_isLeftFor_4 n q) g (b01 (allS (upB s g) k)) (k : Int) s = L_X12_isLeftFor_4 n q g (b01 (allS (upB s g) k && upB s g k)) ((k + 1 : Nat) : Int) s
    unfold B_X12_isLeftFor_4
    rw [if_neg (by omega), M_lf_in hw hn _ g _ hk2, cast1]
    cases ha : allS (upB s g) k with
    | false =>
      rw [b01_f, if_pos rfl]
      rfl
    | true =>
      rw [b01_t, if_neg (by decide)]
      cases upB s g k with
      | false => rfl
      | true => rfl
  · intro q
    show B_X12_isLeftFor_4 n (L_X12_isLeftFor_4 n q) g _ ((s 0 2).toNat : Int) s = _
    unfold B_X12_isLeftFor_4
    rw [if_pos (by have := np_cast hw; omega)]
    refine E_chk ?_ rfl
    unfold b01
    split
    · exact Or.inr rfl
    · exact Or.inl rfl
def usedW (w g : Int) (n : Nat) (x : ZMem) : ZR := if w = 0 then bnd (F_X7_worthOf n g x) (fun v m => some (v, m)) else some (g, x)
theorem usedUp_loop (h : XK x 1 s) (hw : WFs s) (hn : 10000 ≤ n) (w : Int) : ∀ (d : Nat) (b k : Int) (q q' : Nat), k + (d : Int) = 1 * 2 ^ (s 0 47).toNat → 0 ≤ k → d < q → d < q' → TW x s (bnd (L_X7_worthiestSet_14 n q b (1 * 2 ^ (s 0 47).toNat) k x) (fun v m => usedW w v n m)) (L_X12_usedUp_26 n q' w b k s) := by
  have h4 := hw.nd
  have pw := pow8 (k := (s 0 47).toNat) (by omega)
  intro d
  induction d with
  | zero =>
    intro b k q q' h1 h3 hq hq'
    obtain ⟨q, rfl⟩ : ∃ z, q = z + 1 := ⟨q - 1, by omega⟩
    obtain ⟨q', rfl⟩ : ∃ z, q' = z + 1 := ⟨q' - 1, by omega⟩
    show TW x s (bnd (B_X7_worthiestSet_14 n (L_X7_worthiestSet_14 n q) b (1 * 2 ^ (s 0 47).toNat) k x) (fun v m => usedW w v n m)) (B_X12_usedUp_26 n (L_X12_usedUp_26 n q') w b k s)
    unfold B_X7_worthiestSet_14 B_X12_usedUp_26
    rw [chk_pos (show (0 : Int) ≤ s 0 47 ∧ s 0 47 < 32 by omega), chk_pos (show R32 (1 * 2 ^ (s 0 47).toNat) by omega), if_pos (by omega), if_pos (by omega), bnd_some]
    unfold usedW
    exact TW_i2 (fun e => TW_bx (X_worth h hw hn b) (TW_bm (M_worth hw hn b) (TW_some rfl))) (fun e => TW_some rfl)
  | succ d ih =>
    intro b k q q' h1 h3 hq hq'
    obtain ⟨q, rfl⟩ : ∃ z, q = z + 1 := ⟨q - 1, by omega⟩
    obtain ⟨q', rfl⟩ : ∃ z, q' = z + 1 := ⟨q' - 1, by omega⟩
    show TW x s (bnd (B_X7_worthiestSet_14 n (L_X7_worthiestSet_14 n q) b (1 * 2 ^ (s 0 47).toNat) k x) (fun v m => usedW w v n m)) (B_X12_usedUp_26 n (L_X12_usedUp_26 n q') w b k s)
    unfold B_X7_worthiestSet_14 B_X12_usedUp_26
    rw [chk_pos (show (0 : Int) ≤ s 0 47 ∧ s 0 47 < 32 by omega), chk_pos (show R32 (1 * 2 ^ (s 0 47).toNat) by omega), if_neg (by omega), if_neg (by omega)]
    rw [E_bnd (X_worth h hw hn k) rfl, E_bnd (X_worth h hw hn b) rfl]
    refine TW_bm (M_worth hw hn k) (TW_bm (M_worth hw hn b) ?_)
    by_cases e : worS s k ≤ worS s b
    · rw [if_pos e, if_pos e, chk_pos (show R32 (k + 1) by omega), chk_pos (show R32 (k + 1) by omega)]
      exact ih b (k + 1) q q' (by omega) (by omega) (by omega) (by omega)
    · rw [if_neg e, if_neg e, E_bnd (X_leftEnough h hw hn k) rfl]
      refine TW_bm (M_leftFor hw hn k) ?_
      cases allS (upB s k) (s 0 2).toNat with
      | false =>
        rw [b01_f, if_pos rfl, if_pos rfl, chk_pos (show R32 (k + 1) by omega), chk_pos (show R32 (k + 1) by omega)]
        exact ih b (k + 1) q q' (by omega) (by omega) (by omega) (by omega)
      | true =>
        rw [b01_t, if_neg (by decide), if_neg (by decide), chk_pos (show R32 (k + 1) by omega), chk_pos (show R32 (k + 1) by omega)]
        exact ih k (k + 1) q q' (by omega) (by omega) (by omega) (by omega)
theorem op_usedUp (h : CP c x m) (hc : c ≤ 1000) (hn : 10000 ≤ n) (w : Int) : SIM c (F_X11_usedUp n w x) (F_X12_usedUp n w m) := by
  have hw := WFs_t h.k.2
  have hk := XK_t (k := 1) h.k.1
  have h4 := hw.nd
  have pw := pow8 (k := (wr m 0 16 0 0 47).toNat) (by omega)
  have b1 := ncS_bd w 1
  unfold F_X11_usedUp F_X12_usedUp
  by_cases h2 : 0 ≤ w ∧ w ≤ 1
  · have e1 : ncS w 1 = 0 := by unfold ncS; rw [if_pos h2]
    refine SIM_tw h ?_
    refine TW_bx (X_noChoice _ _ _ _) (TW_bx (X_noto e1) (TW_x (if_pos rfl) (TW_bm (M_in_t h2) (TW_m (if_neg (by decide)) ?_))))
    unfold F_X7_worthiestSet
    rw [E_bnd (X_size n 12 x) rfl, hk.s12, chk_pos (show (0 : Int) ≤ wr m 0 16 0 0 47 ∧ wr m 0 16 0 0 47 < 32 by omega), chk_pos (show R32 (1 * 2 ^ (wr m 0 16 0 0 47).toNat) by omega)]
    exact usedUp_loop hk hw hn w (1 * 2 ^ (wr m 0 16 0 0 47).toNat - 1 : Int).toNat 0 1 n n (by omega) (by decide) (by omega) (by omega)
  · have e1 : ncS w 1 = -2 := by unfold ncS; rw [if_neg h2]
    refine SIM_ref h (r := -2) (by decide) ?_ ?_
    · refine E_bnd (X_noChoice _ _ _ _) ?_
      rw [e1]
      refine E_bnd (X_refo h.f hc (a := -2) (by decide) (by decide)) ?_
      rw [if_neg (by decide)]
    · refine E_bnd (M_in_f h2) ?_
      rw [if_pos rfl]
      exact E_bnd (M_ref h hc (by decide)) rfl
/-- a line of five put behind -/
def row5 (x : ZMem) (t k : Nat) (a0 a1 a2 a3 a4 : Int) : ZMem := wr (wr (wr (wr (addT x t 5 a0) (t + 1) (k * 5 + 1) a1) (t + 1) (k * 5 + 2) a2) (t + 1) (k * 5 + 3) a3) (t + 1) (k * 5 + 4) a4
def mrow5 (s : ZMem) (r k : Nat) (a0 a1 a2 a3 a4 : Int) : ZMem := wr (wr (wr (wr (wr s r (5 * k) a0) r (5 * k + 1) a1) r (5 * k + 2) a2) r (5 * k + 3) a3) r (5 * k + 4) a4
theorem mrow5_old {s : ZMem} {r k j : Nat} {a0 a1 a2 a3 a4 : Int} (h : j < 5 * k) : mrow5 s r k a0 a1 a2 a3 a4 r j = s r j := by
  unfold mrow5
  rw [wr_nk (by omega), wr_nk (by omega), wr_nk (by omega), wr_nk (by omega), wr_nk (by omega)]
theorem mrow5_0 {s : ZMem} {r k : Nat} {a0 a1 a2 a3 a4 : Int} : mrow5 s r k a0 a1 a2 a3 a4 r (5 * k) = a0 := by
  unfold mrow5
  rw [wr_nk (by omega), wr_nk (by omega), wr_nk (by omega), wr_nk (by omega), wr_eq]
theorem mrow5_1 {s : ZMem} {r k : Nat} {a0 a1 a2 a3 a4 : Int} : mrow5 s r k a0 a1 a2 a3 a4 r (5 * k + 1) = a1 := by
  unfold mrow5
  rw [wr_nk (by omega), wr_nk (by omega), wr_nk (by omega), wr_eq]
theorem mrow5_2 {s : ZMem} {r k : Nat} {a0 a1 a2 a3 a4 : Int} : mrow5 s r k a0 a1 a2 a3 a4 r (5 * k + 2) = a2 := by
  unfold mrow5
  rw [wr_nk (by omega), wr_nk (by omega), wr_eq]
theorem mrow5_3 {s : ZMem} {r k : Nat} {a0 a1 a2 a3 a4 : Int} : mrow5 s r k a0 a1 a2 a3 a4 r (5 * k + 3) = a3 := by
  unfold mrow5
  rw [wr_nk (by omega), wr_eq]
theorem mrow5_4 {s : ZMem} {r k : Nat} {a0 a1 a2 a3 a4 : Int} : mrow5 s r k a0 a1 a2 a3 a4 r (5 * k + 4) = a4 := by
  unfold mrow5
  rw [wr_eq]
theorem mrow5_r {s : ZMem} {r k i j : Nat} {a0 a1 a2 a3 a4 : Int} (h : i ≠ r) : mrow5 s r k a0 a1 a2 a3 a4 i j = s i j := by
  unfold mrow5
  rw [wr_nr h, wr_nr h, wr_nr h, wr_nr h, wr_nr h]
theorem addT5_get {x : ZMem} {t k j : Nat} {v : Int} (hk : x t 3 = (k : Int)) : addT x t 5 v (t + 1) j = if k * 5 ≤ j ∧ j < k * 5 + 5 then (if j = k * 5 then v else 0) else x (t + 1) j := by
  unfold addT
  rw [wr_nr (by omega), hk, Int.toNat_natCast]
  simp only [adT]
  by_cases e : k * 5 ≤ j ∧ j < k * 5 + 5
  · rw [if_pos (show True ∧ k * 5 ≤ j ∧ j < k * 5 + 5 from ⟨trivial, e⟩), if_pos e]
  · rw [if_neg (show ¬ (True ∧ k * 5 ≤ j ∧ j < k * 5 + 5) from fun z => e z.2), if_neg e]
theorem row5_old {x : ZMem} {t k j : Nat} {a0 a1 a2 a3 a4 : Int} (hk : x t 3 = (k : Int)) (h : j < k * 5) : row5 x t k a0 a1 a2 a3 a4 (t + 1) j = x (t + 1) j := by
  unfold row5
  rw [wr_nk (by omega), wr_nk (by omega), wr_nk (by omega), wr_nk (by omega), addT5_get hk, if_neg (by omega)]
theorem row5_new {x s : ZMem} {t r k c : Nat} {a0 a1 a2 a3 a4 : Int} (hk : x t 3 = (k : Int)) (h : c < 5) : row5 x t k a0 a1 a2 a3 a4 (t + 1) (k * 5 + c) = mrow5 s r k a0 a1 a2 a3 a4 r (5 * k + c) := by
  have hc : c = 0 ∨ c = 1 ∨ c = 2 ∨ c = 3 ∨ c = 4 := by omega
  unfold row5
  rcases hc with rfl | rfl | rfl | rfl | rfl
  · rw [Nat.add_zero, show 5 * k + 0 = 5 * k from rfl, mrow5_0, wr_nk (by omega), wr_nk (by omega), wr_nk (by omega), wr_nk (by omega), addT5_get hk, if_pos (by omega), if_pos (Nat.add_zero _)]
  · rw [mrow5_1, wr_nk (by omega), wr_nk (by omega), wr_nk (by omega), wr_eq]
  · rw [mrow5_2, wr_nk (by omega), wr_nk (by omega), wr_eq]
  · rw [mrow5_3, wr_nk (by omega), wr_eq]
  · rw [mrow5_4, wr_eq]
theorem row5_t {x : ZMem} {t k j : Nat} {a0 a1 a2 a3 a4 : Int} (hj : j ≠ 3) : row5 x t k a0 a1 a2 a3 a4 t j = x t j := by
  unfold row5
  rw [wr_nr (by omega), wr_nr (by omega), wr_nr (by omega), wr_nr (by omega), addT_c _ _ _ _ _ hj]
theorem row5_sz {x : ZMem} {t k : Nat} {a0 a1 a2 a3 a4 : Int} : row5 x t k a0 a1 a2 a3 a4 t 3 = x t 3 + 1 := by
  unfold row5
  rw [wr_nr (by omega), wr_nr (by omega), wr_nr (by omega), wr_nr (by omega), addT_sz]
theorem AG.row5 {keep : Nat → Nat → Bool} {m m' : ZMem} {t k : Nat} {a0 a1 a2 a3 a4 : Int} (h : AG keep m m') (hk : ∀ j, keep (t + 1) j = false) (hk2 : keep t 3 = false) : AG keep m (row5 m' t k a0 a1 a2 a3 a4) := ((((h.addT hk hk2).wr (hk _)).wr (hk _)).wr (hk _)).wr (hk _)
theorem AG.mrow5 {keep : Nat → Nat → Bool} {m m' : ZMem} {r k : Nat} {a0 a1 a2 a3 a4 : Int} (h : AG keep m m') (hk : ∀ j, keep r j = false) : AG keep m (mrow5 m' r k a0 a1 a2 a3 a4) := ((((h.wr (hk _)).wr (hk _)).wr (hk _)).wr (hk _)).wr (hk _)
theorem X_row5 {t R k : Nat} {a0 a1 a2 a3 a4 : Int} (h : TB x t R 5) (hn : 10000 ≤ n) (hk : x t 3 = (k : Int)) (hs : x t 3 < R) (f : Int → ZMem → ZR) : bnd (F_X9_add n t a0 x) (fun v18 m19 => bnd (F_X9_put n t v18 1 a1 m19) (fun v22 m23 => bnd (F_X9_put n t v18 2 a2 m23) (fun v26 m27 => bnd (F_X9_put n t v18 3 a3 m27) (fun v30 m31 => bnd (F_X9_put n t v18 4 a4 m31) (fun v34 m35 => f v18 m35))))) = f (k : Int) (row5 x t k a0 a1 a2 a3 a4) := by
  have t1 : TB (addT x t 5 a0) t R 5 := TB_add h hs
  have z1 : (k : Int) < addT x t 5 a0 t 3 := by rw [addT_sz]; omega
  refine E_bnd (X_add h hn hs) ?_
  rw [hk]
  have w : ∀ {y : ZMem} {j : Nat} {v : Int}, TB y t R 5 → TB (wr y (t + 1) j v) t R 5 := fun hT => TB_fr hT (wr_nr (by omega)) (wr_nr (by omega)) (wr_nr (by omega))
  have w3 : ∀ {y : ZMem} {j : Nat} {v : Int}, (k : Int) < y t 3 → (k : Int) < wr y (t + 1) j v t 3 := fun hT => by rw [wr_nr (by omega)]; exact hT
  refine E_bnd (X_put (j := 1) t1 z1 (by decide)) (E_bnd (X_put (j := 2) (w t1) (w3 z1) (by decide)) (E_bnd (X_put (j := 3) (w (w t1)) (w3 (w3 z1)) (by decide)) (E_bnd (X_put (j := 4) (w (w (w t1))) (w3 (w3 (w3 z1))) (by decide)) rfl)))
theorem XK_dish {k : Nat} {a0 a1 a2 a3 a4 : Int} (h : XK x 1 s) (hs : s 0 47 = (k : Int)) (hk : k < 4) : XK (row5 x 12 k a0 a1 a2 a3 a4) 1 (wr (mrow5 s 28 k a0 a1 a2 a3 a4) 0 47 ((k : Int) + 1)) := by
  obtain ⟨hf, hp, ht, hst, hcu, hwe, hd⟩ := XK_parts h
  have ax : ∀ {kp : Nat → Nat → Bool}, (∀ j, kp 13 j = false) → kp 12 3 = false → AG kp x (row5 x 12 k a0 a1 a2 a3 a4) := fun h1 h2 => AG.rf.row5 h1 h2
  have am : ∀ {kp : Nat → Nat → Bool}, (∀ j, kp 28 j = false) → kp 0 47 = false → AG kp s (wr (mrow5 s 28 k a0 a1 a2 a3 a4) 0 47 ((k : Int) + 1)) := fun h1 h2 => (AG.rf.mrow5 h1).wr h2
  refine XK_of ⟨XKf_fr hf (ax (fun _ => rfl) rfl) (am (fun _ => rfl) rfl), XKp_fr hp (ax (fun _ => rfl) rfl) (am (fun _ => rfl) rfl), XKt_fr ht (ax (fun _ => rfl) rfl) (am (fun _ => rfl) rfl), XKs_fr hst (ax (fun _ => rfl) rfl) (am (fun _ => rfl) rfl), XKc_fr hcu (ax (fun _ => rfl) rfl) (am (fun _ => rfl) rfl), XKw_fr hwe (ax (fun _ => rfl) rfl) (am (fun _ => rfl) rfl), ?_⟩
  obtain ⟨t1, t2, t3⟩ := hd
  have hx : x 12 3 = (k : Int) := by rw [t2, hs]
  refine ⟨TB_sz t1 (row5_t (by decide)) (row5_t (by decide)) (by rw [row5_sz]; omega), by rw [row5_sz, wr_eq]; omega, fun d hd c hc => ?_⟩
  rw [wr_eq] at hd
  rw [wr_nr (by decide)]
  by_cases e : d = k
  · subst e
    exact row5_new hx hc
  · rw [row5_old hx (by omega), mrow5_old (by omega)]
    exact t3 d (by omega) c hc
theorem WFs_dish {k : Nat} {a0 a1 a2 a3 a4 : Int} (h : WFs s) (hs : s 0 47 = (k : Int)) (hk : k < 4) (h0 : 0 ≤ a0 ∧ a0 < s 0 2) (h1 : 0 ≤ a1 ∧ a1 ≤ 99) (h2 : 0 ≤ a2 ∧ a2 < s 0 2) (h3 : 0 ≤ a3 ∧ a3 ≤ 99) (h4 : 0 ≤ a4 ∧ a4 ≤ 99) : WFs (wr (mrow5 s 28 k a0 a1 a2 a3 a4) 0 47 ((k : Int) + 1)) := by
  obtain ⟨z1, z2, z3, z4, z5, z6, z7, z8, z9, hp, ht, hst, hcu, hwe, hdi⟩ := h
  unfold WFs
  simp (disch := decide) only [wr_nr, wr_nk, wr_eq, mrow5_r]
  refine ⟨z1, z2, z3, z4, z5, z6, z7, z8, by omega, hp, ht, hst, hcu, hwe, fun d hd => ?_⟩
  by_cases e : d = k
  · subst e
    rw [mrow5_0, mrow5_1, mrow5_2, mrow5_3, mrow5_4]
    exact ⟨h0, h1, h2, h3, h4⟩
  · rw [mrow5_old (by omega), mrow5_old (by omega), mrow5_old (by omega), mrow5_old (by omega), mrow5_old (by omega)]
    exact hdi d (by omega)
theorem op_dish (h : CP c x m) (hc : c ≤ 1000) (hn : 10000 ≤ n) (a b d e f : Int) : SIM c (F_X11_dish n a b d e f x) (F_X12_dish n a b d e f m) := by
  have hw := WFs_t h.k.2
  have h4 := hw.nd
  have hT := h.k.1.t12
  have hs := h.k.1.s12
  have x1 : x 12 1 = 4 := hT.1
  have hnd : wr m 0 16 0 0 47 = m 0 47 := rfl
  have b1 := np2S_bd (m 0 2) a d
  have b2 := eaS_bd 99 b e f
  have b3 := rmS_bd (x 12 3) (x 12 1)
  have ex : ∀ r : Int, -6 ≤ r ∧ r ≤ -1 → refS (np2S (m 0 2) a d) (eaS 99 b e f) (rmS (x 12 3) (x 12 1)) = r → F_X11_dish n a b d e f x = some (r, rfX x r) := by
    intro r hr e
    unfold F_X11_dish
    refine E_bnd (X_noPartOf h.k n _ _) (E_bnd (X_each _ _ _ _ _ _) (E_bnd (X_noRoom _ _ _) (E_bnd (X_refused h.f hc b1 b2 b3 e (by omega)) ?_)))
    rw [if_neg (by omega)]
  have em : ∀ r : Int, -6 ≤ r ∧ r ≤ -1 → B_X12_dish_83 n a b d e f r (wr m 0 16 0) = some (r, rfM (wr m 0 16 0) r) := by
    intro r hr
    unfold B_X12_dish_83
    rw [if_neg (by omega)]
    exact E_bnd (M_ref h hc hr) rfl
  have eM : F_X12_dish n a b d e f m = B_X12_dish_83 n a b d e f (refS (np2S (m 0 2) a d) (eaS 99 b e f) (rmS (x 12 3) (x 12 1))) (wr m 0 16 0) := by
    unfold F_X12_dish
    by_cases ha : 0 ≤ a ∧ a < m 0 2
    · refine E_bnd (M_part_t hw ha) ?_
      rw [if_neg (by decide)]
      by_cases hd : 0 ≤ d ∧ d < m 0 2
      · refine E_bnd (M_part_t hw hd) ?_
        rw [if_neg (by decide)]
        rw [show np2S (m 0 2) a d = 0 by unfold np2S; rw [npS_t ha, npS_t hd]; rfl, hs, x1, hnd]
        by_cases c1 : b < 0 ∨ e < 0 ∨ f < 0
        · rw [show eaS 99 b e f = -4 by unfold eaS; rw [if_pos c1]]
          refine E_ite (fun _ => rfl) (fun _ => E_ite (fun _ => rfl) (fun _ => ?_))
          rw [if_neg (by omega)]
          rfl
        · by_cases c2 : 99 < b ∨ 99 < e ∨ 99 < f
          · rw [show eaS 99 b e f = -6 by unfold eaS; rw [if_neg c1, if_pos c2]]
            rw [if_neg (by omega), if_neg (by omega), if_pos (by omega)]
            refine E_ite (fun _ => rfl) (fun _ => E_ite (fun _ => rfl) (fun _ => ?_))
            rw [if_pos (by omega)]
            rfl
          · rw [show eaS 99 b e f = 0 by unfold eaS; rw [if_neg c1, if_neg c2]]
            rw [if_neg (by omega), if_neg (by omega), if_pos (by omega), if_neg (by omega), if_neg (by omega), if_neg (by omega)]
            rw [show refS 0 0 (rmS (m 0 47) 4) = rmS (m 0 47) 4 from rfl]
            unfold rmS
            refine E_ite (fun z => ?_) (fun z => ?_)
            · rw [if_neg (by omega)]
            · rw [if_pos (by omega)]
      · refine E_bnd (M_part_f hw hd) ?_
        rw [if_pos rfl]
        rw [show np2S (m 0 2) a d = -1 by unfold np2S; rw [npS_t ha, npS_f hd]; rfl]
        rfl
    · refine E_bnd (M_part_f hw ha) ?_
      rw [if_pos rfl]
      rw [show np2S (m 0 2) a d = -1 by unfold np2S; rw [npS_f ha]; rfl]
      rfl
  by_cases hr : refS (np2S (m 0 2) a d) (eaS 99 b e f) (rmS (x 12 3) (x 12 1)) = 0
  · rw [eM, hr]
    obtain ⟨q1, q2, q3⟩ := refS_0 hr
    obtain ⟨ha, hd⟩ := np2S_0 q1
    have q2' : (0 ≤ b ∧ b ≤ 99) ∧ (0 ≤ e ∧ e ≤ 99) ∧ (0 ≤ f ∧ f ≤ 99) := by
      unfold eaS at q2
      by_cases c1 : b < 0 ∨ e < 0 ∨ f < 0
      · rw [if_pos c1] at q2
        omega
      · rw [if_neg c1] at q2
        by_cases c2 : 99 < b ∨ 99 < e ∨ 99 < f
        · rw [if_pos c2] at q2
          omega
        · omega
    have q3' : x 12 3 < 4 := by
      unfold rmS at q3
      by_cases c1 : x 12 3 < x 12 1
      · omega
      · rw [if_neg c1] at q3
        omega
    obtain ⟨k, hk⟩ : ∃ k : Nat, m 0 47 = (k : Int) := ⟨(m 0 47).toNat, by omega⟩
    have hx : x 12 3 = (k : Int) := by rw [hs, hk]
    refine ⟨(k : Int), row5 x 12 k a b d e f, wr (mrow5 (wr m 0 16 0) 28 k a b d e f) 0 47 ((k : Int) + 1), ?_, ?_, ?_⟩
    · unfold F_X11_dish
      refine E_bnd (X_noPartOf h.k n _ _) (E_bnd (X_each _ _ _ _ _ _) (E_bnd (X_noRoom _ _ _) (E_bnd (X_notRef hr b1) ?_)))
      rw [if_pos rfl]
      exact X_row5 hT hn hx (by omega) (fun v m => some (v, m))
    · unfold B_X12_dish_83
      rw [if_pos (by decide)]
      simp (disch := decide) only [wr_nr, wr_nk, wr_eq, hk, zM28, show (5 * (k : Int)).toNat = 5 * k by omega, show (5 * (k : Int) + 1).toNat = 5 * k + 1 by omega, show (5 * (k : Int) + 2).toNat = 5 * k + 2 by omega, show (5 * (k : Int) + 3).toNat = 5 * k + 3 by omega, show (5 * (k : Int) + 4).toNat = 5 * k + 4 by omega]
      refine E_chk (by omega) (E_chk (by omega) (E_chk (by omega) (E_chk (by omega) (E_chk (by omega) (E_chk (by omega) (E_chk (by omega) (E_chk (by omega) (E_chk (by omega) (E_chk (by omega) (E_chk (by omega) (E_chk (by omega) (E_chk (by omega) (E_chk (by omega) (E_chk (by omega) (E_chk (by omega) ?_)))))))))))))))
      refine E_some (by omega) ?_
      unfold mrow5
      rfl
    · have ax : ∀ {kp : Nat → Nat → Bool}, (∀ j, kp 13 j = false) → kp 12 3 = false → AG kp x (row5 x 12 k a b d e f) := fun h1 h2 => AG.rf.row5 h1 h2
      have am : ∀ {kp : Nat → Nat → Bool}, kp 0 16 = false → (∀ j, kp 28 j = false) → kp 0 47 = false → AG kp m (wr (mrow5 (wr m 0 16 0) 28 k a b d e f) 0 47 ((k : Int) + 1)) := fun h0 h1 h2 => ((AG.rf.wr h0).mrow5 h1).wr h2
      have hk2 := XK_t (k := 1) h.k.1
      exact CP_kit h ⟨XK_dish hk2 hk (by omega), WFs_dish hw hk (by omega) ha q2'.1 hd q2'.2.1 q2'.2.2⟩ (ax (fun _ => rfl) rfl) (ax (fun _ => rfl) rfl) (ax (fun _ => rfl) rfl) (ax (fun _ => rfl) rfl) (ax (fun _ => rfl) rfl) (ax (fun _ => rfl) rfl) (ax (fun _ => rfl) rfl) (am rfl (fun _ => rfl) rfl) (am rfl (fun _ => rfl) rfl) (am rfl (fun _ => rfl) rfl) (am rfl (fun _ => rfl) rfl) (am rfl (fun _ => rfl) rfl)
  · have bd := refS_bd b1 b2 b3
    rw [eM]
    exact SIM_ref h (by omega) (ex _ (by omega) rfl) (em _ (by omega))
end ZOP18
