/-! OPERATIONS 15: buy, cheapest, read -/
theorem pw_bd {k : Nat} (h : k ≤ 30) : 1 ≤ (1 : Int) * 2 ^ k ∧ (1 : Int) * 2 ^ k ≤ 1073741824 := by
  have e : (2 : Int) ^ k = ((2 ^ k : Nat) : Int) := by rw [Int.natCast_pow]; rfl
  have h1 : 2 ^ k ≤ 2 ^ 30 := Nat.pow_le_pow_right (by decide) h
  have h2 : 0 < 2 ^ k := Nat.two_pow_pos k
  rw [Int.one_mul, e]
  have h3 : (2 : Nat) ^ 30 = 1073741824 := by decide
  omega
/-- the pence for a part -/
def penS (s : ZMem) (g : Int) (p : Nat) : Int := if s 1 p = 3 then s 2 p * upS (lackS s p g) (s 2 p) * s 21 p else lackS s p g * s 21 p
section ZOP15
variable {x s m : ZMem} {c n p : Nat}
theorem lack_bd (hw : WFs s) (hp : (p : Int) < s 0 2) {g : Int} (hg : 1 ≤ g ∧ g ≤ 24) : 0 ≤ lackS s p g ∧ lackS s p g ≤ 24168 := by
  obtain ⟨t, u⟩ := lack_bds hw hp hg
  unfold lackS
  split
  · decide
  · rename_i e
    have := up2 (a := takS s p (s 4 p * g) (s 0 0) - 12 * s 5 p) (b := 12) (by omega) (by decide)
    have := upS_bd (a := takS s p (s 4 p * g) (s 0 0) - 12 * s 5 p) (b := 12) (by omega) (by decide)
    omega
theorem pack_bd (hw : WFs s) (hp : (p : Int) < s 0 2) {g : Int} (hg : 1 ≤ g ∧ g ≤ 24) : (1 ≤ s 2 p ∧ s 2 p ≤ 100) ∧ (0 ≤ upS (lackS s p g) (s 2 p) ∧ upS (lackS s p g) (s 2 p) ≤ 24168) ∧ (0 ≤ s 2 p * upS (lackS s p g) (s 2 p) ∧ s 2 p * upS (lackS s p g) (s 2 p) ≤ 24268) ∧ (0 ≤ s 21 p ∧ s 21 p ≤ 99) := by
  obtain ⟨h1, h2, h3, h4, h5, h6, -⟩ := hw.pt p hp
  have l := lack_bd hw hp hg
  have u := upS_bd (a := lackS s p g) (b := s 2 p) l.1 h2.1
  have v := up2 (a := lackS s p g) (b := s 2 p) l.1 h2.1
  rw [Int.mul_comm (upS _ _)] at v
  omega
theorem pen_bds (hw : WFs s) (hp : (p : Int) < s 0 2) {g : Int} (hg : 1 ≤ g ∧ g ≤ 24) : (0 ≤ s 2 p * upS (lackS s p g) (s 2 p) * s 21 p ∧ s 2 p * upS (lackS s p g) (s 2 p) * s 21 p ≤ 2402532) ∧ (0 ≤ lackS s p g * s 21 p ∧ lackS s p g * s 21 p ≤ 2402532) := by
  have l := lack_bd hw hp hg
  obtain ⟨-, -, b, d⟩ := pack_bd hw hp hg
  have := mul_bd (a := s 2 p * upS (lackS s p g) (s 2 p)) (b := s 21 p) b.1 b.2 d.1 d.2
  have := mul_bd (a := lackS s p g) (b := s 21 p) l.1 l.2 d.1 d.2
  omega
theorem pen_bd (hw : WFs s) (hp : (p : Int) < s 0 2) {g : Int} (hg : 1 ≤ g ∧ g ≤ 24) : 0 ≤ penS s g p ∧ penS s g p ≤ 2402532 := by
  have := pen_bds hw hp hg
  unfold penS
  split <;> omega
def allPen (s : ZMem) (g : Int) : Int := sumS (penS s g) (s 0 2).toNat
theorem allPen_bd (hw : WFs s) {g : Int} (hg : 1 ≤ g ∧ g ≤ 24) : 0 ≤ allPen s g ∧ allPen s g ≤ 19220256 := by
  have := sumS_bd (f := penS s g) (B := 2402532) (by decide) (s 0 2).toNat (fun i hi => pen_bd hw (np_lt hw hi) hg)
  have h8 := np_le hw
  unfold allPen
  omega
theorem X_pence (h : XK x 1 s) (hw : WFs s) (hn : 10000 ≤ n) {g : Int} (hg : 1 ≤ g ∧ g ≤ 24) : F_X7_penceFor n g x = some (allPen s g, x) := by
  have h8 := np_le hw
  refine loop_run (L := fun q (z : Int × Int × ZMem) => L_X7_penceFor_4 n q g z.1 z.2.1 z.2.2) (s 0 2).toNat (fun k => (sumS (penS s g) k, (k : Int), x)) _ ?_ ?_ n (by omega)
  · intro k q hk
    have hk2 := np_lt hw hk
    have b0 := sumS_bd (f := penS s g) (B := 2402532) (by decide) k (fun i hi => pen_bd hw (np_lt hw (by omega)) hg)
    have l := lack_bd hw hk2 hg
    obtain ⟨c1, c2, c3, c4⟩ := pack_bd hw hk2 hg
    have pb := pen_bds hw hk2 hg
    show B_X7_penceFor_4 n (L_X7_penceFor_4 n q) g _ (k : Int) x = L_X7_penceFor_4 n q g (sumS (penS s g) k + penS s g k) ((k + 1 : Nat) : Int) x
    unfold B_X7_penceFor_4
    refine E_bnd (X_size n 2 x) ?_
    rw [h.s2, if_neg (by omega)]
    refine E_bnd (X_lack h hw hk2 hg) (E_bnd (X_p0 h hk2) (E_ite (fun e => ?_) (fun e => ?_)))
    · rw [show penS s g k = s 2 k * upS (lackS s k g) (s 2 k) * s 21 k by unfold penS; rw [if_pos e]]
      refine E_bnd (X_p1 h hk2) (E_bnd (X_up (by omega) (by omega)) (E_chk (by omega) (E_bnd (X_p5 h hk2) (E_chk (by omega) (E_chk (by omega) (E_chk (by omega) ?_))))))
      rw [cast1]
    · rw [show penS s g k = lackS s k g * s 21 k by unfold penS; rw [if_neg e]]
      refine E_bnd (X_p5 h hk2) (E_chk (by omega) (E_chk (by omega) (E_chk (by omega) ?_)))
      rw [cast1]
  · intro q
    show B_X7_penceFor_4 n (L_X7_penceFor_4 n q) g _ ((s 0 2).toNat : Int) x = _
    unfold B_X7_penceFor_4
    refine E_bnd (X_size n 2 x) ?_
    rw [h.s2, if_pos (by have := np_cast hw; omega)]
    rfl
theorem M_buyFor (hw : WFs s) (hn : 10000 ≤ n) {g : Int} (hg : 1 ≤ g ∧ g ≤ 24) : F_X12_buyFor n g s = some (allPen s g, s) := by
  have h8 := np_le hw
  refine loop_run (L := fun q (z : Int × Int × ZMem) => L_X12_buyFor_4 n q g z.1 z.2.1 z.2.2) (s 0 2).toNat (fun k => (sumS (penS s g) k, (k : Int), s)) _ ?_ ?_ n (by omega)
  · intro k q hk
    have hk2 := np_lt hw hk
    have b0 := sumS_bd (f := penS s g) (B := 2402532) (by decide) k (fun i hi => pen_bd hw (np_lt hw (by omega)) hg)
    have l := lack_bd hw hk2 hg
    obtain ⟨c1, c2, c3, c4⟩ := pack_bd hw hk2 hg
    obtain ⟨t, u⟩ := lack_bds hw hk2 hg
    have pb := pen_bds hw hk2 hg
    have eB : B_X12_buyFor_46 n (L_X12_buyFor_4 n q) g (sumS (penS s g) k) (k : Int) (lackS s k g) s = L_X12_buyFor_4 n q g (sumS (penS s g) k + penS s g k) ((k + 1 : Nat) : Int) s := by
      unfold B_X12_buyFor_46
      simp only [zM1, zM2, zM3, zM4, zM5, zM6, zM7, zM8, zM9, zM10, zM11, zM12, zM13, zM14, zM15, zM16, zM17, zM18, zM19, zM20, zM21, zM22, zM23, zM24, zM25, zM26, zM27, zM28, zM29, Int.toNat_natCast]
      refine E_chk (by omega) (E_ite (fun e => ?_) (fun e => ?_))
      · rw [show penS s g k = s 2 k * upS (lackS s k g) (s 2 k) * s 21 k by unfold penS; rw [if_pos e]]
        refine E_chk (by omega) (E_chk (by omega) (E_bnd (M_up (by omega) (by omega)) (E_chk (by omega) (E_chk (by omega) (E_chk (by omega) (E_chk (by omega) (E_chk (by omega) ?_)))))))
        rw [cast1]
      · rw [show penS s g k = lackS s k g * s 21 k by unfold penS; rw [if_neg e]]
        refine E_chk (by omega) (E_chk (by omega) (E_chk (by omega) (E_chk (by omega) ?_)))
        rw [cast1]
    show B_X12_buyFor_4 n (L_X12_buyFor_4 n q) g _ (k : Int) s = L_X12_buyFor_4 n q g (sumS (penS s g) k + penS s g k) ((k + 1 : Nat) : Int) s
    rw [← eB]
    unfold B_X12_buyFor_4
    simp only [zM1, zM2, zM3, zM4, zM5, zM6, zM7, zM8, zM9, zM10, zM11, zM12, zM13, zM14, zM15, zM16, zM17, zM18, zM19, zM20, zM21, zM22, zM23, zM24, zM25, zM26, zM27, zM28, zM29, Int.toNat_natCast]
    rw [if_neg (by omega)]
    refine E_bnd (M_takenFor hw hk2 hg) (E_chk (by omega) (E_chk (by omega) (E_chk (by omega) (E_ite (fun e => ?_) (fun e => ?_)))))
    · rw [show lackS s k g = 0 by unfold lackS; rw [if_pos e]]
    · rw [show lackS s k g = upS (takS s k (s 4 k * g) (s 0 0) - 12 * s 5 k) 12 by unfold lackS; rw [if_neg e]]
      exact E_bnd (M_up (by omega) (by decide)) rfl
  · intro q
    show B_X12_buyFor_4 n (L_X12_buyFor_4 n q) g _ ((s 0 2).toNat : Int) s = _
    unfold B_X12_buyFor_4
    rw [if_pos (by have := np_cast hw; omega)]
    rfl
theorem op_buy (h : CP c x m) (hc : c ≤ 1000) (hn : 10000 ≤ n) (g : Int) : SIM c (F_X11_buy n g x) (F_X12_buy n g m) := by
  have hw := WFs_t h.k.2
  have hk := XK_t (k := 1) h.k.1
  have b3 := outS_bd 1 24 g
  have ew : F_X12_wrongNumber n g 1 24 (wr m 0 16 0) = some (outS 1 24 g, wr m 0 16 0) := M_wrong _ _ _ _ _
  unfold F_X11_buy F_X12_buy
  by_cases h0 : outS 1 24 g = 0
  · have ho := outS_0 h0
    refine SIM_tw h ?_
    refine TW_bx (X_outside _ _ _ _ _) (TW_bx (X_noto h0) (TW_x (if_pos rfl) ?_))
    refine TW_bm ew (TW_m (if_pos (by omega)) ?_)
    exact TW_bx (X_pence hk hw hn ho) (TW_bm (M_buyFor hw hn ho) (TW_some rfl))
  · refine SIM_ref h (r := outS 1 24 g) (by omega) ?_ ?_
    · refine E_bnd (X_outside _ _ _ _ _) (E_bnd (X_refo h.f hc b3 h0) ?_)
      rw [if_neg h0]
    · refine E_bnd ew ?_
      rw [if_neg (by omega)]
      exact E_bnd ew (E_bnd (M_ref h hc (by omega)) rfl)
theorem cheap_loop (h : XK x 1 s) (hw : WFs s) (hn : 10000 ≤ n) {b : Int} (hb : 1 ≤ b ∧ b ≤ 24) : ∀ (d : Nat) (g k : Int) (q q' : Nat), k + (d : Int) = b + 1 → (1 ≤ g ∧ g ≤ 24) → 1 ≤ k → d < q → d < q' → TW x s (L_X7_leastPence_14 n q b g (allPen s g) k x) (L_X12_cheapest_67 n q' b g k s) := by
  intro d
  induction d with
  | zero =>
    intro g k q q' h1 h2 h3 hq hq'
    obtain ⟨q, rfl⟩ : ∃ z, q = z + 1 := ⟨q - 1, by omega⟩
    obtain ⟨q', rfl⟩ : ∃ z, q' = z + 1 := ⟨q' - 1, by omega⟩
    show TW x s (B_X7_leastPence_14 n (L_X7_leastPence_14 n q) b g (allPen s g) k x) (B_X12_cheapest_67 n (L_X12_cheapest_67 n q') b g k s)
    unfold B_X7_leastPence_14 B_X12_cheapest_67
    rw [if_pos (by omega), if_pos (by omega)]
    exact TW_some rfl
  | succ d ih =>
    intro g k q q' h1 h2 h3 hq hq'
    obtain ⟨q, rfl⟩ : ∃ z, q = z + 1 := ⟨q - 1, by omega⟩
    obtain ⟨q', rfl⟩ : ∃ z, q' = z + 1 := ⟨q' - 1, by omega⟩
    have p1 := allPen_bd hw h2
    have p2 := allPen_bd hw (g := k) (by omega)
    have m1 := mul_bd (a := allPen s g) (b := k) (B := 24) p1.1 p1.2 (by omega) (by omega)
    have m2 := mul_bd (a := allPen s k) (b := g) (B := 24) p2.1 p2.2 (by omega) (by omega)
    show TW x s (B_X7_leastPence_14 n (L_X7_leastPence_14 n q) b g (allPen s g) k x) (B_X12_cheapest_67 n (L_X12_cheapest_67 n q') b g k s)
    unfold B_X7_leastPence_14 B_X12_cheapest_67
    simp only [lcI_ge0]
    rw [if_neg (by omega), if_neg (by omega)]
    refine TW_bx (X_pence h hw hn (by omega)) (TW_cx (by omega) (TW_cx (by omega) ?_))
    refine TW_bm (M_buyFor hw hn (by omega)) (TW_cm (by omega) (TW_bm (M_buyFor hw hn h2) (TW_cm (by omega) ?_)))
    refine TW_i2 (fun e => TW_cx (by omega) (TW_cm (by omega) ?_)) (fun e => TW_cx (by omega) (TW_cm (by omega) ?_))
    · exact ih g (k + 1) q q' (by omega) h2 (by omega) (by omega) (by omega)
    · exact ih k (k + 1) q q' (by omega) (by omega) (by omega) (by omega) (by omega)
theorem op_cheapest (h : CP c x m) (hc : c ≤ 1000) (hn : 10000 ≤ n) (a b : Int) : SIM c (F_X11_cheapest n a b x) (F_X12_cheapest n a b m) := by
  have hw := WFs_t h.k.2
  have hk := XK_t (k := 1) h.k.1
  have b3 := eiS_bd 1 24 a b
  have ex : ∀ r : Int, -6 ≤ r ∧ r ≤ -1 → refS (eiS 1 24 a b) (if a ≤ b then 0 else -3) 0 = r → F_X11_cheapest n a b x = some (r, rfX x r) := by
    intro r hr e
    unfold F_X11_cheapest
    refine E_bnd (X_either _ _ _ _ _ _) (E_ite (fun e1 => ?_) (fun e1 => ?_))
    · rw [if_pos e1] at e
      refine E_bnd (X_ref2 h.f hc b3 (by decide) e (by omega)) ?_
      rw [if_neg (by omega)]
    · rw [if_neg e1] at e
      refine E_bnd (X_ref2 h.f hc b3 (by decide) e (by omega)) ?_
      rw [if_neg (by omega)]
  by_cases h1 : a < 1 ∨ b < 1
  · have e4 : eiS 1 24 a b = -4 := by unfold eiS; rw [if_pos h1]
    refine SIM_ref h (r := -4) (by decide) (ex _ (by decide) (by rw [e4]; rfl)) ?_
    unfold F_X12_cheapest
    refine E_ite (fun z => E_bnd (M_ref h hc (by decide)) rfl) (fun z => ?_)
    rw [if_neg (by omega)]
    exact E_bnd (M_ref h hc (by decide)) rfl
  by_cases h2 : 24 < a ∨ 24 < b
  · have e4 : eiS 1 24 a b = -6 := by unfold eiS; rw [if_neg h1, if_pos h2]
    refine SIM_ref h (r := -6) (by decide) (ex _ (by decide) (by rw [e4]; rfl)) ?_
    unfold F_X12_cheapest
    rw [if_neg (by omega), if_pos (by omega)]
    refine E_ite (fun z => E_bnd (M_ref h hc (by decide)) rfl) (fun z => ?_)
    rw [if_neg (by omega)]
    exact E_bnd (M_ref h hc (by decide)) rfl
  have e0 : eiS 1 24 a b = 0 := by unfold eiS; rw [if_neg h1, if_neg h2]
  by_cases hab : a ≤ b
  · refine SIM_tw h ?_
    unfold F_X11_cheapest F_X12_cheapest F_X7_leastPence
    refine TW_bx (X_either _ _ _ _ _ _) (TW_x (if_pos hab) (TW_bx (X_not2 (by rw [e0]; rfl) b3) (TW_x (if_pos rfl) (TW_x (bnd_id _) ?_))))
    rw [if_neg (by omega), if_pos (by omega), if_neg (by omega), if_pos (by omega), if_pos hab]
    refine TW_bx (X_pence hk hw hn (by omega)) (TW_cx (by omega) (TW_cm (by omega) ?_))
    exact cheap_loop hk hw hn (by omega) (b - a).toNat a (a + 1) n n (by omega) (by omega) (by omega) (by omega) (by omega)
  · refine SIM_ref h (r := -3) (by decide) (ex _ (by decide) (by rw [e0, if_neg hab]; rfl)) ?_
    unfold F_X12_cheapest
    rw [if_neg (by omega), if_pos (by omega), if_neg (by omega), if_pos (by omega), if_neg hab]
    exact E_bnd (M_ref h hc (by decide)) rfl
/-- the row tells of a part what is taken for g -/
def soB (s : ZMem) (g : Int) (p : Nat) : Bool := decide (takS s p (s 4 p * g) (s 0 0) / 12 = s 29 p)
theorem X_rowAt (hr : CPr x s) {j : Nat} (hj : (j : Int) < s 0 49) : F_X9_at n 45 (j : Int) 0 x = some (s 29 j, x) := by
  rw [← (hr.2.2 j hj).1]
  exact X_at0 hr.1 (by rw [hr.2.1]; exact hj)
theorem tk12 (hw : WFs s) (hp : (p : Int) < s 0 2) {g : Int} (hg : 1 ≤ g ∧ g ≤ 24) : 0 ≤ takS s p (s 4 p * g) (s 0 0) := by
  have a1 := ag_bd hw hp (g := g) (B := 24) (by omega)
  exact (takS_bd hw hp (a := s 4 p * g) (b := s 0 0) (by omega) hw.f).1
theorem X_isSo (h : XK x 1 s) (hw : WFs s) (hr : CPr x s) (hs : s 0 49 = s 0 2) (hp : (p : Int) < s 0 2) {g : Int} (hg : 1 ≤ g ∧ g ≤ 24) : F_X2_isSo n (p : Int) g x = some (b01 (soB s g p), x) := by
  have t := tk12 hw hp hg
  unfold F_X2_isSo
  refine E_bnd (X_takenFor h hw hp hg) (E_chk (by omega) (E_bnd (X_rowAt hr (by omega)) (E_ite (fun e => ?_) (fun e => ?_))))
  · rw [show soB s g p = true by simp only [soB, decide_eq_true_eq]; exact e]
    rfl
  · rw [show soB s g p = false by simp only [soB, decide_eq_false_iff_not]; exact e]
    rfl
theorem M_isTaken (hw : WFs s) (hp : (p : Int) < s 0 2) {g : Int} (hg : 1 ≤ g ∧ g ≤ 24) : F_X12_isTaken n (p : Int) g s = some (b01 (soB s g p), s) := by
  have t := tk12 hw hp hg
  have h8 := hw.np
  unfold F_X12_isTaken
  simp only [zM1, zM2, zM3, zM4, zM5, zM6, zM7, zM8, zM9, zM10, zM11, zM12, zM13, zM14, zM15, zM16, zM17, zM18, zM19, zM20, zM21, zM22, zM23, zM24, zM25, zM26, zM27, zM28, zM29, Int.toNat_natCast]
  refine E_chk (by omega) (E_bnd (M_takenFor hw hp hg) (E_chk (by omega) (E_ite (fun e => ?_) (fun e => ?_))))
  · rw [show soB s g p = true by simp only [soB, decide_eq_true_eq]; exact e.symm]
    rfl
  · rw [show soB s g p = false by simp only [soB, decide_eq_false_iff_not]; exact fun z => e z.symm]
    rfl
theorem X_allSo (h : XK x 1 s) (hw : WFs s) (hn : 10000 ≤ n) (hr : CPr x s) (hs : s 0 49 = s 0 2) {g : Int} (hg : 1 ≤ g ∧ g ≤ 24) : F_X2_allSo n g x = some (b01 (allS (soB s g) (s 0 2).toNat), x) := by
  have h8 := np_le hw
  have key := loop_all (L := fun q (z : Int × ZMem) => L_X2_allSo_2 n q g z.1 z.2) (s 0 2).toNat (soB s g) (fun k => ((k : Int), x)) (some (1, x)) (some (0, x)) ?_ ?_ ?_ n (by omega)
  · refine Eq.trans key ?_
    unfold b01
    split <;> rfl
  all_goals
    first
    | (intro k q hk hf
       have hk2 := np_lt hw hk
       show B_X2_allSo_2 n (L_X2_allSo_2 n q) g (k : Int) x = _
       unfold B_X2_allSo_2
       refine E_bnd (X_size n 2 x) ?_
       rw [h.s2, if_neg (by omega)]
       refine E_bnd (X_isSo h hw hr hs hk2 hg) ?_
       rw [hf]
       first
       | (rw [b01_t, if_neg (by decide)]
          refine E_chk (by omega) ?_
          rw [cast1])
       | rw [b01_f, if_pos rfl])
    | (intro q
       show B_X2_allSo_2 n (L_X2_allSo_2 n q) g _ x = _
       unfold B_X2_allSo_2
       refine E_bnd (X_size n 2 x) ?_
       rw [h.s2, if_pos (by have := np_cast hw; omega)])
theorem M_rn_in (hw : WFs s) (hn : 10000 ≤ n) (r : Int → Int → ZMem → ZR) {b g : Int} (hg : 1 ≤ g ∧ g ≤ 24) (hb : 0 ≤ b) (hp : 1 ≤ (1 : Int) * 2 ^ (g - 1).toNat ∧ (1 : Int) * 2 ^ (g - 1).toNat ≤ 1073741824) : L_X12_readNumbers_15 n r n b g 1 0 s = if allS (soB s g) (s 0 2).toNat then r (zlor b (1 * 2 ^ (g - 1).toNat)) (g + 1) s else r b (g + 1) s := by
  have h8 := np_le hw
  refine loop_run (L := fun q (z : Int × Int × ZMem) => L_X12_readNumbers_15 n r q b g z.1 z.2.1 z.2.2) (s 0 2).toNat (fun k => (b01 (allS (soB s g) k), (k : Int), s)) _ ?_ ?_ n (by omega)
  · intro k q hk
    have hk2 := np_lt hw hk
    show B_X12_readNumbers_15 n r (L_X12_readNumbers_15 n r q) b g (b01 (allS (soB s g) k)) (k : Int) s = L_X12_readNumbers_15 n r q b g (b01 (allS (soB s g) k && soB s g k)) ((k + 1 : Nat) : Int) s
    unfold B_X12_readNumbers_15
    rw [if_neg (by omega)]
    cases ha : allS (soB s g) k with
    | false =>
      rw [b01_f, if_pos rfl]
      refine E_chk (by omega) ?_
      rw [cast1]
      rfl
    | true =>
      rw [b01_t, if_neg (by decide)]
      refine E_bnd (M_isTaken hw hk2 hg) ?_
      cases hb2 : soB s g k with
      | false =>
        rw [b01_f, if_pos rfl]
        refine E_chk (by omega) ?_
        rw [cast1]
        rfl
      | true =>
        rw [b01_t, if_neg (by decide)]
        refine E_chk (by omega) ?_
        rw [cast1]
        rfl
  · intro q
    show B_X12_readNumbers_15 n r (L_X12_readNumbers_15 n r q) b g (b01 (allS (soB s g) (s 0 2).toNat)) ((s 0 2).toNat : Int) s = _
    unfold B_X12_readNumbers_15
    rw [if_pos (by have := np_cast hw; omega)]
    cases ha : allS (soB s g) (s 0 2).toNat with
    | false =>
      rw [b01_f, if_pos rfl, zlor_0 hb]
      refine E_chk (by omega) (E_chk (by omega) ?_)
      rw [if_neg (by decide)]
    | true =>
      rw [b01_t, if_neg (by decide)]
      refine E_chk (by omega) (E_chk (by omega) (E_chk (by omega) (E_chk (by omega) (E_chk (by omega) ?_))))
      rw [if_pos rfl]
theorem numbers_loop (h : XK x 1 s) (hw : WFs s) (hn : 10000 ≤ n) (hr : CPr x s) (hs : s 0 49 = s 0 2) : ∀ (d : Nat) (b k : Int) (q q' : Nat), k + (d : Int) = 25 → 1 ≤ k → 0 ≤ b → d < q → d < q' → TW x s (L_X2_numbersSo_4 n q b k x) (L_X12_readNumbers_4 n q' b k s) := by
  intro d
  induction d with
  | zero =>
    intro b k q q' h1 h2 h3 hq hq'
    obtain ⟨q, rfl⟩ : ∃ z, q = z + 1 := ⟨q - 1, by omega⟩
    obtain ⟨q', rfl⟩ : ∃ z, q' = z + 1 := ⟨q' - 1, by omega⟩
    show TW x s (B_X2_numbersSo_4 n (L_X2_numbersSo_4 n q) b k x) (B_X12_readNumbers_4 n (L_X12_readNumbers_4 n q') b k s)
    unfold B_X2_numbersSo_4 B_X12_readNumbers_4
    rw [if_pos (by omega), if_pos (by omega)]
    exact TW_some rfl
  | succ d ih =>
    intro b k q q' h1 h2 h3 hq hq'
    obtain ⟨q, rfl⟩ : ∃ z, q = z + 1 := ⟨q - 1, by omega⟩
    obtain ⟨q', rfl⟩ : ∃ z, q' = z + 1 := ⟨q' - 1, by omega⟩
    have pw := pw_bd (k := (k - 1).toNat) (by omega)
    show TW x s (B_X2_numbersSo_4 n (L_X2_numbersSo_4 n q) b k x) (B_X12_readNumbers_4 n (L_X12_readNumbers_4 n q') b k s)
    unfold B_X2_numbersSo_4 B_X12_readNumbers_4
    rw [if_neg (by omega), if_neg (by omega)]
    refine TW_m (M_rn_in hw hn _ (by omega) h3 pw) (TW_bx (X_allSo h hw hn hr hs (by omega)) ?_)
    cases ha : allS (soB s k) (s 0 2).toNat with
    | false =>
      rw [b01_f, if_pos rfl, if_neg (by decide)]
      exact TW_cx (by omega) (ih b (k + 1) q q' (by omega) (by omega) h3 (by omega) (by omega))
    | true =>
      rw [b01_t, if_neg (by decide), if_pos rfl]
      exact TW_cx (by omega) (TW_cx (by omega) (TW_cx (by omega) (TW_cx (by omega) (TW_cx (by omega) (ih _ (k + 1) q q' (by omega) (by omega) (zlor_nn _ _) (by omega) (by omega))))))
theorem halved_loop (h : XK x 1 s) (hw : WFs s) (hr : CPr x s) (hs : s 0 49 = s 0 2) : ∀ (d : Nat) (b : Int) (k q q' : Nat), (k : Int) + (d : Int) = s 0 2 → 0 ≤ b → d < q → d < q' → TW x s (L_X2_halvedParts_4 n q b (k : Int) x) (L_X12_read_46 n q' 1 b (k : Int) s) := by
  intro d
  have h8 := hw.np
  have hg := hw.g
  induction d with
  | zero =>
    intro b k q q' h1 h3 hq hq'
    obtain ⟨q, rfl⟩ : ∃ z, q = z + 1 := ⟨q - 1, by omega⟩
    obtain ⟨q', rfl⟩ : ∃ z, q' = z + 1 := ⟨q' - 1, by omega⟩
    show TW x s (B_X2_halvedParts_4 n (L_X2_halvedParts_4 n q) b (k : Int) x) (B_X12_read_46 n (L_X12_read_46 n q') 1 b (k : Int) s)
    unfold B_X2_halvedParts_4 B_X12_read_46
    refine TW_bx (X_size n 2 x) ?_
    rw [h.s2, if_pos (by omega), if_pos (by omega), if_neg (by decide)]
    exact TW_some rfl
  | succ d ih =>
    intro b k q q' h1 h3 hq hq'
    obtain ⟨q, rfl⟩ : ∃ z, q = z + 1 := ⟨q - 1, by omega⟩
    obtain ⟨q', rfl⟩ : ∃ z, q' = z + 1 := ⟨q' - 1, by omega⟩
    have hk : (k : Int) < s 0 2 := by omega
    have pw := pw_bd (k := k) (by omega)
    show TW x s (B_X2_halvedParts_4 n (L_X2_halvedParts_4 n q) b (k : Int) x) (B_X12_read_46 n (L_X12_read_46 n q') 1 b (k : Int) s)
    unfold B_X2_halvedParts_4 B_X12_read_46 F_X2_isHalved
    refine TW_bx (X_size n 2 x) ?_
    rw [h.s2, if_neg (by omega), if_neg (by omega), if_pos rfl, bnd_id, h.gu]
    refine TW_bx (X_isSo h hw hr hs hk hg) (TW_bm (M_isTaken hw hk hg) (TW_i2 (fun e => ?_) (fun e => ?_)))
    · rw [zlor_0 h3, cast1]
      exact TW_cx (by omega) (TW_cx (by omega) (TW_cm (by omega) (TW_cm (by omega) (ih b (k + 1) q q' (by omega) h3 (by omega) (by omega)))))
    · simp only [Int.toNat_natCast, cast1]
      exact TW_cx (by omega) (TW_cx (by omega) (TW_cx (by omega) (TW_cx (by omega) (TW_cm (by omega) (TW_cm (by omega) (TW_cm (by omega) (TW_cm (by omega) (ih _ (k + 1) q q' (by omega) (zlor_nn _ _) (by omega) (by omega)))))))))
theorem amount_loop (h : XK x 1 s) (hw : WFs s) (hr : CPr x s) (hs : s 0 49 = s 0 2) : ∀ (d : Nat) (b : Int) (k q q' : Nat), (k : Int) + (d : Int) = s 0 2 → 0 ≤ b → d < q → d < q' → TW x s (L_X2_amountParts_4 n q b (k : Int) x) (L_X12_read_46 n q' 2 b (k : Int) s) := by
  intro d
  have h8 := hw.np
  induction d with
  | zero =>
    intro b k q q' h1 h3 hq hq'
    obtain ⟨q, rfl⟩ : ∃ z, q = z + 1 := ⟨q - 1, by omega⟩
    obtain ⟨q', rfl⟩ : ∃ z, q' = z + 1 := ⟨q' - 1, by omega⟩
    show TW x s (B_X2_amountParts_4 n (L_X2_amountParts_4 n q) b (k : Int) x) (B_X12_read_46 n (L_X12_read_46 n q') 2 b (k : Int) s)
    unfold B_X2_amountParts_4 B_X12_read_46
    refine TW_bx (X_size n 2 x) ?_
    rw [h.s2, if_pos (by omega), if_pos (by omega), if_neg (by decide)]
    exact TW_some rfl
  | succ d ih =>
    intro b k q q' h1 h3 hq hq'
    obtain ⟨q, rfl⟩ : ∃ z, q = z + 1 := ⟨q - 1, by omega⟩
    obtain ⟨q', rfl⟩ : ∃ z, q' = z + 1 := ⟨q' - 1, by omega⟩
    have hk : (k : Int) < s 0 2 := by omega
    have pw := pw_bd (k := k) (by omega)
    show TW x s (B_X2_amountParts_4 n (L_X2_amountParts_4 n q) b (k : Int) x) (B_X12_read_46 n (L_X12_read_46 n q') 2 b (k : Int) s)
    unfold B_X2_amountParts_4 B_X12_read_46 F_X2_isAmount
    simp only [zM1, zM2, zM3, zM4, zM5, zM6, zM7, zM8, zM9, zM10, zM11, zM12, zM13, zM14, zM15, zM16, zM17, zM18, zM19, zM20, zM21, zM22, zM23, zM24, zM25, zM26, zM27, zM28, zM29, Int.toNat_natCast]
    refine TW_bx (X_size n 2 x) ?_
    rw [h.s2, if_neg (by omega), if_neg (by omega), if_neg (by decide)]
    refine TW_cm (by omega) (TW_cm (by omega) ?_)
    by_cases e : s 4 k = s 29 k
    · refine TW_bx (E_bnd (X_p3 h hk) (E_bnd (X_rowAt hr (by omega)) (if_pos e))) ?_
      rw [if_neg (by decide), if_pos e.symm]
      simp only [cast1]
      exact TW_cx (by omega) (TW_cx (by omega) (TW_cx (by omega) (TW_cx (by omega) (TW_cm (by omega) (TW_cm (by omega) (TW_cm (by omega) (TW_cm (by omega) (ih _ (k + 1) q q' (by omega) (zlor_nn _ _) (by omega) (by omega)))))))))
    · refine TW_bx (E_bnd (X_p3 h hk) (E_bnd (X_rowAt hr (by omega)) (if_neg e))) ?_
      rw [if_pos rfl, if_neg (fun z => e z.symm), zlor_0 h3, cast1]
      exact TW_cx (by omega) (TW_cx (by omega) (TW_cm (by omega) (TW_cm (by omega) (ih b (k + 1) q q' (by omega) h3 (by omega) (by omega)))))
theorem M_read0 (hw : WFs s) : ∀ (d : Nat) (b : Int) (k q' : Nat), (k : Int) + (d : Int) = s 0 2 → 0 ≤ b → d < q' → L_X12_read_46 n q' 0 b (k : Int) s = F_X12_readNumbers n s := by
  intro d
  have h8 := hw.np
  induction d with
  | zero =>
    intro b k q' h1 h3 hq'
    obtain ⟨q', rfl⟩ : ∃ z, q' = z + 1 := ⟨q' - 1, by omega⟩
    show B_X12_read_46 n (L_X12_read_46 n q') 0 b (k : Int) s = _
    unfold B_X12_read_46
    rw [if_pos (by omega), if_pos rfl, bnd_id]
  | succ d ih =>
    intro b k q' h1 h3 hq'
    obtain ⟨q', rfl⟩ : ∃ z, q' = z + 1 := ⟨q' - 1, by omega⟩
    have pw := pw_bd (k := k) (by omega)
    show B_X12_read_46 n (L_X12_read_46 n q') 0 b (k : Int) s = _
    unfold B_X12_read_46
    simp only [zM1, zM2, zM3, zM4, zM5, zM6, zM7, zM8, zM9, zM10, zM11, zM12, zM13, zM14, zM15, zM16, zM17, zM18, zM19, zM20, zM21, zM22, zM23, zM24, zM25, zM26, zM27, zM28, zM29, Int.toNat_natCast]
    rw [if_neg (by omega), if_neg (by decide)]
    refine E_chk (by omega) (E_chk (by omega) (E_ite (fun e => ?_) (fun e => ?_)))
    · rw [cast1]
      exact E_chk (by omega) (E_chk (by omega) (E_chk (by omega) (E_chk (by omega) (ih _ (k + 1) q' (by omega) (zlor_nn _ _) (by omega)))))
    · rw [cast1]
      exact E_chk (by omega) (E_chk (by omega) (ih _ (k + 1) q' (by omega) (zlor_nn _ _) (by omega)))
def rnS (a b : Int) : Int := if a = b then 0 else -3
theorem X_rowNot (h : CP c x m) (n : Nat) : F_X11_rowNotForParts n x = some (rnS (m 0 49) (m 0 2), x) := by
  unfold F_X11_rowNotForParts rnS
  refine E_bnd (X_size n 45 x) (E_bnd (X_size n 2 x) ?_)
  rw [h.r.2.1, h.k.1.s2]
  refine E_ite (fun e => ?_) (fun e => ?_)
  · rw [if_pos e]
  · rw [if_neg e]
theorem op_read (h : CP c x m) (hc : c ≤ 1000) (hn : 10000 ≤ n) (w : Int) : SIM c (F_X11_read n w x) (F_X12_read n w m) := by
  have hw := WFs_t h.k.2
  have hk := XK_t (k := 1) h.k.1
  have h8 := hw.np
  have hr : CPr x (wr m 0 16 0) := CPr_fr h.r AG.rf (AG.rf.wr rfl)
  have b1 := ncS_bd w 2
  have b2 : -6 ≤ rnS (m 0 49) (m 0 2) ∧ rnS (m 0 49) (m 0 2) ≤ 0 := by unfold rnS; split <;> decide
  have ex : ∀ r : Int, -6 ≤ r ∧ r ≤ -1 → refS (ncS w 2) (rnS (m 0 49) (m 0 2)) 0 = r → F_X11_read n w x = some (r, rfX x r) := by
    intro r hr e
    unfold F_X11_read
    refine E_bnd (X_noChoice _ _ _ _) (E_bnd (X_rowNot h n) (E_bnd (X_ref2 h.f hc b1 b2 e (by omega)) ?_))
    rw [if_neg (by omega)]
  by_cases h2 : 0 ≤ w ∧ w ≤ 2
  · have e1 : ncS w 2 = 0 := by unfold ncS; rw [if_pos h2]
    by_cases hs : m 0 49 = m 0 2
    · have e2 : rnS (m 0 49) (m 0 2) = 0 := by unfold rnS; rw [if_pos hs]
      have hs2 : wr m 0 16 0 0 49 = wr m 0 16 0 0 2 := hs
      refine SIM_tw h ?_
      unfold F_X11_read F_X12_read
      refine TW_bx (X_noChoice _ _ _ _) (TW_bx (X_rowNot h n) (TW_bx (X_not2 (by rw [e1, e2]; rfl) b1) (TW_x (if_pos rfl) ?_)))
      refine TW_bm (M_in_t h2) (TW_m (if_neg (by decide)) (TW_m (if_pos hs2) ?_))
      have hc7 : w = 0 ∨ w = 1 ∨ w = 2 := by omega
      rcases hc7 with rfl | rfl | rfl
      · refine TW_x (if_pos rfl) (TW_x (bnd_id _) (TW_m (M_read0 hw (wr m 0 16 0 0 2).toNat 0 0 n (by omega) (by decide) (by omega)) ?_))
        exact numbers_loop hk hw hn hr hs2 24 0 1 n n (by decide) (by decide) (by decide) (by omega) (by omega)
      · refine TW_x (if_neg (by decide)) (TW_x (if_pos rfl) (TW_x (bnd_id _) ?_))
        exact halved_loop hk hw hr hs2 (wr m 0 16 0 0 2).toNat 0 0 n n (by omega) (by decide) (by omega) (by omega)
      · refine TW_x (if_neg (by decide)) (TW_x (if_neg (by decide)) (TW_x (bnd_id _) ?_))
        exact amount_loop hk hw hr hs2 (wr m 0 16 0 0 2).toNat 0 0 n n (by omega) (by decide) (by omega) (by omega)
    · have e2 : rnS (m 0 49) (m 0 2) = -3 := by unfold rnS; rw [if_neg hs]
      have hs2 : ¬ wr m 0 16 0 0 49 = wr m 0 16 0 0 2 := hs
      refine SIM_ref h (r := -3) (by decide) (ex _ (by decide) (by rw [e1, e2]; rfl)) ?_
      unfold F_X12_read
      refine E_bnd (M_in_t h2) ?_
      rw [if_neg (by decide), if_neg hs2]
      exact E_bnd (M_ref h hc (by decide)) rfl
  · have e1 : ncS w 2 = -2 := by unfold ncS; rw [if_neg h2]
    refine SIM_ref h (r := -2) (by decide) (ex _ (by decide) (by rw [e1]; rfl)) ?_
    unfold F_X12_read
    refine E_bnd (M_in_f h2) ?_
    rw [if_pos rfl]
    exact E_bnd (M_ref h hc (by decide)) rfl
end ZOP15
