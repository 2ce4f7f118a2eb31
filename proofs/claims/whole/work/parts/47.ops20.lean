/-! OPERATIONS 20: judge, weighed, heavy -/
def bt (q : Int) (i : Nat) : Int := (q / 2 ^ i) % 2 ^ 1
theorem bt_bd (q : Int) (i : Nat) : 0 ≤ bt q i ∧ bt q i ≤ 1 := by
  unfold bt
  rcases bit01 (q / 2 ^ i) with e | e <;> rw [e] <;> decide
/-- what a set of the WEIGHTS weighs; what a code does, its first five bits against the next five -/
def wB (s : ZMem) (q : Int) (i : Nat) : Int := bt q i * s 23 i
def wS (s : ZMem) (q : Int) : Int := sumS (wB s q) (s 0 41).toNat
def wgB (s : ZMem) (q : Int) (i : Nat) : Int := (bt q i - bt q (i + 5)) * s 23 i
def wgS (s : ZMem) (q : Int) : Int := sumS (wgB s q) (s 0 41).toNat
def onS (q : Int) : Int := sumS (bt q) 10
def wayS (q : Int) : Int := 1024 * onS q + q
def NW (s : ZMem) : Int := 1 * 2 ^ (s 0 41).toNat
def okS (s : ZMem) (q : Int) : Prop := zland q (q / 32) = 0 ∧ q % 32 < NW s ∧ q / 32 < NW s
theorem land32 : ∀ a, a < 32 → ∀ b, b < 32 → (a + 32 * b) &&& b = a &&& b := by decide +kernel
theorem pop32 : ∀ a, a < 32 → ∀ b, b < 32 → a &&& b = 0 → zpop (((a ||| b : Nat)) : Int) = onS ((a + 32 * b : Nat) : Int) := by decide +kernel
theorem or32 : ∀ a, a < 32 → ∀ b, b < 32 → a ||| b < 32 := by decide +kernel
theorem onS_bd (q : Int) : 0 ≤ onS q ∧ onS q ≤ 10 := by
  have := sumS_bd (f := bt q) (B := 1) (by decide) 10 (fun i _ => bt_bd q i)
  unfold onS
  omega
theorem bt_lo {a b : Int} (ha : 0 ≤ a ∧ a < 32) {i : Nat} (hi : i < 5) : bt (a + 32 * b) i = bt a i := by
  have hc : i = 0 ∨ i = 1 ∨ i = 2 ∨ i = 3 ∨ i = 4 := by omega
  unfold bt
  rcases hc with rfl | rfl | rfl | rfl | rfl <;> omega
theorem bt_hi {a b : Int} (ha : 0 ≤ a ∧ a < 32) {i : Nat} (hi : i < 5) : bt (a + 32 * b) (i + 5) = bt b i := by
  have hc : i = 0 ∨ i = 1 ∨ i = 2 ∨ i = 3 ∨ i = 4 := by omega
  unfold bt
  rcases hc with rfl | rfl | rfl | rfl | rfl
  · show (a + 32 * b) / 32 % 2 = b / 1 % 2
    omega
  · show (a + 32 * b) / 64 % 2 = b / 2 % 2
    omega
  · show (a + 32 * b) / 128 % 2 = b / 4 % 2
    omega
  · show (a + 32 * b) / 256 % 2 = b / 8 % 2
    omega
  · show (a + 32 * b) / 512 % 2 = b / 16 % 2
    omega
section ZOP20
variable {x s m y : ZMem} {c n p : Nat}
theorem judge_loop (h : XK x 1 s) (hw : WFs s) (hr : CPr x s) (hs : s 0 49 = s 0 2) : ∀ (d k q q' : Nat), (k : Int) + (d : Int) = s 0 2 → d < q → d < q' → TW x (wr s 0 49 0) (L_X2_firstNeither_2 n q (k : Int) x) (L_X12_judge_30 n q' (k : Int) (wr s 0 49 0)) := by
  intro d
  have h8 := hw.np
  have hg := hw.g
  have hw' : WFs (wr s 0 49 0) := WFs_fr hw (AG.rf.wr rfl)
  have e2 : wr s 0 49 0 0 2 = s 0 2 := rfl
  induction d with
  | zero =>
    intro k q q' h1 hq hq'
    obtain ⟨q, rfl⟩ : ∃ z, q = z + 1 := ⟨q - 1, by omega⟩
    obtain ⟨q', rfl⟩ : ∃ z, q' = z + 1 := ⟨q' - 1, by omega⟩
    show TW x (wr s 0 49 0) (B_X2_firstNeither_2 n (L_X2_firstNeither_2 n q) (k : Int) x) (B_X12_judge_30 n (L_X12_judge_30 n q') (k : Int) (wr s 0 49 0))
    unfold B_X2_firstNeither_2 B_X12_judge_30
    refine TW_bx (X_size n 2 x) ?_
    rw [h.s2, e2, if_pos (by omega), if_pos (by omega)]
    exact TW_some rfl
  | succ d ih =>
    intro k q q' h1 hq hq'
    obtain ⟨q, rfl⟩ : ∃ z, q = z + 1 := ⟨q - 1, by omega⟩
    obtain ⟨q', rfl⟩ : ∃ z, q' = z + 1 := ⟨q' - 1, by omega⟩
    have hk : (k : Int) < s 0 2 := by omega
    show TW x (wr s 0 49 0) (B_X2_firstNeither_2 n (L_X2_firstNeither_2 n q) (k : Int) x) (B_X12_judge_30 n (L_X12_judge_30 n q') (k : Int) (wr s 0 49 0))
    unfold B_X2_firstNeither_2 B_X12_judge_30 F_X2_isHalved F_X2_isAmount
    simp only [zM1, zM2, zM3, zM4, zM5, zM6, zM7, zM8, zM9, zM10, zM11, zM12, zM13, zM14, zM15, zM16, zM17, zM18, zM19, zM20, zM21, zM22, zM23, zM24, zM25, zM26, zM27, zM28, zM29, Int.toNat_natCast]
    refine TW_bx (X_size n 2 x) ?_
    rw [h.s2, e2, if_neg (by omega), if_neg (by omega), bnd_id, h.gu]
    have eM : F_X12_isTaken n (k : Int) (wr s 0 49 0 0 1) (wr s 0 49 0) = some (b01 (soB s (s 0 1) k), wr s 0 49 0) := M_isTaken hw' hk hg
    refine TW_bx (X_isSo h hw hr hs hk hg) (TW_bm eM (TW_i2 (fun e => ?_) (fun e => ?_)))
    · refine TW_cm (by omega) (TW_cm (by omega) ?_)
      have e29 : wr s 0 49 0 29 k = s 29 k := rfl
      have e4 : wr s 0 49 0 4 k = s 4 k := rfl
      by_cases e : s 4 k = s 29 k
      · refine TW_bx (E_bnd (X_p3 h hk) (E_bnd (X_rowAt hr (by omega)) (if_pos e))) ?_
        refine TW_x (if_neg (by decide)) (TW_m (if_pos (by rw [e29, e4]; exact e.symm)) ?_)
        rw [cast1]
        exact TW_cx (by omega) (TW_cm (by omega) (ih (k + 1) q q' (by omega) (by omega) (by omega)))
      · refine TW_bx (E_bnd (X_p3 h hk) (E_bnd (X_rowAt hr (by omega)) (if_neg e))) ?_
        exact TW_x (if_pos rfl) (TW_m (if_neg (by rw [e29, e4]; exact fun z => e z.symm)) (TW_some rfl))
    · rw [cast1]
      exact TW_cx (by omega) (TW_cm (by omega) (ih (k + 1) q q' (by omega) (by omega) (by omega)))
theorem op_judge (h : CP c x m) (hc : c ≤ 1000) (hn : 10000 ≤ n) : SIM c (F_X11_judge n x) (F_X12_judge n m) := by
  have hw := WFs_t h.k.2
  have hk := XK_t (k := 1) h.k.1
  have h8 := hw.np
  have hr : CPr x (wr m 0 16 0) := CPr_fr h.r AG.rf (AG.rf.wr rfl)
  have h49 : wr m 0 16 0 0 49 = m 0 49 := rfl
  have h2 : wr m 0 16 0 0 2 = m 0 2 := rfl
  unfold F_X11_judge F_X12_judge
  rw [h49, h2]
  by_cases hs : m 0 49 = m 0 2
  · have e2 : rnS (m 0 49) (m 0 2) = 0 := by unfold rnS; rw [if_pos hs]
    obtain ⟨r, e1, em⟩ := judge_loop (n := n) hk hw hr hs (wr m 0 16 0 0 2).toNat 0 n n (by omega) (by omega) (by omega)
    have er := X_reset (n := n) (v := 0) h.r.1 hn (l := 0) (by decide) (a := 0) rfl
    rw [Nat.zero_mul, rsT_0] at er
    refine ⟨r, wr x 45 3 ((0 : Nat) : Int), wr (wr m 0 16 0) 0 49 0, ?_, ?_, ?_⟩
    · refine E_bnd (X_rowNot h n) ?_
      rw [e2]
      refine E_bnd (X_noto rfl) ?_
      rw [if_pos rfl]
      exact E_bnd e1 (E_bnd er rfl)
    · rw [if_pos hs]
      exact em
    · refine ⟨CPk_fr h.k (AG.rf.wr rfl) ((AG.rf.wr rfl).wr rfl), CPi_fr h.i (AG.rf.wr rfl) ((AG.rf.wr rfl).wr rfl), CPt_fr h.t (AG.rf.wr rfl), CPl_fr h.l (AG.rf.wr rfl) ((AG.rf.wr rfl).wr rfl), ⟨TB_sz h.r.1 (wr_nk (by decide)) (wr_nk (by decide)) (by rw [wr_eq]; decide), (by rw [wr_eq, wr_eq]; rfl), fun j hj => (by rw [wr_eq] at hj; omega)⟩, CPe_fr h.e (AG.rf.wr rfl) ((AG.rf.wr rfl).wr rfl), CPf_fr h.f (AG.rf.wr rfl) ((AG.rf.wr rfl).wr rfl), CPs_fr h.s (AG.rf.wr rfl)⟩
  · have e2 : rnS (m 0 49) (m 0 2) = -3 := by unfold rnS; rw [if_neg hs]
    refine SIM_ref h (r := -3) (by decide) ?_ ?_
    · refine E_bnd (X_rowNot h n) ?_
      rw [e2]
      refine E_bnd (X_refo h.f hc (by decide) (by decide)) ?_
      rw [if_neg (by decide)]
    · rw [if_neg hs]
      exact E_bnd (M_ref h hc (by decide)) rfl
theorem NW_bd (hw : WFs s) : 1 ≤ NW s ∧ NW s ≤ 32 := by
  have h5 := hw.nw
  have hc : (s 0 41).toNat = 0 ∨ (s 0 41).toNat = 1 ∨ (s 0 41).toNat = 2 ∨ (s 0 41).toNat = 3 ∨ (s 0 41).toNat = 4 ∨ (s 0 41).toNat = 5 := by omega
  unfold NW
  rcases hc with e | e | e | e | e | e <;> rw [e] <;> decide
theorem wB_bd (hw : WFs s) (q : Int) {i : Nat} (hi : (i : Int) < s 0 41) : 0 ≤ wB s q i ∧ wB s q i ≤ 40 := by
  have h1 := hw.we i hi
  have b := bt_bd q i
  have := mul_bd (a := bt q i) (b := s 23 i) b.1 b.2 (by omega) h1.2
  unfold wB
  omega
theorem wS_bd (hw : WFs s) (q : Int) : 0 ≤ wS s q ∧ wS s q ≤ 200 := by
  have h5 := hw.nw
  have := sumS_bd (f := wB s q) (B := 40) (by decide) (s 0 41).toNat (fun i hi => wB_bd hw q (by omega))
  unfold wS
  omega
theorem wS_0 (s : ZMem) : wS s 0 = 0 := by
  unfold wS
  have : ∀ k, sumS (wB s 0) k = 0 := by
    intro k
    induction k with
    | zero => rfl
    | succ k ih =>
      show sumS (wB s 0) k + wB s 0 k = 0
      rw [ih]
      unfold wB bt
      rw [Int.zero_ediv]
      simp
  exact this _
theorem wg_split (hw : WFs s) {a b : Int} (ha : 0 ≤ a ∧ a < 32) : wgS s (a + 32 * b) = wS s a - wS s b := by
  have h5 := hw.nw
  have : ∀ k, k ≤ (s 0 41).toNat → sumS (wgB s (a + 32 * b)) k = sumS (wB s a) k - sumS (wB s b) k := by
    intro k
    induction k with
    | zero => intro _; rfl
    | succ k ih =>
      intro hk
      show sumS (wgB s (a + 32 * b)) k + wgB s (a + 32 * b) k = (sumS (wB s a) k + wB s a k) - (sumS (wB s b) k + wB s b k)
      rw [ih (by omega)]
      unfold wgB wB
      rw [bt_lo ha (by omega), bt_hi ha (by omega), Int.sub_mul]
      omega
  exact this _ (Nat.le_refl _)
theorem wg_bd (hw : WFs s) {q : Int} (hq : 0 ≤ q) : -200 ≤ wgS s q ∧ wgS s q ≤ 200 := by
  have e : q = q % 32 + 32 * (q / 32) := by omega
  rw [e, wg_split hw (by omega)]
  have := wS_bd hw (q % 32)
  have := wS_bd hw (q / 32)
  omega
theorem land_split {a b : Int} (ha : 0 ≤ a ∧ a < 32) (hb : 0 ≤ b ∧ b < 32) : zland (a + 32 * b) ((a + 32 * b) / 32) = zland a b := by
  have := land32 a.toNat (by omega) b.toNat (by omega)
  rw [show (a + 32 * b) / 32 = b by omega]
  unfold zland
  rw [show (a + 32 * b).toNat = a.toNat + 32 * b.toNat by omega, this]
theorem pop_split {a b : Int} (ha : 0 ≤ a ∧ a < 32) (hb : 0 ≤ b ∧ b < 32) (h : zland a b = 0) : zpop (zlor a b) = onS (a + 32 * b) ∧ (0 ≤ zlor a b ∧ zlor a b < 1024) := by
  have h1 : a.toNat &&& b.toNat = 0 := by unfold zland at h; omega
  have := pop32 a.toNat (by omega) b.toNat (by omega) h1
  have h2 := or32 a.toNat (by omega) b.toNat (by omega)
  unfold zlor
  rw [this, show ((a.toNat + 32 * b.toNat : Nat) : Int) = a + 32 * b by omega]
  exact ⟨rfl, by omega, by omega⟩
/-! the class's side -/
theorem X_wt (h : XK y 1 s) {i : Nat} (hi : (i : Int) < s 0 41) : F_X9_at n 10 (i : Int) 0 y = some (s 23 i, y) := by
  obtain ⟨-, -, -, -, -, ⟨t1, t2, t3⟩, -⟩ := XK_parts h
  rw [← t3 i hi]
  exact X_at0 t1 (by rw [t2]; exact hi)
theorem X_weightOf (h : XK y 1 s) (hw : WFs s) (hn : 10000 ≤ n) (q : Int) : F_X0_weightOf n q y = some (wS s q, y) := by
  have h5 := hw.nw
  refine loop_run (L := fun z (w : Int × Int × ZMem) => L_X0_weightOf_4 n z q w.1 w.2.1 w.2.2) (s 0 41).toNat (fun k => (sumS (wB s q) k, (k : Int), y)) _ ?_ ?_ n (by omega)
  · intro k z hk
    have hk2 : (k : Int) < s 0 41 := by omega
    have b0 := sumS_bd (f := wB s q) (B := 40) (by decide) k (fun i hi => wB_bd hw q (by omega))
    have b1 := hw.we k hk2
    show B_X0_weightOf_4 n (L_X0_weightOf_4 n z) q (sumS (wB s q) k) (k : Int) y = L_X0_weightOf_4 n z q (sumS (wB s q) k + wB s q k) ((k + 1 : Nat) : Int) y
    unfold B_X0_weightOf_4
    refine E_bnd (X_size n 10 y) ?_
    rw [h.s10, if_neg (by omega), Int.toNat_natCast]
    refine E_chk (by omega) ?_
    rcases bit01 (q / 2 ^ k) with e | e
    · rw [e, if_neg (by decide)]
      rw [show wB s q k = 0 by unfold wB bt; rw [e, Int.zero_mul], Int.add_zero]
      refine E_chk (by omega) ?_
      rw [cast1]
    · rw [e, if_pos rfl]
      rw [show wB s q k = s 23 k by unfold wB bt; rw [e, Int.one_mul]]
      refine E_bnd (X_wt h hk2) (E_chk (by omega) (E_chk (by omega) ?_))
      rw [cast1]
  · intro z
    show B_X0_weightOf_4 n (L_X0_weightOf_4 n z) q (sumS (wB s q) (s 0 41).toNat) ((s 0 41).toNat : Int) y = _
    unfold B_X0_weightOf_4
    refine E_bnd (X_size n 10 y) ?_
    rw [h.s10, if_pos (by omega)]
    rfl
/-- the best way for each number of ounces, of the codes P -/
def SP (s : ZMem) (P : Int → Prop) (y : ZMem) : Prop := ∀ o : Nat, o ≤ 200 → (y 61 o = -9 ∧ ∀ q, P q → okS s q → wgS s q ≠ (o : Int)) ∨ (∃ q, (0 ≤ q ∧ q < 1024) ∧ P q ∧ okS s q ∧ wgS s q = (o : Int) ∧ y 61 o = wayS q ∧ ∀ q', P q' → okS s q' → wgS s q' = (o : Int) → wayS q ≤ wayS q')
theorem SP_iff {P P' : Int → Prop} (h : SP s P y) (hP : ∀ q, P q ↔ P' q) : SP s P' y := by
  intro o ho
  rcases h o ho with ⟨a, b⟩ | ⟨q, a0, a, b, d, e, f⟩
  · exact Or.inl ⟨a, fun q hq => b q ((hP q).2 hq)⟩
  · exact Or.inr ⟨q, a0, (hP q).1 a, b, d, e, fun q' hq' => f q' ((hP q').2 hq')⟩
theorem SP_no {P : Int → Prop} (h : SP s P y) {q0 : Int} (hq : ¬ okS s q0) : SP s (fun q => P q ∨ q = q0) y := by
  intro o ho
  rcases h o ho with ⟨a, b⟩ | ⟨q, a0, a, b, d, e, f⟩
  · refine Or.inl ⟨a, fun q hq' hk => ?_⟩
    rcases hq' with hq' | rfl
    · exact b q hq' hk
    · exact absurd hk hq
  · refine Or.inr ⟨q, a0, Or.inl a, b, d, e, fun q' hq' hk => ?_⟩
    rcases hq' with hq' | rfl
    · exact f q' hq' hk
    · exact absurd hk hq
def kB (i j : Nat) : Bool := decide (i ≠ 61) && !(decide (i = 60) && decide (j = 3))
def IN (x s : ZMem) (P : Int → Prop) (y : ZMem) : Prop := AG kB x y ∧ TB y 60 201 1 ∧ y 60 3 = 201 ∧ SP s P y
theorem IN_xk {P : Int → Prop} (h : XK x 1 s) (hi : IN x s P y) : XK y 1 s := XK_fr h (fun i j h1 h2 => hi.1 i j (by simp [kB]; omega)) AG.rf
theorem X_seen (h : XK x 1 s) (hw : WFs s) (hn : 10000 ≤ n) {P : Int → Prop} (hi : IN x s P y) {a b : Int} (ha : 0 ≤ a ∧ a < NW s) (hb : 0 ≤ b ∧ b < NW s) (hz : zland a b = 0) : ∃ y', F_X0_seen n a b y = some (0, y') ∧ IN x s (fun q => P q ∨ q = a + 32 * b) y' := by
  have hk := IN_xk h hi
  have N := NW_bd hw
  obtain ⟨i1, i2, i3, i4⟩ := hi
  have wa := wS_bd hw a
  have wb := wS_bd hw b
  obtain ⟨pp, pr⟩ := pop_split (a := a) (b := b) (by omega) (by omega) hz
  have ob := onS_bd (a + 32 * b)
  have ok : okS s (a + 32 * b) := ⟨by rw [land_split (by omega) (by omega)]; exact hz, by omega, by omega⟩
  have wg := wg_split (b := b) hw (a := a) (by omega)
  unfold F_X0_seen
  rw [E_bnd (X_weightOf hk hw hn a) rfl, E_bnd (X_weightOf hk hw hn b) rfl]
  rw [chk_pos (by omega), chk_pos (by omega)]
  unfold F_J6_bitCount_0f7a4
  rw [chk_pos pr, bnd_some, pp, chk_pos (by omega), chk_pos (by omega), chk_pos (by omega), chk_pos (by omega)]
  rw [show 1024 * onS (a + 32 * b) + a + 32 * b = wayS (a + 32 * b) by unfold wayS; omega]
  by_cases hneg : wS s a - wS s b < 0
  · rw [E_bnd (X_at_out (Or.inl hneg)) rfl, if_neg (by decide), if_pos (by unfold wayS; omega)]
    refine ⟨y, rfl, i1, i2, i3, fun o ho => ?_⟩
    rcases i4 o ho with ⟨a1, b1⟩ | ⟨q, a0, a1, b1, d, e, f⟩
    · refine Or.inl ⟨a1, fun q hq' hk => ?_⟩
      rcases hq' with hq' | rfl
      · exact b1 q hq' hk
      · omega
    · refine Or.inr ⟨q, a0, Or.inl a1, b1, d, e, fun q' hq' hk hg => ?_⟩
      rcases hq' with hq' | rfl
      · exact f q' hq' hk hg
      · omega
  · obtain ⟨o, ho⟩ : ∃ o : Nat, wS s a - wS s b = (o : Int) := ⟨(wS s a - wS s b).toNat, by omega⟩
    rw [ho, E_bnd (X_at0 (i := o) i2 (by omega)) rfl, E_bnd (X_put0 (i := o) i2 (by omega)) rfl]
    have put : ∀ (hbest : ∀ q', P q' → okS s q' → wgS s q' = (o : Int) → wayS (a + 32 * b) ≤ wayS q'), IN x s (fun q => P q ∨ q = a + 32 * b) (wr y 61 o (wayS (a + 32 * b))) := by
      intro hbest
      refine ⟨i1.wr rfl, TB_fr i2 (wr_nr (by decide)) (wr_nr (by decide)) (wr_nr (by decide)), by rw [wr_nr (by decide)]; exact i3, fun o' ho' => ?_⟩
      by_cases e : o' = o
      · subst e
        refine Or.inr ⟨a + 32 * b, by omega, Or.inr rfl, ok, by omega, by rw [wr_eq], fun q' hq' hk hg => ?_⟩
        rcases hq' with hq' | rfl
        · exact hbest q' hq' hk hg
        · exact Int.le_refl _
      · rw [wr_nk e]
        rcases i4 o' ho' with ⟨a1, b1⟩ | ⟨q, a0, a1, b1, d, e, f⟩
        · refine Or.inl ⟨a1, fun q hq' hk => ?_⟩
          rcases hq' with hq' | rfl
          · exact b1 q hq' hk
          · omega
        · refine Or.inr ⟨q, a0, Or.inl a1, b1, d, e, fun q' hq' hk hg => ?_⟩
          rcases hq' with hq' | rfl
          · exact f q' hq' hk hg
          · omega
    have hP := i4 o (by omega)
    show ∃ y', (if y 61 o = -9 then some (0, wr y 61 o (wayS (a + 32 * b))) else if y 61 o ≤ wayS (a + 32 * b) then some (0, y) else some (0, wr y 61 o (wayS (a + 32 * b)))) = some (0, y') ∧ IN x s (fun q => P q ∨ q = a + 32 * b) y'
    by_cases e9 : y 61 o = -9
    · rw [if_pos e9]
      refine ⟨_, rfl, put fun q' hq' hk hg => ?_⟩
      rcases hP with ⟨a1, b1⟩ | ⟨q, a0, a1, b1, d, e, f⟩
      · exact absurd hg (b1 q' hq' hk)
      · have := onS_bd q
        unfold wayS at e
        omega
    · rw [if_neg e9]
      rcases hP with ⟨a1, b1⟩ | ⟨q, a0, a1, b1, d, e, f⟩
      · exact absurd a1 e9
      · by_cases le : y 61 o ≤ wayS (a + 32 * b)
        · rw [if_pos le]
          refine ⟨y, rfl, i1, i2, i3, fun o' ho' => ?_⟩
          by_cases eo : o' = o
          · subst eo
            refine Or.inr ⟨q, a0, Or.inl a1, b1, d, e, fun q' hq' hk hg => ?_⟩
            rcases hq' with hq' | rfl
            · exact f q' hq' hk hg
            · omega
          · rcases i4 o' ho' with ⟨a1, b1⟩ | ⟨q, a0, a1, b1, d, e, f⟩
            · refine Or.inl ⟨a1, fun q hq' hk => ?_⟩
              rcases hq' with hq' | rfl
              · exact b1 q hq' hk
              · omega
            · refine Or.inr ⟨q, a0, Or.inl a1, b1, d, e, fun q' hq' hk hg => ?_⟩
              rcases hq' with hq' | rfl
              · exact f q' hq' hk hg
              · omega
        · rw [if_neg le]
          refine ⟨_, rfl, put fun q' hq' hk hg => ?_⟩
          have := f q' hq' hk hg
          omega
def PP (s : ZMem) (a b q : Int) : Prop := (0 ≤ q ∧ q < 1024) ∧ 1 ≤ q % 32 ∧ q / 32 < NW s ∧ (q % 32 < a ∨ (q % 32 = a ∧ q / 32 < b))
def RSK (x s : ZMem) (o : ZR) : Prop := ∃ y, o = some (0, y) ∧ IN x s (PP s (NW s) 0) y
theorem IN_iff {P P' : Int → Prop} (h : IN x s P y) (hP : ∀ q, P q ↔ P' q) : IN x s P' y := ⟨h.1, h.2.1, h.2.2.1, SP_iff h.2.2.2 hP⟩
theorem PP_step {a b : Int} (hN : NW s ≤ 32) (ha : 1 ≤ a ∧ a < NW s) (hb : 0 ≤ b ∧ b < NW s) (q : Int) : (PP s a b q ∨ q = a + 32 * b) ↔ PP s a (b + 1) q := by
  unfold PP
  omega
theorem sk_in (h : XK x 1 s) (hw : WFs s) (hn : 10000 ≤ n) {a : Int} (ha : 1 ≤ a ∧ a < NW s) (r : Int → Int → ZMem → ZR) (hc : ∀ y, IN x s (PP s (a + 1) 0) y → RSK x s (r (NW s) (a + 1) y)) : ∀ (d : Nat) (b : Int) (y : ZMem) (q : Nat), b + (d : Int) = NW s → 0 ≤ b → IN x s (PP s a b) y → d < q → RSK x s (L_X0_seekAll_29 n r q (NW s) a b y) := by
  intro d
  have N := NW_bd hw
  induction d with
  | zero =>
    intro b y q h1 h2 hi hq
    obtain ⟨q, rfl⟩ : ∃ z, q = z + 1 := ⟨q - 1, by omega⟩
    show RSK x s (B_X0_seekAll_29 n r (L_X0_seekAll_29 n r q) (NW s) a b y)
    unfold B_X0_seekAll_29
    rw [if_pos (by omega), chk_pos (by omega)]
    exact hc y (IN_iff hi fun q => by unfold PP; omega)
  | succ d ih =>
    intro b y q h1 h2 hi hq
    obtain ⟨q, rfl⟩ : ∃ z, q = z + 1 := ⟨q - 1, by omega⟩
    show RSK x s (B_X0_seekAll_29 n r (L_X0_seekAll_29 n r q) (NW s) a b y)
    unfold B_X0_seekAll_29
    rw [if_neg (by omega), chk_pos (by omega)]
    by_cases hz : zland a b = 0
    · rw [if_pos hz]
      obtain ⟨y', e, hi'⟩ := X_seen h hw hn hi (a := a) (b := b) (by omega) (by omega) hz
      rw [E_bnd e rfl, chk_pos (by omega)]
      exact ih (b + 1) y' q (by omega) (by omega) (IN_iff hi' (PP_step N.2 ha (by omega))) (by omega)
    · rw [if_neg hz, chk_pos (by omega)]
      refine ih (b + 1) y q (by omega) (by omega) (IN_iff ⟨hi.1, hi.2.1, hi.2.2.1, SP_no hi.2.2.2 (q0 := a + 32 * b) ?_⟩ (PP_step N.2 ha (by omega))) (by omega)
      rintro ⟨z, -⟩
      rw [land_split (by omega) (by omega)] at z
      exact hz z
theorem sk_out (h : XK x 1 s) (hw : WFs s) (hn : 10000 ≤ n) : ∀ (d : Nat) (a : Int) (y : ZMem) (q : Nat), a + (d : Int) = NW s → 1 ≤ a → IN x s (PP s a 0) y → d < q → RSK x s (L_X0_seekAll_21 n q (NW s) a y) := by
  intro d
  have N := NW_bd hw
  induction d with
  | zero =>
    intro a y q h1 h2 hi hq
    obtain ⟨q, rfl⟩ : ∃ z, q = z + 1 := ⟨q - 1, by omega⟩
    show RSK x s (B_X0_seekAll_21 n (L_X0_seekAll_21 n q) (NW s) a y)
    unfold B_X0_seekAll_21
    rw [if_pos (by omega)]
    have e : a = NW s := by omega
    subst e
    exact ⟨y, rfl, hi⟩
  | succ d ih =>
    intro a y q h1 h2 hi hq
    obtain ⟨q, rfl⟩ : ∃ z, q = z + 1 := ⟨q - 1, by omega⟩
    show RSK x s (B_X0_seekAll_21 n (L_X0_seekAll_21 n q) (NW s) a y)
    unfold B_X0_seekAll_21
    rw [if_neg (by omega)]
    exact sk_in h hw hn (by omega) _ (fun y' hi' => ih (a + 1) y' q (by omega) (by omega) hi' (by omega)) (NW s).toNat 0 y n (by omega) (by decide) hi (by omega)
theorem X_seekAll (h : XK x 1 s) (hw : WFs s) (hT : TB x 60 201 1) (hn : 10000 ≤ n) : RSK x s (F_X0_seekAll n x) := by
  have N := NW_bd hw
  have h5 := hw.nw
  unfold F_X0_seekAll
  rw [E_bnd (X_reset (n := n) (v := -9) hT hn (l := 201) (by decide) (a := 201) rfl) rfl]
  have kp : AG kB x (rsT (wr x 60 3 ((201 : Nat) : Int)) 60 (-9) (201 * 1)) := (AG.rf.wr rfl).rs (fun _ => rfl)
  have i0 : IN x s (PP s 1 0) (rsT (wr x 60 3 ((201 : Nat) : Int)) 60 (-9) (201 * 1)) := by
    refine ⟨kp, ?_, ?_, fun o ho => Or.inl ⟨?_, fun q hq => ?_⟩⟩
    · exact TB_sz hT (by rw [rsT_t, wr_nk (by decide)]) (by rw [rsT_t, wr_nk (by decide)]) (by rw [rsT_t, wr_eq]; decide)
    · rw [rsT_t, wr_eq]
      rfl
    · show (if 61 = 60 + 1 ∧ o < 201 * 1 then _ else _) = _
      rw [if_pos ⟨rfl, by omega⟩]
    · unfold PP at hq
      omega
  have hk := IN_xk h i0
  rw [E_bnd (X_size n 10 _) rfl, hk.s10, chk_pos (by omega)]
  have e : (1 : Int) * 2 ^ (s 0 41).toNat = NW s := rfl
  rw [e, chk_pos (by omega)]
  exact sk_out h hw hn (NW s - 1).toNat 1 _ n (by omega) (by decide) i0 (by omega)
/-! the reference's side -/
theorem M_onesOf (hn : 10000 ≤ n) (q : Int) : F_X12_onesOf n q s = some (onS q, s) := by
  refine loop_run (L := fun z (w : Int × Int × ZMem) => L_X12_onesOf_4 n z q w.1 w.2.1 w.2.2) 10 (fun k => (sumS (bt q) k, (k : Int), s)) _ ?_ ?_ n (by omega)
  · intro k z hk
    have b0 := sumS_bd (f := bt q) (B := 1) (by decide) k (fun i hi => bt_bd q i)
    have b1 := bt_bd q k
    unfold bt at b1
    show B_X12_onesOf_4 n (L_X12_onesOf_4 n z) q (sumS (bt q) k) (k : Int) s = L_X12_onesOf_4 n z q (sumS (bt q) k + bt q k) ((k + 1 : Nat) : Int) s
    unfold B_X12_onesOf_4
    rw [if_neg (by omega), Int.toNat_natCast]
    refine E_chk (by omega) (E_chk (by omega) (E_chk (by omega) ?_))
    rw [cast1]
    rfl
  · intro z
    show B_X12_onesOf_4 n (L_X12_onesOf_4 n z) q (sumS (bt q) 10) ((10 : Nat) : Int) s = _
    unfold B_X12_onesOf_4
    rw [if_pos (by decide)]
    rfl
theorem wgB_bd (hw : WFs s) (q : Int) {i : Nat} (hi : (i : Int) < s 0 41) : -40 ≤ wgB s q i ∧ wgB s q i ≤ 40 := by
  have h1 := hw.we i hi
  have b := bt_bd q i
  have b2 := bt_bd q (i + 5)
  have m1 := mul_bd (a := bt q i) (b := s 23 i) b.1 b.2 (by omega) h1.2
  have m2 := mul_bd (a := bt q (i + 5)) (b := s 23 i) b2.1 b2.2 (by omega) h1.2
  unfold wgB
  rw [Int.sub_mul]
  omega
theorem M_weighedBy (hw : WFs s) (hn : 10000 ≤ n) (q : Int) : F_X12_weighedBy n q s = some (wgS s q, s) := by
  have h5 := hw.nw
  refine loop_run (L := fun z (w : Int × Int × ZMem) => L_X12_weighedBy_4 n z q w.1 w.2.1 w.2.2) (s 0 41).toNat (fun k => (sumS (wgB s q) k, (k : Int), s)) _ ?_ ?_ n (by omega)
  · intro k z hk
    have hk2 : (k : Int) < s 0 41 := by omega
    have b0 := sumS_bd2 (f := wgB s q) (B := 40) (by decide) k (fun i hi => wgB_bd hw q (by omega))
    have b1 := bt_bd q k
    have b2 := bt_bd q (k + 5)
    have b3 := wgB_bd hw q hk2
    unfold bt at b1 b2
    unfold wgB bt at b3
    show B_X12_weighedBy_4 n (L_X12_weighedBy_4 n z) q (sumS (wgB s q) k) (k : Int) s = L_X12_weighedBy_4 n z q (sumS (wgB s q) k + wgB s q k) ((k + 1 : Nat) : Int) s
    unfold B_X12_weighedBy_4
    simp only [zM1, zM2, zM3, zM4, zM5, zM6, zM7, zM8, zM9, zM10, zM11, zM12, zM13, zM14, zM15, zM16, zM17, zM18, zM19, zM20, zM21, zM22, zM23, zM24, zM25, zM26, zM27, zM28, zM29, Int.toNat_natCast, show ((k : Int) + 5).toNat = k + 5 by omega]
    rw [if_neg (by omega)]
    refine E_chk (by omega) (E_chk (by omega) (E_chk (by omega) (E_chk (by omega) (E_chk (by omega) (E_chk (by omega) (E_chk (by omega) (E_chk (by omega) ?_)))))))
    rw [cast1]
    rfl
  · intro z
    show B_X12_weighedBy_4 n (L_X12_weighedBy_4 n z) q (sumS (wgB s q) (s 0 41).toNat) ((s 0 41).toNat : Int) s = _
    unfold B_X12_weighedBy_4
    rw [if_pos (by omega)]
    rfl
/-- the best code for o of those below k -/
def BK (s : ZMem) (o k b : Int) : Prop := (b = -9 ∧ ∀ q, 0 ≤ q ∧ q < k → okS s q → wgS s q ≠ o) ∨ ((0 ≤ b ∧ b < k) ∧ okS s b ∧ wgS s b = o ∧ ∀ q, 0 ≤ q ∧ q < k → okS s q → wgS s q = o → wayS b ≤ wayS q)
theorem M_how5 (hw : WFs s) (hn : 10000 ≤ n) (r5 : Int → Int → Int → ZMem → ZR) {o b k : Int} (hk : 0 ≤ k ∧ k < 1024) (hb : -9 ≤ b ∧ b < 1024) : ∃ e1 e2 : Int, B_X12_weighHow_5 n r5 o b k s = B_X12_weighHow_72 n r5 o b k e1 e2 s ∧ ((e1 ≠ 0) ↔ okS s k) ∧ ((e2 ≠ 0) ↔ (b < 0 ∨ onS k < onS b)) := by
  have N := NW_bd hw
  have h5 := hw.nw
  have e5 : (5 : Int).toNat = 5 := rfl
  have eN : (1 : Int) * 2 ^ (s 0 41).toNat = NW s := rfl
  have e32 : (2 : Int) ^ 5 = 32 := rfl
  have inner : ∀ e1 : Int, ∃ e2 : Int, (if b < 0 then B_X12_weighHow_72 n r5 o b k e1 1 s else bnd (F_X12_onesOf n k s) (fun v10 m11 => bnd (F_X12_onesOf n b m11) (fun v14 m15 => if (v14 : Int) ≤ (v10 : Int) then (B_X12_weighHow_72 n r5 o b k e1 0 m15) else (B_X12_weighHow_72 n r5 o b k e1 1 m15)))) = B_X12_weighHow_72 n r5 o b k e1 e2 s ∧ ((e2 ≠ 0) ↔ (b < 0 ∨ onS k < onS b)) := by
    intro e1
    by_cases c1 : b < 0
    · exact ⟨1, by rw [if_pos c1], by omega⟩
    · rw [if_neg c1, E_bnd (M_onesOf hn k) rfl, E_bnd (M_onesOf hn b) rfl]
      by_cases c2 : onS b ≤ onS k
      · exact ⟨0, by rw [if_pos c2], by omega⟩
      · exact ⟨1, by rw [if_neg c2], by omega⟩
  unfold B_X12_weighHow_5
  rw [e5, e32, eN, if_neg (by omega), chk_pos (by decide), chk_pos (by omega)]
  by_cases c1 : zland k (k / 32) = 0
  · rw [if_pos c1, chk_pos (by omega), chk_pos (by omega)]
    by_cases c2 : NW s ≤ k % 32
    · rw [if_pos c2]
      obtain ⟨e2, a, d⟩ := inner 0
      exact ⟨0, e2, a, ⟨fun z => absurd rfl z, fun z => by have := z.2.1; omega⟩, d⟩
    · rw [if_neg c2, chk_pos (by decide), chk_pos (by omega), chk_pos (by omega)]
      by_cases c3 : NW s ≤ k / 32
      · rw [if_pos c3]
        obtain ⟨e2, a, d⟩ := inner 0
        exact ⟨0, e2, a, ⟨fun z => absurd rfl z, fun z => by have := z.2.2; omega⟩, d⟩
      · rw [if_neg c3]
        obtain ⟨e2, a, d⟩ := inner 1
        exact ⟨1, e2, a, ⟨fun _ => ⟨c1, by omega, by omega⟩, fun _ => by decide⟩, d⟩
  · rw [if_neg c1]
    obtain ⟨e2, a, d⟩ := inner 0
    exact ⟨0, e2, a, ⟨fun z => absurd rfl z, fun z => absurd z.1 c1⟩, d⟩
theorem M_how_loop (hw : WFs s) (hn : 10000 ≤ n) (o : Int) : ∀ (d : Nat) (b k : Int) (q : Nat), k + (d : Int) = 1024 → 0 ≤ k → BK s o k b → d < q → ∃ b', L_X12_weighHow_5 n q o b k s = some (b', s) ∧ BK s o 1024 b' := by
  intro d
  induction d with
  | zero =>
    intro b k q h1 h2 hi hq
    obtain ⟨q, rfl⟩ : ∃ z, q = z + 1 := ⟨q - 1, by omega⟩
    have e : k = 1024 := by omega
    subst e
    refine ⟨b, ?_, hi⟩
    show B_X12_weighHow_5 n (L_X12_weighHow_5 n q) o b 1024 s = _
    unfold B_X12_weighHow_5
    rw [if_pos (by decide)]
  | succ d ih =>
    intro b k q h1 h2 hi hq
    obtain ⟨q, rfl⟩ : ∃ z, q = z + 1 := ⟨q - 1, by omega⟩
    have hbd : -9 ≤ b ∧ b < 1024 := by rcases hi with ⟨e, -⟩ | ⟨e, -⟩ <;> omega
    obtain ⟨e1, e2, eB, ok, bet⟩ := M_how5 hw hn (L_X12_weighHow_5 n q) (o := o) (b := b) (k := k) (by omega) hbd
    show ∃ b', B_X12_weighHow_5 n (L_X12_weighHow_5 n q) o b k s = some (b', s) ∧ BK s o 1024 b'
    rw [eB]
    unfold B_X12_weighHow_72
    have skip : (okS s k → wgS s k = o → ¬ (b < 0 ∨ onS k < onS b)) → ∃ b', chk (R32 (k + 1)) (L_X12_weighHow_5 n q o b (k + 1) s) = some (b', s) ∧ BK s o 1024 b' := by
      intro hz
      rw [chk_pos (by omega)]
      refine ih b (k + 1) q (by omega) (by omega) ?_ (by omega)
      rcases hi with ⟨a, f⟩ | ⟨a, f, g, g2⟩
      · refine Or.inl ⟨a, fun q hq hk hg => ?_⟩
        by_cases e : q = k
        · subst e
          exact hz hk hg (Or.inl (by omega))
        · exact f q (by omega) hk hg
      · refine Or.inr ⟨by omega, f, g, fun q hq hk hg => ?_⟩
        by_cases e : q = k
        · subst e
          have := hz hk hg
          unfold wayS
          omega
        · exact g2 q (by omega) hk hg
    by_cases c1 : e1 = 0
    · rw [if_pos c1]
      exact skip fun z => absurd c1 (ok.2 z)
    · rw [if_neg c1]
      by_cases c2 : e2 = 0
      · rw [if_pos c2]
        exact skip fun _ _ z => absurd c2 (bet.2 z)
      · rw [if_neg c2, E_bnd (M_weighedBy hw hn k) rfl]
        by_cases c3 : wgS s k = o
        · rw [if_pos c3, chk_pos (by omega)]
          refine ih k (k + 1) q (by omega) (by omega) (Or.inr ⟨by omega, ok.1 c1, c3, fun q hq hk hg => ?_⟩) (by omega)
          by_cases e : q = k
          · subst e
            exact Int.le_refl _
          · rcases hi with ⟨a, f⟩ | ⟨a, f, g, g2⟩
            · exact absurd hg (f q (by omega) hk)
            · have h3 := g2 q (by omega) hk hg
              have h4 := bet.1 c2
              unfold wayS at h3 ⊢
              omega
        · rw [if_neg c3]
          exact skip fun _ z => absurd z c3
theorem M_how (hw : WFs s) (hn : 10000 ≤ n) (o : Int) : ∃ b', F_X12_weighHow n o s = some (b', s) ∧ BK s o 1024 b' :=
  M_how_loop hw hn o 1024 (-9) 0 n (by decide) (by decide) (Or.inl ⟨rfl, fun q hq => by omega⟩) (by omega)
/-- what the table tells of o, and what the codes do -/
theorem cell_best (hw : WFs s) (hS : SP s (PP s (NW s) 0) y) {o : Nat} (ho : 1 ≤ o ∧ o ≤ 200) {b : Int} (hb : BK s o 1024 b) : (b = -9 ∧ y 61 o = -9) ∨ ((0 ≤ b ∧ b < 1024) ∧ y 61 o = wayS b) := by
  have N := NW_bd hw
  have pp : ∀ q, 0 ≤ q ∧ q < 1024 → okS s q → wgS s q = (o : Int) → PP s (NW s) 0 q := by
    intro q hq hk hg
    have h3 := hk.2
    refine ⟨hq, ?_, h3.2, Or.inl h3.1⟩
    by_cases z : q % 32 = 0
    · have e : q = q % 32 + 32 * (q / 32) := by omega
      have w := wg_split (b := q / 32) hw (a := q % 32) (by omega)
      rw [← e, z, wS_0] at w
      have := wS_bd hw (q / 32)
      omega
    · omega
  rcases hS o ho.2 with ⟨a1, b1⟩ | ⟨q, a0, a1, b1, d, e, f⟩
  · rcases hb with ⟨a2, -⟩ | ⟨a2, b2, d2, -⟩
    · exact Or.inl ⟨a2, a1⟩
    · exact absurd d2 (b1 b (pp b a2 b2 d2) b2)
  · rcases hb with ⟨-, b2⟩ | ⟨a2, b2, d2, f2⟩
    · exact absurd d (b2 q a0 b1)
    · have h1 := f b (pp b a2 b2 d2) b2 d2
      have h2 := f2 q a0 b1 d
      exact Or.inr ⟨a2, by omega⟩
theorem op_weighed (h : CP c x m) (hc : c ≤ 1000) (hn : 10000 ≤ n) (a w : Int) : SIM c (F_X11_weighed n a w x) (F_X12_weighed n a w m) := by
  have hw := WFs_t h.k.2
  have hk := XK_t (k := 1) h.k.1
  have b1 := outS_bd 1 200 a
  have b2 := ncS_bd w 1
  have ew : F_X12_wrongNumber n a 1 200 (wr m 0 16 0) = some (outS 1 200 a, wr m 0 16 0) := M_wrong _ _ _ _ _
  have ex : ∀ r : Int, -6 ≤ r ∧ r ≤ -1 → refS (outS 1 200 a) (ncS w 1) 0 = r → F_X11_weighed n a w x = some (r, rfX x r) := by
    intro r hr e
    unfold F_X11_weighed
    refine E_bnd (X_outside _ _ _ _ _) (E_bnd (X_noChoice _ _ _ _) (E_bnd (X_ref2 h.f hc b1 b2 e (by omega)) ?_))
    rw [if_neg (by omega)]
  by_cases h0 : outS 1 200 a = 0
  · have ho := outS_0 h0
    by_cases h2 : 0 ≤ w ∧ w ≤ 1
    · have e2 : ncS w 1 = 0 := by unfold ncS; rw [if_pos h2]
      obtain ⟨o, rfl⟩ : ∃ o : Nat, a = (o : Int) := ⟨a.toNat, by omega⟩
      obtain ⟨y, ey, i1, i2, i3, i4⟩ := X_seekAll (n := n) hk hw h.s.2.2.2.2.1 hn
      obtain ⟨b, eb, hb⟩ := M_how (n := n) hw hn (o : Int)
      have cb := cell_best hw i4 (o := o) (by omega) hb
      have hcp : CP (c + 1) y (wr m 0 16 0) := CP_same h (i1.sub (by intro i j hij; simp only [kXa, kXl, kXr, kXe, kXf, kXt, kB, Bool.or_eq_true, Bool.and_eq_true, decide_eq_true_eq, Bool.not_eq_true', Bool.and_eq_false_iff, decide_eq_false_iff_not] at hij ⊢; omega)) (by
        obtain ⟨t1, t2, t3, t4, t5, t6⟩ := h.s
        exact ⟨TB_fr t1 (i1 _ _ rfl) (i1 _ _ rfl) (i1 _ _ rfl), TB_fr t2 (i1 _ _ rfl) (i1 _ _ rfl) (i1 _ _ rfl), TB_fr t3 (i1 _ _ rfl) (i1 _ _ rfl) (i1 _ _ rfl), TB_fr t4 (i1 _ _ rfl) (i1 _ _ rfl) (i1 _ _ rfl), i2, TB_fr t6 (i1 _ _ rfl) (i1 _ _ rfl) (i1 _ _ rfl)⟩) (AG.rf.wr rfl)
      have eX : F_X11_weighed n (o : Int) w x = bnd (if y 61 o = -9 then some (-9, y) else if w = 0 then chk (0 ≤ y 61 o ∧ (0 : Int) < 1024) (some (y 61 o / 1024, y)) else chk (0 ≤ y 61 o ∧ (0 : Int) < 1024) (some (y 61 o % 1024, y))) (fun v m => some (v, m)) := by
        unfold F_X11_weighed
        refine E_bnd (X_outside _ _ _ _ _) (E_bnd (X_noChoice _ _ _ _) (E_bnd (X_not2 (by rw [h0, e2]; rfl) b1) ?_))
        rw [if_pos rfl]
        unfold F_X0_weighing
        rw [E_bnd ey rfl, E_bnd (X_at0 (i := o) i2 (by omega)) rfl]
      have eM : F_X12_weighed n (o : Int) w m = if w = 0 then (if b < 0 then some (b, wr m 0 16 0) else some (onS b, wr m 0 16 0)) else some (b, wr m 0 16 0) := by
        unfold F_X12_weighed
        refine E_bnd ew ?_
        rw [if_pos h0]
        refine E_bnd (M_in_t h2) ?_
        rw [if_neg (by decide), h0, if_pos (by decide)]
        refine E_bnd eb ?_
        rw [E_bnd (M_onesOf hn b) rfl]
      rw [eX, eM, bnd_id]
      rcases cb with ⟨c1, c2⟩ | ⟨c1, c2⟩
      · rw [if_pos c2, c1]
        refine ⟨-9, y, wr m 0 16 0, rfl, ?_, hcp⟩
        by_cases w0 : w = 0
        · rw [if_pos w0, if_pos (by decide)]
        · rw [if_neg w0]
      · have ob := onS_bd b
        have cw : wayS b = 1024 * onS b + b := rfl
        have n9 : ¬ wayS b = -9 := by omega
        have nb : ¬ b < 0 := by omega
        rw [c2, if_neg n9, if_neg nb]
        by_cases w0 : w = 0
        · rw [if_pos w0, if_pos w0, chk_pos ⟨by omega, by decide⟩]
          exact ⟨onS b, y, wr m 0 16 0, E_some (by omega) rfl, rfl, hcp⟩
        · rw [if_neg w0, if_neg w0, chk_pos ⟨by omega, by decide⟩]
          exact ⟨b, y, wr m 0 16 0, E_some (by omega) rfl, rfl, hcp⟩
    · have e2 : ncS w 1 = -2 := by unfold ncS; rw [if_neg h2]
      refine SIM_ref h (r := -2) (by decide) (ex _ (by decide) (by rw [h0, e2]; rfl)) ?_
      unfold F_X12_weighed
      refine E_bnd ew ?_
      rw [if_pos h0]
      refine E_bnd (M_in_f h2) ?_
      rw [if_pos rfl]
      exact E_bnd (M_ref h hc (by decide)) rfl
  · refine SIM_ref h (r := outS 1 200 a) (by omega) (ex _ (by omega) (by unfold refS; rw [if_neg h0])) ?_
    unfold F_X12_weighed
    refine E_bnd ew ?_
    rw [if_neg h0, if_neg (by omega)]
    exact E_bnd (M_ref h hc (by omega)) rfl
/-! heavy -/
def kH (i _ : Nat) : Bool := decide (i ≠ 24)
theorem wg_ag {s' : ZMem} (h : AG kH s s') (q : Int) : wgS s' q = wgS s q := by
  have e : wgB s' q = wgB s q := by
    funext i
    unfold wgB
    rw [h 23 i rfl]
  unfold wgS
  rw [h 0 41 rfl, e]
theorem NW_ag {s' : ZMem} (h : AG kH s s') : NW s' = NW s := by
  unfold NW
  rw [h 0 41 rfl]
theorem WFs_ag {s' : ZMem} (hw : WFs s) (h : AG kH s s') : WFs s' := WFs_fr hw (h.sub (by
  intro i j hij
  simp only [kMk, kH, decide_eq_true_eq] at hij ⊢
  rintro rfl
  simp at hij))
def HM (s : ZMem) (k : Int) (m' : ZMem) : Prop := AG kH s m' ∧ ∀ o : Nat, 1 ≤ o → o ≤ 200 → (m' 24 o ≠ 0 ↔ ∃ q, (0 ≤ q ∧ q < k) ∧ okS s q ∧ wgS s q = (o : Int))
theorem HM_skip {k : Int} {m' : ZMem} (h : HM s k m') (hk : 0 ≤ k) (hz : okS s k → ¬ (1 ≤ wgS s k ∧ wgS s k ≤ 200)) : HM s (k + 1) m' := by
  refine ⟨h.1, fun o h1 h2 => ?_⟩
  rw [h.2 o h1 h2]
  constructor
  · rintro ⟨q, a, b⟩
    exact ⟨q, by omega, b⟩
  · rintro ⟨q, a, b, d⟩
    by_cases e : q = k
    · subst e
      exact absurd (show 1 ≤ wgS s q ∧ wgS s q ≤ 200 by omega) (hz b)
    · exact ⟨q, by omega, b, d⟩
theorem heavy_main (hw : WFs s) (hn : 10000 ≤ n) : ∀ (d : Nat) (k : Int) (m1 : ZMem) (q : Nat), k + (d : Int) = 1024 → 0 ≤ k → HM s k m1 → d < q → ∃ m', L_X12_heavy_29 n q k m1 = L_X12_heavy_114 n n 0 1 m' ∧ HM s 1024 m' := by
  intro d
  have N := NW_bd hw
  have h5 := hw.nw
  induction d with
  | zero =>
    intro k m1 q h1 h2 hi hq
    obtain ⟨q, rfl⟩ : ∃ z, q = z + 1 := ⟨q - 1, by omega⟩
    have e : k = 1024 := by omega
    subst e
    refine ⟨m1, ?_, hi⟩
    show B_X12_heavy_29 n (L_X12_heavy_29 n q) 1024 m1 = _
    unfold B_X12_heavy_29
    rw [if_pos (by decide)]
  | succ d ih =>
    intro k m1 q h1 h2 hi hq
    obtain ⟨q, rfl⟩ : ∃ z, q = z + 1 := ⟨q - 1, by omega⟩
    have hw1 := WFs_ag hw hi.1
    have e41 : m1 0 41 = s 0 41 := hi.1 0 41 rfl
    have eN : (1 : Int) * 2 ^ (m1 0 41).toNat = NW s := NW_ag hi.1
    have e5 : (5 : Int).toNat = 5 := rfl
    have e32 : (2 : Int) ^ 5 = 32 := rfl
    show ∃ m', B_X12_heavy_29 n (L_X12_heavy_29 n q) k m1 = L_X12_heavy_114 n n 0 1 m' ∧ HM s 1024 m'
    have eB : ∃ e1 : Int, B_X12_heavy_29 n (L_X12_heavy_29 n q) k m1 = B_X12_heavy_74 n (L_X12_heavy_29 n q) k e1 m1 ∧ ((e1 ≠ 0) ↔ okS s k) := by
      unfold B_X12_heavy_29
      rw [e5, e32, eN, e41, if_neg (by omega), chk_pos (by decide), chk_pos (by omega)]
      by_cases c1 : zland k (k / 32) = 0
      · rw [if_pos c1, chk_pos (by omega), chk_pos (by omega)]
        by_cases c2 : NW s ≤ k % 32
        · rw [if_pos c2]
          exact ⟨0, rfl, ⟨fun z => absurd rfl z, fun z => by have := z.2.1; omega⟩⟩
        · rw [if_neg c2, chk_pos (by decide), chk_pos (by omega), chk_pos (by omega)]
          by_cases c3 : NW s ≤ k / 32
          · rw [if_pos c3]
            exact ⟨0, rfl, ⟨fun z => absurd rfl z, fun z => by have := z.2.2; omega⟩⟩
          · rw [if_neg c3]
            exact ⟨1, rfl, ⟨fun _ => ⟨c1, by omega, by omega⟩, fun _ => by decide⟩⟩
      · rw [if_neg c1]
        exact ⟨0, rfl, ⟨fun z => absurd rfl z, fun z => absurd z.1 c1⟩⟩
    obtain ⟨e1, eq, ok⟩ := eB
    rw [eq]
    unfold B_X12_heavy_74
    rw [E_bnd (M_weighedBy hw1 hn k) rfl, wg_ag hi.1]
    by_cases c1 : e1 = 0
    · rw [if_pos c1, chk_pos (by omega)]
      exact ih (k + 1) m1 q (by omega) (by omega) (HM_skip hi h2 fun z => absurd c1 (ok.2 z)) (by omega)
    · rw [if_neg c1]
      by_cases c2 : 1 ≤ wgS s k ∧ wgS s k ≤ 200
      · rw [E_bnd (M_in_t c2) rfl, if_neg (by decide), zM24, chk_pos (by omega), chk_pos (by omega)]
        refine ih (k + 1) _ q (by omega) (by omega) ⟨hi.1.wr rfl, fun o h3 h4 => ?_⟩ (by omega)
        by_cases e : o = (wgS s k).toNat
        · subst e
          rw [wr_eq]
          exact ⟨fun _ => ⟨k, by omega, ok.1 c1, by omega⟩, fun _ => by decide⟩
        · rw [wr_nk e, hi.2 o h3 h4]
          constructor
          · rintro ⟨q, a, b⟩
            exact ⟨q, by omega, b⟩
          · rintro ⟨q, a, b, d⟩
            by_cases e2 : q = k
            · subst e2
              omega
            · exact ⟨q, by omega, b, d⟩
      · rw [E_bnd (M_in_f c2) rfl, if_pos rfl, chk_pos (by omega)]
        exact ih (k + 1) m1 q (by omega) (by omega) (HM_skip hi h2 fun _ => c2) (by omega)
theorem heavy_clear (hw : WFs s) (hn : 10000 ≤ n) : ∀ (d k : Nat) (m1 : ZMem) (q : Nat), k + d = 201 → AG kH s m1 → (∀ o, o < k → m1 24 o = 0) → d < q → ∃ m', L_X12_heavy_7 n q (k : Int) m1 = L_X12_heavy_114 n n 0 1 m' ∧ HM s 1024 m' := by
  intro d
  induction d with
  | zero =>
    intro k m1 q h1 h2 hi hq
    obtain ⟨q, rfl⟩ : ∃ z, q = z + 1 := ⟨q - 1, by omega⟩
    show ∃ m', B_X12_heavy_7 n (L_X12_heavy_7 n q) (k : Int) m1 = L_X12_heavy_114 n n 0 1 m' ∧ HM s 1024 m'
    unfold B_X12_heavy_7
    rw [if_pos (by omega)]
    refine heavy_main hw hn 1024 0 m1 n (by decide) (by decide) ⟨h2, fun o h3 h4 => ?_⟩ (by omega)
    rw [hi o (by omega)]
    exact ⟨fun z => absurd rfl z, fun ⟨q, a, _⟩ => by omega⟩
  | succ d ih =>
    intro k m1 q h1 h2 hi hq
    obtain ⟨q, rfl⟩ : ∃ z, q = z + 1 := ⟨q - 1, by omega⟩
    show ∃ m', B_X12_heavy_7 n (L_X12_heavy_7 n q) (k : Int) m1 = L_X12_heavy_114 n n 0 1 m' ∧ HM s 1024 m'
    unfold B_X12_heavy_7
    rw [if_neg (by omega), zM24, chk_pos (by omega), chk_pos (by omega), Int.toNat_natCast, cast1]
    refine ih (k + 1) _ q (by omega) (h2.wr rfl) (fun o ho => ?_) (by omega)
    by_cases e : o = k
    · rw [e, wr_eq]
    · rw [wr_nk e]
      exact hi o (by omega)
theorem heavy_count (hT : TB y 60 201 1) (hs : y 60 3 = 201) {m' : ZMem} (hc : ∀ o : Nat, 1 ≤ o → o ≤ 200 → (y 61 o = -9 ↔ m' 24 o = 0)) : ∀ (d k : Nat) (v : Int) (q q' : Nat), k + d = 201 → 1 ≤ k → (0 ≤ v ∧ v ≤ (k : Int)) → d < q → d < q' → TW y m' (L_X0_weighable_9 n q v (k : Int) y) (L_X12_heavy_114 n q' v (k : Int) m') := by
  intro d
  induction d with
  | zero =>
    intro k v q q' h1 h2 hv hq hq'
    obtain ⟨q, rfl⟩ : ∃ z, q = z + 1 := ⟨q - 1, by omega⟩
    obtain ⟨q', rfl⟩ : ∃ z, q' = z + 1 := ⟨q' - 1, by omega⟩
    show TW y m' (B_X0_weighable_9 n (L_X0_weighable_9 n q) v (k : Int) y) (B_X12_heavy_114 n (L_X12_heavy_114 n q') v (k : Int) m')
    unfold B_X0_weighable_9 B_X12_heavy_114
    rw [if_pos (by omega), if_pos (by omega)]
    exact TW_some rfl
  | succ d ih =>
    intro k v q q' h1 h2 hv hq hq'
    obtain ⟨q, rfl⟩ : ∃ z, q = z + 1 := ⟨q - 1, by omega⟩
    obtain ⟨q', rfl⟩ : ∃ z, q' = z + 1 := ⟨q' - 1, by omega⟩
    show TW y m' (B_X0_weighable_9 n (L_X0_weighable_9 n q) v (k : Int) y) (B_X12_heavy_114 n (L_X12_heavy_114 n q') v (k : Int) m')
    unfold B_X0_weighable_9 B_X12_heavy_114
    rw [if_neg (by omega), if_neg (by omega), zM24]
    refine TW_bx (X_at0 (i := k) hT (by omega)) (TW_cm (by omega) ?_)
    rw [Int.toNat_natCast, cast1, Int.add_zero]
    have e := hc k h2 (by omega)
    by_cases c1 : y 61 k = -9
    · refine TW_x (if_pos c1) (TW_m (if_pos (e.1 c1)) (TW_cx (by omega) (TW_cm (by omega) (TW_cm (by omega) ?_))))
      exact ih (k + 1) v q q' (by omega) (by omega) (by omega) (by omega) (by omega)
    · refine TW_x (if_neg c1) (TW_m (if_neg (fun z => c1 (e.2 z))) (TW_cx (by omega) (TW_cx (by omega) (TW_cm (by omega) (TW_cm (by omega) ?_)))))
      exact ih (k + 1) (v + 1) q q' (by omega) (by omega) (by omega) (by omega) (by omega)
theorem cell_any (hw : WFs s) (hS : SP s (PP s (NW s) 0) y) {o : Nat} (ho : 1 ≤ o ∧ o ≤ 200) : y 61 o = -9 ↔ ¬ ∃ q, (0 ≤ q ∧ q < 1024) ∧ okS s q ∧ wgS s q = (o : Int) := by
  have pp : ∀ q, 0 ≤ q ∧ q < 1024 → okS s q → wgS s q = (o : Int) → PP s (NW s) 0 q := by
    intro q hq hk hg
    have h3 := hk.2
    refine ⟨hq, ?_, h3.2, Or.inl h3.1⟩
    by_cases z : q % 32 = 0
    · have e : q = q % 32 + 32 * (q / 32) := by omega
      have w := wg_split (b := q / 32) hw (a := q % 32) (by omega)
      rw [← e, z, wS_0] at w
      have := wS_bd hw (q / 32)
      omega
    · omega
  rcases hS o ho.2 with ⟨a1, b1⟩ | ⟨q, a0, a1, b1, d, e, f⟩
  · exact ⟨fun _ ⟨q, h1, h2, h3⟩ => b1 q (pp q h1 h2 h3) h2 h3, fun _ => a1⟩
  · have := onS_bd q
    unfold wayS at e
    exact ⟨fun z => by omega, fun z => absurd ⟨q, a0, b1, d⟩ z⟩
theorem op_heavy (h : CP c x m) (hn : 10000 ≤ n) : SIM c (F_X11_heavy n x) (F_X12_heavy n m) := by
  have hw := WFs_t h.k.2
  have hk := XK_t (k := 1) h.k.1
  obtain ⟨y, ey, i1, i2, i3, i4⟩ := X_seekAll (n := n) hk hw h.s.2.2.2.2.1 hn
  obtain ⟨m', em, g1, g2⟩ := heavy_clear (n := n) hw hn 201 0 (wr m 0 16 0) n (by decide) AG.rf (fun o ho => by omega) (by omega)
  have hcp : CP (c + 1) y m' := CP_same h (i1.sub (by intro i j hij; simp only [kXa, kXl, kXr, kXe, kXf, kXt, kB, Bool.or_eq_true, Bool.and_eq_true, decide_eq_true_eq, Bool.not_eq_true', Bool.and_eq_false_iff, decide_eq_false_iff_not] at hij ⊢; omega)) (by
    obtain ⟨t1, t2, t3, t4, t5, t6⟩ := h.s
    exact ⟨TB_fr t1 (i1 _ _ rfl) (i1 _ _ rfl) (i1 _ _ rfl), TB_fr t2 (i1 _ _ rfl) (i1 _ _ rfl) (i1 _ _ rfl), TB_fr t3 (i1 _ _ rfl) (i1 _ _ rfl) (i1 _ _ rfl), TB_fr t4 (i1 _ _ rfl) (i1 _ _ rfl) (i1 _ _ rfl), i2, TB_fr t6 (i1 _ _ rfl) (i1 _ _ rfl) (i1 _ _ rfl)⟩) (AG.tr (AG.rf.wr rfl) (g1.sub (by
      intro i j hij
      simp only [kH, decide_eq_true_eq]
      rintro rfl
      cases hij)))
  obtain ⟨r, e1, e2⟩ := heavy_count (n := n) i2 i3 (m' := m') (fun o h1 h2 => (cell_any hw i4 ⟨h1, h2⟩).trans (by
    have := g2 o h1 h2
    constructor
    · intro z
      by_cases q0 : m' 24 o = 0
      · exact q0
      · exact absurd (this.1 q0) z
    · intro z1 z2
      exact absurd z1 (this.2 z2))) 200 1 0 n n (by decide) (by decide) (by decide) (by omega) (by omega)
  refine ⟨r, y, m', ?_, ?_, hcp⟩
  · unfold F_X11_heavy F_X0_weighable
    rw [bnd_id, E_bnd ey rfl]
    exact e1
  · unfold F_X12_heavy
    exact em.trans e2
end ZOP20
