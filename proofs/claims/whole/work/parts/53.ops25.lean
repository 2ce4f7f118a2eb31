/-! OPERATIONS 25: path -/
section ZOP25
variable {x s m y : ZMem} {c n : Nat} {b : Bool}
theorem pourB (hk : XK x 1 s) (hw : WFs s) (hn : 10000 ≤ n) {st c : Nat} (hst : st < 2197) (hc : c < 3) (r2 : Int → Int → ZMem → ZR) : ∀ (d k : Nat) (y m : ZMem) (q q' : Nat), k + d = 3 → BR true x s y m → 0 ≤ m 19 0 → 0 ≤ m 19 st → d < q → d < q' → ∃ y' m2, L_X5_goOnFrom_56 n q (st : Int) (c : Int) (lvI (st : Int) (c : Int)) (k : Int) y = some (0, y') ∧ L_X12_stepsTold_59 n r2 q' (st : Int) (c : Int) (k : Int) m = r2 (st : Int) ((c : Int) + 1) m2 ∧ BR true x s y' m2 ∧ VM m m2 := by
  intro d
  have lc := lv_bd (st : Int) (c : Int)
  induction d with
  | zero =>
    intro k y m q q' h1 hB h0 hv hq hq'
    obtain ⟨q, rfl⟩ : ∃ z, q = z + 1 := ⟨q - 1, by omega⟩
    obtain ⟨q', rfl⟩ : ∃ z, q' = z + 1 := ⟨q' - 1, by omega⟩
    refine ⟨y, m, ?_, ?_, hB, VM.rf⟩
    · show B_X5_goOnFrom_56 n (L_X5_goOnFrom_56 n q) (st : Int) (c : Int) (lvI (st : Int) (c : Int)) (k : Int) y = _
      unfold B_X5_goOnFrom_56
      rw [if_pos (by omega)]
    · show B_X12_stepsTold_59 n r2 (L_X12_stepsTold_59 n r2 q') (st : Int) (c : Int) (k : Int) m = _
      unfold B_X12_stepsTold_59
      rw [if_pos (by omega), chk_pos (by omega)]
  | succ d ih =>
    intro k y m q q' h1 hB h0 hv hq hq'
    obtain ⟨q, rfl⟩ : ∃ z, q = z + 1 := ⟨q - 1, by omega⟩
    obtain ⟨q', rfl⟩ : ∃ z, q' = z + 1 := ⟨q' - 1, by omega⟩
    have hxk := BR_xk hk hB
    obtain ⟨hok, -⟩ := BR_ok hB hst hv
    have lk := lv_bd (st : Int) (k : Int)
    have ok := okL_c hok (c := k) (by omega)
    have ck := hw.cu k (by omega)
    have e9 : m 9 k = s 9 k := hB.2.1 9 k rfl
    have hs2 : (0 : Int) ≤ (st : Int) ∧ (st : Int) < 2197 := by omega
    obtain ⟨a, ha⟩ : ∃ a, a = min (lvI (st : Int) (c : Int)) (s 9 k - lvI (st : Int) (k : Int)) := ⟨_, rfl⟩
    have ab : 0 ≤ a ∧ a ≤ 12 := by omega
    have eM : B_X12_stepsTold_59 n r2 (L_X12_stepsTold_59 n r2 q') (st : Int) (c : Int) (k : Int) m = B_X12_stepsTold_98 n r2 (L_X12_stepsTold_59 n r2 q') (st : Int) (c : Int) (k : Int) a m := by
      unfold B_X12_stepsTold_59
      rw [if_neg (by omega), zM9, chk_pos (by omega), E_bnd (M_inCup hs2 (by omega) m) rfl, Int.toNat_natCast, e9, chk_pos (by omega), E_bnd (M_inCup hs2 (by omega) m) rfl]
      by_cases cm : s 9 k - lvI (st : Int) (k : Int) ≤ lvI (st : Int) (c : Int)
      · rw [if_pos cm, show a = s 9 k - lvI (st : Int) (k : Int) by omega]
      · rw [if_neg cm, E_bnd (M_inCup hs2 (by omega) m) rfl, show a = lvI (st : Int) (c : Int) by omega]
    show ∃ y' m2, B_X5_goOnFrom_56 n (L_X5_goOnFrom_56 n q) (st : Int) (c : Int) (lvI (st : Int) (c : Int)) (k : Int) y = some (0, y') ∧ B_X12_stepsTold_59 n r2 (L_X12_stepsTold_59 n r2 q') (st : Int) (c : Int) (k : Int) m = r2 (st : Int) ((c : Int) + 1) m2 ∧ BR true x s y' m2 ∧ VM m m2
    rw [eM]
    by_cases ec : k = c
    · subst ec
      have eX : B_X5_goOnFrom_56 n (L_X5_goOnFrom_56 n q) (st : Int) (k : Int) (lvI (st : Int) (k : Int)) (k : Int) y = L_X5_goOnFrom_56 n q (st : Int) (k : Int) (lvI (st : Int) (k : Int)) ((k + 1 : Nat) : Int) y := by
        unfold B_X5_goOnFrom_56
        rw [if_neg (by omega), if_pos rfl, chk_pos (by omega), cast1]
      unfold B_X12_stepsTold_98
      rw [eX, if_pos rfl, chk_pos (by omega), cast1]
      exact ih (k + 1) y m q q' (by omega) hB h0 hv (by omega) (by omega)
    · have p1 := am_bds hw hs2 ab (c : Int)
      have p2 := am_bds hw hs2 ab (k : Int)
      obtain ⟨n1, n2⟩ := pour_ok hw hs2 hok (c := c) (o := k) hc (by omega) ec ab.1 (by omega) (by omega)
      obtain ⟨y', m2, e1, e2, g1, g2⟩ := reachBy_tw (n := n) hB hn h0 n1 hst hv n2 (300 + 10 * (k : Int) + (c : Int))
      have eX : B_X5_goOnFrom_56 n (L_X5_goOnFrom_56 n q) (st : Int) (c : Int) (lvI (st : Int) (c : Int)) (k : Int) y = L_X5_goOnFrom_56 n q (st : Int) (c : Int) (lvI (st : Int) (c : Int)) ((k + 1 : Nat) : Int) y' := by
        unfold B_X5_goOnFrom_56
        rw [if_neg (by omega), if_neg (by omega), E_bnd (X_cupAt hxk (by omega)) rfl, E_bnd (X_level hs2.1 y) rfl, chk_pos (by omega), E_bnd (X_unit _ y) rfl, ← ha, chk_pos (by omega), chk_pos (by omega), E_bnd (X_unit _ y) rfl, chk_pos (by omega), chk_pos (by omega), chk_pos (by omega), chk_pos (by omega), chk_pos (by omega), E_bnd e1 rfl, chk_pos (by omega), cast1]
      have s0 := g2.1 0 (by decide) h0
      have s1 := g2.1 st hst hv
      obtain ⟨y2, m3, f1, f2, f3, f4⟩ := ih (k + 1) y' m2 q q' (by omega) g1 (by omega) (by omega) (by omega) (by omega)
      refine ⟨y2, m3, by rw [eX]; exact f1, ?_, f3, g2.tr f4⟩
      unfold B_X12_stepsTold_98
      rw [if_neg (by omega), E_bnd (M_weightOf _ m) rfl, chk_pos (by omega), chk_pos (by omega), E_bnd (M_weightOf _ m) rfl, chk_pos (by omega), chk_pos (by omega), chk_pos (by omega), chk_pos (by omega), chk_pos (by omega), E_bnd e2 rfl, chk_pos (by omega), cast1]
      exact f2
theorem cupB (hk : XK x 1 s) (hw : WFs s) (hn : 10000 ≤ n) {st c : Nat} (hst : st < 2197) (hc : c < 3) (r2 : Int → Int → ZMem → ZR) (hB : BR true x s y m) (h0 : 0 ≤ m 19 0) (hv : 0 ≤ m 19 st) : ∃ y' m2, F_X5_goOnFrom n (st : Int) (c : Int) y = some (0, y') ∧ B_X12_stepsTold_2 n r2 (st : Int) (c : Int) m = r2 (st : Int) ((c : Int) + 1) m2 ∧ BR true x s y' m2 ∧ VM m m2 := by
  have hs2 : (0 : Int) ≤ (st : Int) ∧ (st : Int) < 2197 := by omega
  have hxk := BR_xk hk hB
  obtain ⟨hok, -⟩ := BR_ok hB hst hv
  have lc := lv_bd (st : Int) (c : Int)
  have ck := hw.cu c hc
  have oc := okL_c hok hc
  have e9 : m 9 c = s 9 c := hB.2.1 9 c rfl
  have p1 := am_bds hw hs2 lc (c : Int)
  have p2 := am_bds hw hs2 (a := s 9 c) ck (c : Int)
  have p3 := am_bds hw hs2 (a := s 9 c - lvI (st : Int) (c : Int)) (by omega) (c : Int)
  obtain ⟨n1, n2⟩ := fill_ok hw hs2 hok hc
  obtain ⟨n3, n4⟩ := empty_ok hw hs2 hok hc
  obtain ⟨y1, m1, e1, e2, g1, g2⟩ := reachBy_tw (n := n) hB hn h0 n1 hst hv n2 (100 + (c : Int))
  have s0 := g2.1 0 (by decide) h0
  have s1 := g2.1 st hst hv
  obtain ⟨y2, m2, e3, e4, g3, g4⟩ := reachBy_tw (n := n) g1 hn (by omega) n3 hst (by omega) n4 (200 + (c : Int))
  have s2 := g4.1 0 (by decide) (by omega)
  have s3 := g4.1 st hst (by omega)
  obtain ⟨y3, m3, e5, e6, g5, g6⟩ := pourB (n := n) hk hw hn hst hc r2 3 0 y2 m2 n n (by decide) g3 (by omega) (by omega) (by omega) (by omega)
  have e5' : L_X5_goOnFrom_56 n n (st : Int) (c : Int) (lvI (st : Int) (c : Int)) 0 y2 = some (0, y3) := e5
  have e6' : L_X12_stepsTold_59 n r2 n (st : Int) (c : Int) 0 m2 = _ := e6
  refine ⟨y3, m3, ?_, ?_, g5, (g2.tr g4).tr g6⟩
  · unfold F_X5_goOnFrom
    rw [E_bnd (X_level hs2.1 y) rfl, E_bnd (X_unit _ y) rfl, chk_pos (by omega), chk_pos (by omega), E_bnd (X_cupAt hxk hc) rfl, E_bnd (X_unit _ y) rfl, chk_pos (by omega), chk_pos (by omega), chk_pos (by omega), E_bnd e1 rfl, chk_pos (by omega), E_bnd e3 rfl, e5']
  · unfold B_X12_stepsTold_2
    rw [if_neg (by omega), zM9, chk_pos (by omega), E_bnd (M_inCup hs2 (by omega) m) rfl, Int.toNat_natCast, e9, chk_pos (by omega), E_bnd (M_weightOf _ m) rfl, chk_pos (by omega), chk_pos (by omega), chk_pos (by omega)]
    have ef : (st : Int) + (s 9 c - lvI (st : Int) (c : Int)) * un (c : Int) = (st : Int) - lvI (st : Int) (c : Int) * un (c : Int) + s 9 c * un (c : Int) := by
      rw [Int.sub_mul]
      omega
    rw [ef, E_bnd e2 rfl, E_bnd (M_inCup hs2 (by omega) m1) rfl, E_bnd (M_weightOf _ m1) rfl, chk_pos (by omega), chk_pos (by omega), chk_pos (by omega), E_bnd e4 rfl, e6']
theorem cupsB (hk : XK x 1 s) (hw : WFs s) (hn : 10000 ≤ n) {st i : Nat} (hst : st < 2197) (hi : i < 2197) (r30 : Int → ZMem → ZR) : ∀ (d c : Nat) (y m : ZMem) (q q' : Nat), c + d = 3 → BR true x s y m → 0 ≤ m 19 0 → 0 ≤ m 19 st → (i : Int) < m 0 37 → m 20 i = (st : Int) → d < q → d < q' → ∃ y' m2, L_X5_seekAll_50 n r30 q (i : Int) (c : Int) y = r30 ((i : Int) + 1) y' ∧ L_X12_stepsTold_2 n q' (st : Int) (c : Int) m = some (0, m2) ∧ BR true x s y' m2 ∧ VM m m2 := by
  intro d
  induction d with
  | zero =>
    intro c y m q q' h1 hB h0 hv hi2 h20 hq hq'
    obtain ⟨q, rfl⟩ : ∃ z, q = z + 1 := ⟨q - 1, by omega⟩
    obtain ⟨q', rfl⟩ : ∃ z, q' = z + 1 := ⟨q' - 1, by omega⟩
    refine ⟨y, m, ?_, ?_, hB, VM.rf⟩
    · show B_X5_seekAll_50 n r30 (L_X5_seekAll_50 n r30 q) (i : Int) (c : Int) y = _
      unfold B_X5_seekAll_50
      rw [if_pos (by omega), chk_pos (by omega)]
    · show B_X12_stepsTold_2 n (L_X12_stepsTold_2 n q') (st : Int) (c : Int) m = _
      unfold B_X12_stepsTold_2
      rw [if_pos (by omega)]
  | succ d ih =>
    intro c y m q q' h1 hB h0 hv hi2 h20 hq hq'
    obtain ⟨q, rfl⟩ : ∃ z, q = z + 1 := ⟨q - 1, by omega⟩
    obtain ⟨q', rfl⟩ : ∃ z, q' = z + 1 := ⟨q' - 1, by omega⟩
    obtain ⟨y1, m1, e1, e2, g1, g2⟩ := cupB (n := n) hk hw hn hst (c := c) (by omega) (L_X12_stepsTold_2 n q') hB h0 hv
    have s0 := g2.1 0 (by decide) h0
    have s1 := g2.1 st hst hv
    have s2 := g2.2.1 i hi2
    have s3 := g2.2.2
    obtain ⟨y2, m2, f1, f2, f3, f4⟩ := ih (c + 1) y1 m1 q q' (by omega) g1 (by omega) (by omega) (by omega) (by omega) (by omega) (by omega)
    refine ⟨y2, m2, ?_, ?_, f3, g2.tr f4⟩
    · have a56 := (hB.2.2.2.1 i hi2).1
      have sz := hB.2.2.1.1
      have ea : F_X9_at n 55 (i : Int) 0 y = some ((st : Int), y) := by
        rw [← h20, ← a56]
        exact X_at0 hB.1.2.1 (by omega)
      show B_X5_seekAll_50 n r30 (L_X5_seekAll_50 n r30 q) (i : Int) (c : Int) y = _
      unfold B_X5_seekAll_50
      rw [if_neg (by omega), E_bnd ea rfl, E_bnd e1 rfl, chk_pos (by omega), cast1]
      exact f1
    · show B_X12_stepsTold_2 n (L_X12_stepsTold_2 n q') (st : Int) (c : Int) m = _
      rw [e2, cast1]
      exact f2
/-- what the reference does when all is reached -/
def endB (n : Nat) (o i : Int) (m : ZMem) : ZR := bnd (F_X12_stateWith n o m) (fun v24 m25 => if (v24 : Int) < (0 : Int) then (some ((-9), m25)) else (chk (0 ≤ (v24 : Int) ∧ v24 < zlen LM 19) (if (i : Int) < ((m25 19 (v24 : Int).toNat) : Int) then (L_X12_path_134 n n i v24 m25) else (some ((-9), m25)))))
theorem outPB (hk : XK x 1 s) (hw : WFs s) (hn : 10000 ≤ n) (o ix : Int) : ∀ (d i : Nat) (y m : ZMem) (q q' : Nat), i + d = 2197 → BR true x s y m → 0 ≤ m 19 0 → d < q → d < q' → ∃ y' m2, L_X5_seekAll_30 n q (i : Int) y = some (0, y') ∧ L_X12_path_82 n q' o ix (i : Int) m = endB n o ix m2 ∧ BR true x s y' m2 := by
  intro d
  induction d with
  | zero =>
    intro i y m q q' h1 hB h0 hq hq'
    obtain ⟨q, rfl⟩ : ∃ z, q = z + 1 := ⟨q - 1, by omega⟩
    obtain ⟨q', rfl⟩ : ∃ z, q' = z + 1 := ⟨q' - 1, by omega⟩
    have bc := BR_cnt hB
    refine ⟨y, m, ?_, ?_, hB⟩
    · show B_X5_seekAll_30 n (L_X5_seekAll_30 n q) (i : Int) y = _
      unfold B_X5_seekAll_30
      rw [if_pos (by omega)]
    · show B_X12_path_82 n (L_X12_path_82 n q') o ix (i : Int) m = _
      unfold B_X12_path_82
      rw [if_pos (by omega)]
      rfl
  | succ d ih =>
    intro i y m q q' h1 hB h0 hq hq'
    obtain ⟨q, rfl⟩ : ∃ z, q = z + 1 := ⟨q - 1, by omega⟩
    obtain ⟨q', rfl⟩ : ∃ z, q' = z + 1 := ⟨q' - 1, by omega⟩
    have bc := BR_cnt hB
    have sz := hB.2.2.1.1
    show ∃ y' m2, B_X5_seekAll_30 n (L_X5_seekAll_30 n q) (i : Int) y = some (0, y') ∧ B_X12_path_82 n (L_X12_path_82 n q') o ix (i : Int) m = endB n o ix m2 ∧ BR true x s y' m2
    by_cases hi : m 0 37 ≤ (i : Int)
    · refine ⟨y, m, ?_, ?_, hB⟩
      · unfold B_X5_seekAll_30
        rw [if_neg (by omega), E_bnd (X_size n 55 y) rfl, if_pos (by omega)]
      · unfold B_X12_path_82
        rw [if_pos hi]
        rfl
    · obtain ⟨a56, ⟨v1, v2⟩, v3⟩ := hB.2.2.2.1 i (by omega)
      obtain ⟨st, hst⟩ : ∃ st : Nat, m 20 i = (st : Int) := ⟨(m 20 i).toNat, by omega⟩
      rw [hst, Int.toNat_natCast] at v3
      obtain ⟨y1, m1, e1, e2, g1, g2⟩ := cupsB (n := n) hk hw hn (st := st) (i := i) (by omega) (by omega) (L_X5_seekAll_30 n q) 3 0 y m n n (by decide) hB h0 v3 (by omega) hst (by omega) (by omega)
      have s0 := g2.1 0 (by decide) h0
      obtain ⟨y2, m2, f1, f2, f3⟩ := ih (i + 1) y1 m1 q q' (by omega) g1 (by omega) (by omega) (by omega)
      refine ⟨y2, m2, ?_, ?_, f3⟩
      · unfold B_X5_seekAll_30
        have e1' : L_X5_seekAll_50 n (L_X5_seekAll_30 n q) n (i : Int) 0 y = _ := e1
        rw [if_neg (by omega), E_bnd (X_size n 55 y) rfl, if_neg (by omega), e1', cast1]
        exact f1
      · have ef : F_X12_stepsTold n (st : Int) m = some (0, m1) := e2
        unfold B_X12_path_82
        rw [if_neg hi, zM20, chk_pos (by omega), Int.toNat_natCast, hst, E_bnd ef rfl, chk_pos (by omega), cast1]
        exact f2
theorem clearB {o ix : Int} {f : ZMem → ZR} (hf : ∀ k m, B_X12_path_45 n (L_X12_path_45 n k) o ix 2197 m = f m) : ∀ (d k : Nat) (m1 : ZMem) (q : Nat), k + d = 2197 → AG kP s m1 → (∀ t, t < k → m1 19 t = -9) → d < q → ∃ m0, L_X12_path_45 n q o ix (k : Int) m1 = f m0 ∧ AG kP s m0 ∧ ∀ t, t < 2197 → m0 19 t = -9 := by
  intro d
  induction d with
  | zero =>
    intro k m1 q h1 h2 hi hq
    obtain ⟨q, rfl⟩ : ∃ z, q = z + 1 := ⟨q - 1, by omega⟩
    refine ⟨m1, ?_, h2, fun t ht => hi t (by omega)⟩
    rw [← hf q m1, show k = 2197 by omega]
    rfl
  | succ d ih =>
    intro k m1 q h1 h2 hi hq
    obtain ⟨q, rfl⟩ : ∃ z, q = z + 1 := ⟨q - 1, by omega⟩
    show ∃ m0, B_X12_path_45 n (L_X12_path_45 n q) o ix (k : Int) m1 = f m0 ∧ AG kP s m0 ∧ ∀ t, t < 2197 → m0 19 t = -9
    unfold B_X12_path_45
    rw [if_neg (by omega), zM19, chk_pos (by omega), chk_pos (by omega), Int.toNat_natCast, cast1]
    refine ih (k + 1) _ q (by omega) (h2.wr rfl) (fun t ht => ?_) (by omega)
    by_cases e : t = k
    · rw [e, wr_eq]
    · rw [wr_nk e]
      exact hi t (by omega)
theorem searchB (h : CP c x m) (hn : 10000 ≤ n) (o ix : Int) : ∃ y m2, F_X5_seekAll n x = some (0, y) ∧ L_X12_path_45 n n o ix 0 (wr m 0 16 0) = endB n o ix m2 ∧ BR true x (wr m 0 16 0) y m2 := by
  have hw := WFs_t h.k.2
  have hk := XK_t (k := 1) h.k.1
  obtain ⟨m0, e0, g0, g1⟩ := clearB (n := n) (o := o) (ix := ix) (s := wr m 0 16 0) (f := fun m => bnd (F_X12_reach n 0 0 (wr m 0 37 0)) (fun v17 m18 => L_X12_path_82 n n o ix 0 m18)) (fun k m => by unfold B_X12_path_45; rw [if_pos (by decide)]) 2197 0 (wr m 0 16 0) n (by decide) AG.rf (fun t ht => by omega) (by omega)
  obtain ⟨m1, e1, hB, z0⟩ := BR_start (b := true) (n := n) h.s hw hn (m0 := wr m0 0 37 0) (g0.wr rfl) (fun t ht => by rw [wr_nr (by decide)]; exact g1 t ht) wr_eq
  obtain ⟨y, m2, f1, f2, f3⟩ := outPB (n := n) hk hw hn o ix 2197 0 _ m1 n n (by decide) hB (by omega) (by omega) (by omega)
  have e0' : L_X12_path_45 n n o ix 0 (wr m 0 16 0) = _ := e0
  refine ⟨y, m2, ?_, ?_, f3⟩
  · rw [(X_seek0 (n := n) h.s hn).1]
    exact f1
  · rw [e0']
    show bnd (F_X12_reach n 0 0 (wr m0 0 37 0)) (fun v17 m18 => L_X12_path_82 n n o ix 0 m18) = _
    rw [E_bnd e1 rfl]
    exact f2
theorem back_loop (h : BR true x s y m) {ix : Int} (hix : 0 ≤ ix) : ∀ (d : Nat) (t : Nat) (last : Int) (q q' : Nat), t < 2197 → m 19 t = last + 1 → ix ≤ last → last = ix + (d : Int) → d < q → d < q' → TW y m (L_X5_stepOf_35 n q ix (t : Int) last y) (L_X12_path_134 n q' ix (t : Int) m) := by
  intro d
  have bc := BR_cnt h
  induction d with
  | zero =>
    intro t last q q' ht hd h1 h2 hq hq'
    obtain ⟨q, rfl⟩ : ∃ z, q = z + 1 := ⟨q - 1, by omega⟩
    obtain ⟨q', rfl⟩ : ∃ z, q' = z + 1 := ⟨q' - 1, by omega⟩
    rcases h.2.2.2.2 t ht with ⟨e, -⟩ | ⟨e, g, ⟨k1, k2, -⟩ | ⟨k0, bu, k1, k2, k3, k4, k5⟩⟩
    · omega
    · rw [k1, k2] at hd
      omega
    · have ea : F_X9_at n 57 (t : Int) 1 y = some (y 58 (t * 2 + 1), y) := X_at (j := 1) h.1.2.2.1 (by have := h.1.2.2.2; omega) (by decide)
      show TW y m (B_X5_stepOf_35 n (L_X5_stepOf_35 n q) ix (t : Int) last y) (B_X12_path_134 n (L_X12_path_134 n q') ix (t : Int) m)
      unfold B_X5_stepOf_35 B_X12_path_134
      rw [if_pos (by omega), E_bnd ea rfl, zM19, zM27, chk_pos (by omega), chk_pos (by omega), Int.toNat_natCast, if_pos (by omega), chk_pos (by omega), (k5 rfl).2]
      exact TW_some rfl
  | succ d ih =>
    intro t last q q' ht hd h1 h2 hq hq'
    obtain ⟨q, rfl⟩ : ∃ z, q = z + 1 := ⟨q - 1, by omega⟩
    obtain ⟨q', rfl⟩ : ∃ z, q' = z + 1 := ⟨q' - 1, by omega⟩
    rcases h.2.2.2.2 t ht with ⟨e, -⟩ | ⟨e, g, ⟨k1, k2, -⟩ | ⟨k0, bu, k1, k2, k3, k4, k5⟩⟩
    · omega
    · rw [k1, k2] at hd
      omega
    · have ea : F_X9_at n 57 (t : Int) 0 y = some ((bu : Int), y) := by
        rw [← k2]
        exact X_at (j := 0) h.1.2.2.1 (by have := h.1.2.2.2; omega) (by decide)
      show TW y m (B_X5_stepOf_35 n (L_X5_stepOf_35 n q) ix (t : Int) last y) (B_X12_path_134 n (L_X12_path_134 n q') ix (t : Int) m)
      unfold B_X5_stepOf_35 B_X12_path_134
      rw [if_neg (by omega), E_bnd ea rfl, chk_pos (by omega), zM19, zM26, chk_pos (by omega), chk_pos (by omega), Int.toNat_natCast, if_neg (by omega), chk_pos (by omega), (k5 rfl).1]
      exact ih bu (last + -1) q q' k1 (by omega) (by omega) (by omega) (by omega) (by omega)
theorem op_path (h : CP c x m) (hc : c ≤ 1000) (hn : 10000 ≤ n) (o ix : Int) : SIM c (F_X11_path n o ix x) (F_X12_path n o ix m) := by
  have ex : ∀ r : Int, -6 ≤ r ∧ r ≤ -1 → refS (if o < 1 then -4 else if 0 ≤ ix then 0 else -4) (if o ≤ 12 then 0 else -6) 0 = r → F_X11_path n o ix x = some (r, rfX x r) := by
    intro r hr e
    have eB : F_X11_path n o ix x = B_X11_path_16 n o ix (if o < 1 then -4 else if 0 ≤ ix then 0 else -4) x := by
      unfold F_X11_path
      by_cases c1 : o < 1
      · rw [if_pos c1, if_pos c1]
      · rw [if_neg c1, if_neg c1]
        by_cases c2 : 0 ≤ ix
        · rw [if_pos c2, if_pos c2]
        · rw [if_neg c2, if_neg c2]
    have b1 : -6 ≤ (if o < 1 then (-4 : Int) else if 0 ≤ ix then 0 else -4) ∧ (if o < 1 then (-4 : Int) else if 0 ≤ ix then 0 else -4) ≤ 0 := by
      split
      · decide
      · split <;> decide
    rw [eB]
    generalize (if o < 1 then (-4 : Int) else if 0 ≤ ix then 0 else -4) = s0 at e b1 ⊢
    unfold B_X11_path_16
    by_cases c1 : o ≤ 12
    · rw [if_pos c1] at e ⊢
      rw [E_bnd (X_ref2 h.f hc b1 (by decide) e (by omega)) rfl, if_neg (by omega)]
    · rw [if_neg c1] at e ⊢
      rw [E_bnd (X_ref2 h.f hc b1 (by decide) e (by omega)) rfl, if_neg (by omega)]
  by_cases c1 : o < 1
  · refine SIM_ref h (r := -4) (by decide) (ex _ (by decide) (by rw [if_pos c1]; rfl)) ?_
    unfold F_X12_path
    rw [if_pos c1]
    exact E_bnd (M_ref h hc (by decide)) rfl
  by_cases c2 : 0 ≤ ix
  · by_cases c3 : o ≤ 12
    · obtain ⟨y, m2, e1, e2, hB⟩ := searchB (n := n) h hn o ix
      have bc := BR_cnt hB
      obtain ⟨r, f1, -, f3, f4⟩ := first_tw (n := n) hB o (m2 0 37).toNat 0 n n n (by omega) (by omega) (by omega) (by omega)
      have f1' : L_X5_firstWith_2 n n o 0 y = some (r, y) := f1
      have f3' : L_X12_stateWith_2 n n o 0 m2 = some (r, m2) := f3
      have eX : F_X11_path n o ix x = bnd (F_X5_stepsTo n r y) (fun v9 m10 => if (ix : Int) < (v9 : Int) then (chk (R32 (v9 - 1)) (L_X5_stepOf_35 n n ix r (v9 - 1) m10)) else (some ((-9), m10))) := by
        unfold F_X11_path
        rw [if_neg c1, if_pos c2]
        unfold B_X11_path_16
        rw [if_pos c3, E_bnd (X_not2 rfl (by decide)) rfl, if_pos rfl, bnd_id]
        unfold F_X5_stepOf F_X5_firstWith
        rw [E_bnd e1 rfl, E_bnd f1' rfl]
      have eM : F_X12_path n o ix m = endB n o ix m2 := by
        unfold F_X12_path
        rw [if_neg c1, if_pos c2, if_pos c3, e2]
      rw [eX, eM]
      unfold endB F_X12_stateWith
      rw [E_bnd f3' rfl]
      rcases f4 with e | ⟨e, hv⟩
      · rw [e, if_pos (by decide)]
        have e9 : F_X5_stepsTo n (-9) y = some (-9, y) := by
          unfold F_X5_stepsTo
          rw [if_pos (by decide)]
        rw [E_bnd e9 rfl, if_neg (by omega)]
        exact ⟨-9, y, m2, rfl, rfl, CP_search h hB⟩
      · obtain ⟨t, rfl⟩ : ∃ t : Nat, r = (t : Int) := ⟨r.toNat, by omega⟩
        rw [Int.toNat_natCast] at hv ⊢
        obtain ⟨-, dl⟩ := BR_ok hB (t := t) (by omega) hv
        rw [if_neg (by omega), zM19, chk_pos (by omega), E_bnd (X_stepsTo hB hn (t := t) (by omega)) rfl]
        by_cases c4 : ix < m2 19 t
        · rw [if_pos c4, if_pos c4, chk_pos (by omega)]
          obtain ⟨v, g1, g2⟩ := back_loop (n := n) hB c2 (m2 19 t - 1 - ix).toNat t (m2 19 t - 1) n n (by omega) (by omega) (by omega) (by omega) (by omega) (by omega)
          exact ⟨v, y, m2, g1, g2, CP_search h hB⟩
        · rw [if_neg c4, if_neg c4]
          exact ⟨-9, y, m2, rfl, rfl, CP_search h hB⟩
    · refine SIM_ref h (r := -6) (by decide) (ex _ (by decide) (by rw [if_neg c1, if_pos c2, if_neg c3]; rfl)) ?_
      unfold F_X12_path
      rw [if_neg c1, if_pos c2, if_neg c3]
      exact E_bnd (M_ref h hc (by decide)) rfl
  · refine SIM_ref h (r := -4) (by decide) (ex _ (by decide) (by rw [if_neg c1, if_neg c2]; rfl)) ?_
    unfold F_X12_path
    rw [if_neg c1, if_neg c2]
    exact E_bnd (M_ref h hc (by decide)) rfl
end ZOP25
