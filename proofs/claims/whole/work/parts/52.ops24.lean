/-! OPERATIONS 24: pours, steps -/
section ZOP24
variable {x s m y : ZMem} {c n : Nat} {b : Bool}
theorem X_cupAt (h : XK y 1 s) {k : Nat} (hk : k < 3) : F_X9_at n 8 (k : Int) 0 y = some (s 9 k, y) := by
  obtain ⟨-, -, -, -, ⟨t1, t2, t3⟩, -⟩ := XK_parts h
  rw [← t3 k hk]
  exact X_at0 t1 (by omega)
theorem BR_xk (hk : XK x 1 s) (h : BR b x s y m) : XK y 1 s := XK_fr hk (fun i j h1 h2 => h.1.1 i j (by simp [kV]; omega)) AG.rf
theorem BR_ok (h : BR b x s y m) {t : Nat} (ht : t < 2197) (hv : 0 ≤ m 19 t) : okL s (t : Int) ∧ m 19 t < m 0 37 := by
  rcases h.2.2.2.2 t ht with ⟨e, -⟩ | ⟨e, g, -⟩
  · omega
  · exact ⟨g, e.2⟩
theorem BR_cnt (h : BR b x s y m) : 0 ≤ m 0 37 ∧ m 0 37 ≤ 2197 := by
  rw [h.2.2.1.2]
  have := sumS_bd (f := visB m) (B := 1) (by decide) 2197 (fun j _ => by unfold visB; split <;> decide)
  unfold visS
  omega
theorem am_bds (hw : WFs s) {st : Int} (hst : 0 ≤ st ∧ st < 2197) {a : Int} (ha : 0 ≤ a ∧ a ≤ 12) (c : Int) : 0 ≤ a * un c ∧ a * un c ≤ 2028 := by
  have u := un_bd c
  have := mul_bd (a := a) (b := un c) (A := 12) (B := 169) ha.1 ha.2 (by omega) u.2
  omega
theorem pourA (hk : XK x 1 s) (hw : WFs s) (hn : 10000 ≤ n) {st c : Nat} (hst : st < 2197) (hc : c < 3) (r11 : Int → Int → Int → ZMem → ZR) (dd : Int) : ∀ (d k : Nat) (y m : ZMem) (q q' : Nat), k + d = 3 → BR false x s y m → 0 ≤ m 19 0 → 0 ≤ m 19 st → m 19 st + 1 = dd → d < q → d < q' → ∃ y' m2, L_X5_goOnFrom_56 n q (st : Int) (c : Int) (lvI (st : Int) (c : Int)) (k : Int) y = some (0, y') ∧ L_X12_stepsFrom_61 n r11 q' (st : Int) dd (c : Int) (lvI (st : Int) (c : Int)) (k : Int) m = r11 (st : Int) dd ((c : Int) + 1) m2 ∧ BR false x s y' m2 ∧ VM m m2 := by
  intro d
  have lc := lv_bd (st : Int) (c : Int)
  induction d with
  | zero =>
    intro k y m q q' h1 hB h0 hv hd hq hq'
    obtain ⟨q, rfl⟩ : ∃ z, q = z + 1 := ⟨q - 1, by omega⟩
    obtain ⟨q', rfl⟩ : ∃ z, q' = z + 1 := ⟨q' - 1, by omega⟩
    refine ⟨y, m, ?_, ?_, hB, VM.rf⟩
    · show B_X5_goOnFrom_56 n (L_X5_goOnFrom_56 n q) (st : Int) (c : Int) (lvI (st : Int) (c : Int)) (k : Int) y = _
      unfold B_X5_goOnFrom_56
      rw [if_pos (by omega)]
    · show B_X12_stepsFrom_61 n r11 (L_X12_stepsFrom_61 n r11 q') (st : Int) dd (c : Int) (lvI (st : Int) (c : Int)) (k : Int) m = _
      unfold B_X12_stepsFrom_61
      rw [if_pos (by omega), chk_pos (by omega)]
  | succ d ih =>
    intro k y m q q' h1 hB h0 hv hd hq hq'
    obtain ⟨q, rfl⟩ : ∃ z, q = z + 1 := ⟨q - 1, by omega⟩
    obtain ⟨q', rfl⟩ : ∃ z, q' = z + 1 := ⟨q' - 1, by omega⟩
    have hxk := BR_xk hk hB
    obtain ⟨hok, -⟩ := BR_ok hB hst hv
    have lk := lv_bd (st : Int) (k : Int)
    have ok := okL_c hok (c := k) (by omega)
    have ck := hw.cu k (by omega)
    have e9 : m 9 k = s 9 k := hB.2.1 9 k rfl
    have hs2 : (0 : Int) ≤ (st : Int) ∧ (st : Int) < 2197 := by omega
    show ∃ y' m2, B_X5_goOnFrom_56 n (L_X5_goOnFrom_56 n q) (st : Int) (c : Int) (lvI (st : Int) (c : Int)) (k : Int) y = some (0, y') ∧ B_X12_stepsFrom_61 n r11 (L_X12_stepsFrom_61 n r11 q') (st : Int) dd (c : Int) (lvI (st : Int) (c : Int)) (k : Int) m = r11 (st : Int) dd ((c : Int) + 1) m2 ∧ BR false x s y' m2 ∧ VM m m2
    by_cases ec : k = c
    · subst ec
      have eX : B_X5_goOnFrom_56 n (L_X5_goOnFrom_56 n q) (st : Int) (k : Int) (lvI (st : Int) (k : Int)) (k : Int) y = L_X5_goOnFrom_56 n q (st : Int) (k : Int) (lvI (st : Int) (k : Int)) ((k + 1 : Nat) : Int) y := by
        unfold B_X5_goOnFrom_56
        rw [if_neg (by omega), if_pos rfl, chk_pos (by omega), cast1]
      have eM : B_X12_stepsFrom_61 n r11 (L_X12_stepsFrom_61 n r11 q') (st : Int) dd (k : Int) (lvI (st : Int) (k : Int)) (k : Int) m = L_X12_stepsFrom_61 n r11 q' (st : Int) dd (k : Int) (lvI (st : Int) (k : Int)) ((k + 1 : Nat) : Int) m := by
        unfold B_X12_stepsFrom_61
        rw [if_neg (by omega), zM9, chk_pos (by omega), E_bnd (M_inCup hs2 (by omega) m) rfl, Int.toNat_natCast, e9, chk_pos (by omega)]
        refine E_ite (fun _ => ?_) (fun _ => ?_)
        all_goals
          rw [if_pos rfl, chk_pos (by omega), cast1]
      rw [eX, eM]
      exact ih (k + 1) y m q q' (by omega) hB h0 hv hd (by omega) (by omega)
    · obtain ⟨a, ha⟩ : ∃ a, a = min (lvI (st : Int) (c : Int)) (s 9 k - lvI (st : Int) (k : Int)) := ⟨_, rfl⟩
      have ab : 0 ≤ a ∧ a ≤ 12 := by omega
      have p1 := am_bds hw hs2 ab (c : Int)
      have p2 := am_bds hw hs2 ab (k : Int)
      obtain ⟨n1, n2⟩ := pour_ok hw hs2 hok (c := c) (o := k) hc (by omega) ec ab.1 (by omega) (by omega)
      obtain ⟨y', m2, e1, e2, g1, g2⟩ := reach_tw (n := n) hB hn h0 n1 hst hv n2 (300 + 10 * (k : Int) + (c : Int))
      rw [hd] at e2
      have eX : B_X5_goOnFrom_56 n (L_X5_goOnFrom_56 n q) (st : Int) (c : Int) (lvI (st : Int) (c : Int)) (k : Int) y = L_X5_goOnFrom_56 n q (st : Int) (c : Int) (lvI (st : Int) (c : Int)) ((k + 1 : Nat) : Int) y' := by
        unfold B_X5_goOnFrom_56
        rw [if_neg (by omega), if_neg (by omega), E_bnd (X_cupAt hxk (by omega)) rfl, E_bnd (X_level hs2.1 y) rfl, chk_pos (by omega), E_bnd (X_unit _ y) rfl, ← ha, chk_pos (by omega), chk_pos (by omega), E_bnd (X_unit _ y) rfl, chk_pos (by omega), chk_pos (by omega), chk_pos (by omega), chk_pos (by omega), chk_pos (by omega), E_bnd e1 rfl, chk_pos (by omega), cast1]
      have eM : B_X12_stepsFrom_61 n r11 (L_X12_stepsFrom_61 n r11 q') (st : Int) dd (c : Int) (lvI (st : Int) (c : Int)) (k : Int) m = L_X12_stepsFrom_61 n r11 q' (st : Int) dd (c : Int) (lvI (st : Int) (c : Int)) ((k + 1 : Nat) : Int) m2 := by
        unfold B_X12_stepsFrom_61
        rw [if_neg (by omega), zM9, chk_pos (by omega), E_bnd (M_inCup hs2 (by omega) m) rfl, Int.toNat_natCast, e9, chk_pos (by omega)]
        by_cases cm : s 9 k - lvI (st : Int) (k : Int) ≤ lvI (st : Int) (c : Int)
        · have ea : a = s 9 k - lvI (st : Int) (k : Int) := by omega
          rw [if_pos cm, if_neg (by omega), ← ea, E_bnd (M_weightOf _ m) rfl, chk_pos (by omega), chk_pos (by omega), E_bnd (M_weightOf _ m) rfl, chk_pos (by omega), chk_pos (by omega), E_bnd e2 rfl, chk_pos (by omega), cast1]
        · have ea : a = lvI (st : Int) (c : Int) := by omega
          rw [if_neg cm, if_neg (by omega), E_bnd (M_weightOf _ m) rfl]
          rw [ea] at p1 p2 n1 e2
          rw [chk_pos (by omega), chk_pos (by omega), E_bnd (M_weightOf _ m) rfl, chk_pos (by omega), chk_pos (by omega), E_bnd e2 rfl, chk_pos (by omega), cast1]
      rw [eX, eM]
      have s0 := g2.1 0 (by decide) h0
      have s1 := g2.1 st hst hv
      obtain ⟨y2, m3, f1, f2, f3, f4⟩ := ih (k + 1) y' m2 q q' (by omega) g1 (by omega) (by omega) (by omega) (by omega) (by omega)
      exact ⟨y2, m3, f1, f2, f3, g2.tr f4⟩
theorem cupA (hk : XK x 1 s) (hw : WFs s) (hn : 10000 ≤ n) {st c : Nat} (hst : st < 2197) (hc : c < 3) (r11 : Int → Int → Int → ZMem → ZR) (hB : BR false x s y m) (h0 : 0 ≤ m 19 0) (hv : 0 ≤ m 19 st) : ∃ y' m2, F_X5_goOnFrom n (st : Int) (c : Int) y = some (0, y') ∧ B_X12_stepsFrom_11 n r11 (st : Int) (m 19 st + 1) (c : Int) m = r11 (st : Int) (m 19 st + 1) ((c : Int) + 1) m2 ∧ BR false x s y' m2 ∧ VM m m2 := by
  have hs2 : (0 : Int) ≤ (st : Int) ∧ (st : Int) < 2197 := by omega
  have hxk := BR_xk hk hB
  obtain ⟨hok, -⟩ := BR_ok hB hst hv
  have lc := lv_bd (st : Int) (c : Int)
  have ck := hw.cu c hc
  have oc := okL_c hok hc
  have e9 : m 9 c = s 9 c := hB.2.1 9 c rfl
  have p1 := am_bds hw hs2 lc (c : Int)
  have p2 := am_bds hw hs2 (a := s 9 c) ck (c : Int)
  have p3 := am_bds hw hs2 (a := s 9 c - lvI (st : Int) (c : Int)) (by omega) (c : Int)
  obtain ⟨n1, n2⟩ := fill_ok hw hs2 hok hc
  obtain ⟨n3, n4⟩ := empty_ok hw hs2 hok hc
  obtain ⟨y1, m1, e1, e2, g1, g2⟩ := reach_tw (n := n) hB hn h0 n1 hst hv n2 (100 + (c : Int))
  have s0 := g2.1 0 (by decide) h0
  have s1 := g2.1 st hst hv
  obtain ⟨y2, m2, e3, e4, g3, g4⟩ := reach_tw (n := n) g1 hn (by omega) n3 hst (by omega) n4 (200 + (c : Int))
  have s2 := g4.1 0 (by decide) (by omega)
  have s3 := g4.1 st hst (by omega)
  obtain ⟨y3, m3, e5, e6, g5, g6⟩ := pourA (n := n) hk hw hn hst hc r11 (m 19 st + 1) 3 0 y2 m2 n n (by decide) g3 (by omega) (by omega) (by omega) (by omega) (by omega)
  have e5' : L_X5_goOnFrom_56 n n (st : Int) (c : Int) (lvI (st : Int) (c : Int)) 0 y2 = some (0, y3) := e5
  have e6' : L_X12_stepsFrom_61 n r11 n (st : Int) (m 19 st + 1) (c : Int) (lvI (st : Int) (c : Int)) 0 m2 = _ := e6
  refine ⟨y3, m3, ?_, ?_, g5, (g2.tr g4).tr g6⟩
  · unfold F_X5_goOnFrom
    rw [E_bnd (X_level hs2.1 y) rfl, E_bnd (X_unit _ y) rfl, chk_pos (by omega), chk_pos (by omega), E_bnd (X_cupAt hxk hc) rfl, E_bnd (X_unit _ y) rfl, chk_pos (by omega), chk_pos (by omega), chk_pos (by omega), E_bnd e1 rfl, chk_pos (by omega), E_bnd e3 rfl, e5']
  · rw [s1] at e4
    unfold B_X12_stepsFrom_11
    rw [if_neg (by omega), E_bnd (M_inCup hs2 (by omega) m) rfl, zM9, chk_pos (by omega), Int.toNat_natCast, e9, chk_pos (by omega), E_bnd (M_weightOf _ m) rfl, chk_pos (by omega), chk_pos (by omega)]
    have ef : (st : Int) + (s 9 c - lvI (st : Int) (c : Int)) * un (c : Int) = (st : Int) - lvI (st : Int) (c : Int) * un (c : Int) + s 9 c * un (c : Int) := by
      rw [Int.sub_mul]
      omega
    rw [ef, E_bnd e2 rfl, E_bnd (M_weightOf _ m1) rfl, chk_pos (by omega), chk_pos (by omega), E_bnd e4 rfl, e6']
theorem cupsA (hk : XK x 1 s) (hw : WFs s) (hn : 10000 ≤ n) {st i : Nat} (hst : st < 2197) (hi : i < 2197) (r30 : Int → ZMem → ZR) (dd : Int) : ∀ (d c : Nat) (y m : ZMem) (q q' : Nat), c + d = 3 → BR false x s y m → 0 ≤ m 19 0 → 0 ≤ m 19 st → m 19 st + 1 = dd → (i : Int) < m 0 37 → m 20 i = (st : Int) → d < q → d < q' → ∃ y' m2, L_X5_seekAll_50 n r30 q (i : Int) (c : Int) y = r30 ((i : Int) + 1) y' ∧ L_X12_stepsFrom_11 n q' (st : Int) dd (c : Int) m = some (0, m2) ∧ BR false x s y' m2 ∧ VM m m2 := by
  intro d
  induction d with
  | zero =>
    intro c y m q q' h1 hB h0 hv hd hi2 h20 hq hq'
    obtain ⟨q, rfl⟩ : ∃ z, q = z + 1 := ⟨q - 1, by omega⟩
    obtain ⟨q', rfl⟩ : ∃ z, q' = z + 1 := ⟨q' - 1, by omega⟩
    refine ⟨y, m, ?_, ?_, hB, VM.rf⟩
    · show B_X5_seekAll_50 n r30 (L_X5_seekAll_50 n r30 q) (i : Int) (c : Int) y = _
      unfold B_X5_seekAll_50
      rw [if_pos (by omega), chk_pos (by omega)]
    · show B_X12_stepsFrom_11 n (L_X12_stepsFrom_11 n q') (st : Int) dd (c : Int) m = _
      unfold B_X12_stepsFrom_11
      rw [if_pos (by omega)]
  | succ d ih =>
    intro c y m q q' h1 hB h0 hv hd hi2 h20 hq hq'
    obtain ⟨q, rfl⟩ : ∃ z, q = z + 1 := ⟨q - 1, by omega⟩
    obtain ⟨q', rfl⟩ : ∃ z, q' = z + 1 := ⟨q' - 1, by omega⟩
    obtain ⟨y1, m1, e1, e2, g1, g2⟩ := cupA (n := n) hk hw hn hst (c := c) (by omega) (L_X12_stepsFrom_11 n q') hB h0 hv
    rw [hd] at e2
    have s0 := g2.1 0 (by decide) h0
    have s1 := g2.1 st hst hv
    have s2 := g2.2.1 i hi2
    have s3 := g2.2.2
    obtain ⟨y2, m2, f1, f2, f3, f4⟩ := ih (c + 1) y1 m1 q q' (by omega) g1 (by omega) (by omega) (by omega) (by omega) (by omega) (by omega) (by omega)
    refine ⟨y2, m2, ?_, ?_, f3, g2.tr f4⟩
    · have a56 := (hB.2.2.2.1 i hi2).1
      have sz := hB.2.2.1.1
      have ea : F_X9_at n 55 (i : Int) 0 y = some ((st : Int), y) := by
        rw [← h20, ← a56]
        exact X_at0 hB.1.2.1 (by omega)
      show B_X5_seekAll_50 n r30 (L_X5_seekAll_50 n r30 q) (i : Int) (c : Int) y = _
      unfold B_X5_seekAll_50
      rw [if_neg (by omega), E_bnd ea rfl, E_bnd e1 rfl, chk_pos (by omega), cast1]
      exact f1
    · show B_X12_stepsFrom_11 n (L_X12_stepsFrom_11 n q') (st : Int) dd (c : Int) m = _
      rw [e2, cast1]
      exact f2
theorem outA (hk : XK x 1 s) (hw : WFs s) (hn : 10000 ≤ n) : ∀ (d i : Nat) (y m : ZMem) (q q' : Nat), i + d = 2197 → BR false x s y m → 0 ≤ m 19 0 → d < q → d < q' → ∃ y' m2, L_X5_seekAll_30 n q (i : Int) y = some (0, y') ∧ L_X12_pourAll_36 n q' (i : Int) m = some (0, m2) ∧ BR false x s y' m2 := by
  intro d
  induction d with
  | zero =>
    intro i y m q q' h1 hB h0 hq hq'
    obtain ⟨q, rfl⟩ : ∃ z, q = z + 1 := ⟨q - 1, by omega⟩
    obtain ⟨q', rfl⟩ : ∃ z, q' = z + 1 := ⟨q' - 1, by omega⟩
    have bc := BR_cnt hB
    refine ⟨y, m, ?_, ?_, hB⟩
    · show B_X5_seekAll_30 n (L_X5_seekAll_30 n q) (i : Int) y = _
      unfold B_X5_seekAll_30
      rw [if_pos (by omega)]
    · show B_X12_pourAll_36 n (L_X12_pourAll_36 n q') (i : Int) m = _
      unfold B_X12_pourAll_36
      rw [if_pos (by omega)]
  | succ d ih =>
    intro i y m q q' h1 hB h0 hq hq'
    obtain ⟨q, rfl⟩ : ∃ z, q = z + 1 := ⟨q - 1, by omega⟩
    obtain ⟨q', rfl⟩ : ∃ z, q' = z + 1 := ⟨q' - 1, by omega⟩
    have bc := BR_cnt hB
    have sz := hB.2.2.1.1
    show ∃ y' m2, B_X5_seekAll_30 n (L_X5_seekAll_30 n q) (i : Int) y = some (0, y') ∧ B_X12_pourAll_36 n (L_X12_pourAll_36 n q') (i : Int) m = some (0, m2) ∧ BR false x s y' m2
    by_cases hi : m 0 37 ≤ (i : Int)
    · refine ⟨y, m, ?_, ?_, hB⟩
      · unfold B_X5_seekAll_30
        rw [if_neg (by omega), E_bnd (X_size n 55 y) rfl, if_pos (by omega)]
      · unfold B_X12_pourAll_36
        rw [if_pos hi]
    · obtain ⟨a56, ⟨v1, v2⟩, v3⟩ := hB.2.2.2.1 i (by omega)
      obtain ⟨st, hst⟩ : ∃ st : Nat, m 20 i = (st : Int) := ⟨(m 20 i).toNat, by omega⟩
      rw [hst, Int.toNat_natCast] at v3
      obtain ⟨-, v4⟩ := BR_ok hB (t := st) (by omega) v3
      obtain ⟨y1, m1, e1, e2, g1, g2⟩ := cupsA (n := n) hk hw hn (st := st) (i := i) (by omega) (by omega) (L_X5_seekAll_30 n q) (m 19 st + 1) 3 0 y m n n (by decide) hB h0 v3 rfl (by omega) hst (by omega) (by omega)
      have s0 := g2.1 0 (by decide) h0
      obtain ⟨y2, m2, f1, f2, f3⟩ := ih (i + 1) y1 m1 q q' (by omega) g1 (by omega) (by omega) (by omega)
      refine ⟨y2, m2, ?_, ?_, f3⟩
      · unfold B_X5_seekAll_30
        have e1' : L_X5_seekAll_50 n (L_X5_seekAll_30 n q) n (i : Int) 0 y = _ := e1
        rw [if_neg (by omega), E_bnd (X_size n 55 y) rfl, if_neg (by omega), e1', cast1]
        exact f1
      · have ef : F_X12_stepsFrom n (st : Int) m = some (0, m1) := by
          unfold F_X12_stepsFrom
          rw [zM19, chk_pos (by omega), Int.toNat_natCast, chk_pos (by omega)]
          exact e2
        unfold B_X12_pourAll_36
        rw [if_neg hi, zM20, chk_pos (by omega), Int.toNat_natCast, hst, E_bnd ef rfl, chk_pos (by omega), cast1]
        exact f2
/-! the beginning -/
theorem rsT_nr {x : ZMem} {t k i j : Nat} {v : Int} (h : i ≠ t + 1) : rsT x t v k i j = x i j := by
  simp only [rsT]
  rw [if_neg (fun z => h z.1)]
theorem rsT_c {x : ZMem} {t k j : Nat} {v : Int} (h : j < k) : rsT x t v k (t + 1) j = v := by
  show (if t + 1 = t + 1 ∧ j < k then v else x (t + 1) j) = v
  rw [if_pos ⟨rfl, h⟩]
def yS (x : ZMem) : ZMem := rsT (wr (wr x 55 3 0) 57 3 2197) 57 (-9) 4394
theorem X_seek0 (hs : CPs x) (hn : 10000 ≤ n) : F_X5_seekAll n x = L_X5_seekAll_30 n n 0 (addT (wr (wr (yS x) 58 0 0) 58 1 0) 55 1 0) ∧ TB (yS x) 55 2197 1 ∧ TB (yS x) 57 2197 2 := by
  obtain ⟨-, -, t3, t4, -⟩ := hs
  have e1 := X_reset (n := n) (v := 0) t3 hn (l := 0) (by decide) (a := 0) rfl
  rw [Nat.zero_mul, rsT_0] at e1
  have e1' : F_X9_reset n 55 0 0 x = some (0, wr x 55 3 0) := e1
  have t4' : TB (wr x 55 3 0) 57 2197 2 := TB_fr t4 (wr_nr (by decide)) (wr_nr (by decide)) (wr_nr (by decide))
  have e2 : F_X9_reset n 57 2197 (-9) (wr x 55 3 0) = some (0, yS x) := X_reset (n := n) (v := -9) t4' hn (l := 2197) (by decide) (a := 2197) rfl
  have y55 : ∀ j, yS x 55 j = wr x 55 3 0 55 j := fun j => by
    exact (rsT_nr (by decide)).trans (wr_nr (by decide))
  have y57 : ∀ j, yS x 57 j = wr (wr x 55 3 0) 57 3 2197 57 j := fun j => rsT_t
  have t3' : TB (yS x) 55 2197 1 := TB_sz t3 (by rw [y55, wr_nk (by decide)]) (by rw [y55, wr_nk (by decide)]) (by rw [y55, wr_eq]; decide)
  have t4'' : TB (yS x) 57 2197 2 := TB_sz t4' (by rw [y57, wr_nk (by decide)]) (by rw [y57, wr_nk (by decide)]) (by rw [y57, wr_eq]; decide)
  have z57 : yS x 57 3 = 2197 := by rw [y57, wr_eq]
  have z58 : yS x 58 0 = -9 := by
    exact rsT_c (by decide)
  have c1 : F_X9_at n 57 0 0 (yS x) = some (yS x 58 0, yS x) := X_at (i := 0) (j := 0) t4'' (by omega) (by decide)
  have c2 : F_X9_put n 57 0 0 0 (yS x) = some (0, wr (yS x) 58 0 0) := X_put (i := 0) (j := 0) t4'' (by omega) (by decide)
  have t5 : TB (wr (yS x) 58 0 0) 57 2197 2 := TB_fr t4'' (wr_nr (by decide)) (wr_nr (by decide)) (wr_nr (by decide))
  have c3 : F_X9_put n 57 0 1 0 (wr (yS x) 58 0 0) = some (0, wr (wr (yS x) 58 0 0) 58 1 0) := X_put (i := 0) (j := 1) t5 (by rw [wr_nr (by decide)]; omega) (by decide)
  have t6 : TB (wr (wr (yS x) 58 0 0) 58 1 0) 55 2197 1 := TB_fr t3' (by rw [wr_nr (by decide), wr_nr (by decide)]) (by rw [wr_nr (by decide), wr_nr (by decide)]) (by rw [wr_nr (by decide), wr_nr (by decide)])
  have z55 : wr (wr (yS x) 58 0 0) 58 1 0 55 3 = 0 := by rw [wr_nr (by decide), wr_nr (by decide), y55, wr_eq]
  have ec : F_X5_comes n 0 0 0 (yS x) = some (0, addT (wr (wr (yS x) 58 0 0) 58 1 0) 55 1 0) := by
    unfold F_X5_comes
    rw [E_bnd c1 rfl, z58, if_pos rfl, E_bnd c2 rfl, E_bnd c3 rfl, E_bnd (X_add t6 hn (by rw [z55]; decide)) rfl]
  refine ⟨?_, t3', t4''⟩
  unfold F_X5_seekAll
  rw [E_bnd e1' rfl, E_bnd e2 rfl, E_bnd ec rfl]
theorem BR_start (hs : CPs x) (hw : WFs s) (hn : 10000 ≤ n) {m0 : ZMem} (hm : AG kP s m0) (h19 : ∀ t, t < 2197 → m0 19 t = -9) (h37 : m0 0 37 = 0) : ∃ m1, F_X12_reach n 0 0 m0 = some (0, m1) ∧ BR b x s (addT (wr (wr (yS x) 58 0 0) 58 1 0) 55 1 0) m1 ∧ m1 19 0 = 0 := by
  obtain ⟨-, t3, t4⟩ := X_seek0 (n := n) hs hn
  refine ⟨wr (wr (wr m0 19 0 0) 20 0 0) 0 37 1, ?_, ?_, by rw [wr_nr (by decide), wr_nr (by decide), wr_eq]⟩
  · have e1 : wr m0 19 0 0 0 37 = 0 := by rw [wr_nr (by decide)]; exact h37
    have e2 : wr (wr m0 19 0 0) 20 0 0 0 37 = 0 := by rw [wr_nr (by decide)]; exact e1
    unfold F_X12_reach
    rw [zM19, zM20, chk_pos (by decide), show (0 : Int).toNat = 0 from rfl, h19 0 (by decide), if_neg (by decide), chk_pos (by decide), e1, chk_pos (by decide), show (0 : Int).toNat = 0 from rfl, e2, chk_pos (by decide)]
    rfl
  · have y55 : ∀ j, wr (wr (yS x) 58 0 0) 58 1 0 55 j = yS x 55 j := fun j => by rw [wr_nr (by decide), wr_nr (by decide)]
    have yA : AG kV x (yS x) := ((AG.rf.wr rfl).wr rfl).rs (fun _ => rfl)
    have z55 : yS x 55 3 = 0 := by
      exact (rsT_nr (by decide)).trans ((wr_nr (by decide)).trans wr_eq)
    have z57 : yS x 57 3 = 2197 := by
      show rsT _ 57 _ _ 57 3 = _
      rw [rsT_t, wr_eq]
    have z58 : ∀ j, j < 4394 → yS x 58 j = -9 := fun j hj => by
      exact rsT_c hj
    have v58 : ∀ j, addT (wr (wr (yS x) 58 0 0) 58 1 0) 55 1 0 58 j = if j = 1 then 0 else if j = 0 then 0 else yS x 58 j := by
      intro j
      have e1 : addT (wr (wr (yS x) 58 0 0) 58 1 0) 55 1 0 58 j = wr (wr (yS x) 58 0 0) 58 1 0 58 j := by
        unfold addT
        rw [wr_nr (by decide)]
        simp only [adT]
        rw [if_neg (fun z => absurd z.1 (by decide))]
      rw [e1]
      by_cases e2 : j = 1
      · rw [e2, wr_eq, if_pos rfl]
      · rw [wr_nk e2, if_neg e2]
        by_cases e3 : j = 0
        · rw [e3, wr_eq, if_pos rfl]
        · rw [wr_nk e3, if_neg e3]
    have v56 : addT (wr (wr (yS x) 58 0 0) 58 1 0) 55 1 0 56 0 = 0 := by
      have := addT1_get (wr (wr (yS x) 58 0 0) 58 1 0) 55 0 0
      rw [y55, z55] at this
      exact this.trans (if_pos rfl)
    have v57 : ∀ j, addT (wr (wr (yS x) 58 0 0) 58 1 0) 55 1 0 57 j = yS x 57 j := by
      intro j
      unfold addT
      rw [wr_nr (by decide)]
      simp only [adT]
      rw [if_neg (fun z => absurd z.1 (by decide)), wr_nr (by decide), wr_nr (by decide)]
    have v55 : addT (wr (wr (yS x) 58 0 0) 58 1 0) 55 1 0 55 3 = 1 := by rw [addT_sz, y55, z55]; rfl
    have t3' : TB (wr (wr (yS x) 58 0 0) 58 1 0) 55 2197 1 := TB_fr t3 (y55 _) (y55 _) (y55 _)
    have n19 : ∀ j, wr (wr (wr m0 19 0 0) 20 0 0) 0 37 1 19 j = if j = 0 then 0 else m0 19 j := by
      intro j
      rw [wr_nr (by decide), wr_nr (by decide)]
      by_cases e : j = 0
      · rw [e, wr_eq, if_pos rfl]
      · rw [wr_nk e, if_neg e]
    have n20 : wr (wr (wr m0 19 0 0) 20 0 0) 0 37 1 20 0 = 0 := by rw [wr_nr (by decide), wr_eq]
    have n37 : wr (wr (wr m0 19 0 0) 20 0 0) 0 37 1 0 37 = 1 := wr_eq
    have tA : TB (addT (wr (wr (yS x) 58 0 0) 58 1 0) 55 1 0) 55 2197 1 := TB_add t3' (by rw [y55, z55]; decide)
    have mA : AG kP s (wr (wr (wr m0 19 0 0) 20 0 0) 0 37 1) := ((hm.wr rfl).wr rfl).wr rfl
    have xA : AG kV x (addT (wr (wr (yS x) 58 0 0) 58 1 0) 55 1 0) := ((yA.wr rfl).wr rfl).addT (fun _ => rfl) rfl
    generalize wr (wr (wr m0 19 0 0) 20 0 0) 0 37 1 = M at n19 n20 n37 mA ⊢
    generalize addT (wr (wr (yS x) 58 0 0) 58 1 0) 55 1 0 = Y at v58 v56 v57 v55 tA xA ⊢
    refine ⟨⟨xA, tA, TB_fr t4 (v57 _) (v57 _) (v57 _), by rw [v57]; exact z57⟩, mA, ⟨by rw [v55, n37], ?_⟩, fun j hj => ?_, fun t ht => ?_⟩
    · have z : ∀ k, k ≤ 2197 → sumS (visB m0) k = 0 := by
        intro k
        induction k with
        | zero => intro _; rfl
        | succ k ih =>
          intro hk
          show sumS (visB m0) k + visB m0 k = 0
          rw [ih (by omega)]
          unfold visB
          rw [h19 k (by omega), if_neg (by decide)]
          rfl
      have e := sumS_up (f := visB m0) (g := visB M) (k := 2197) (i := 0) (by decide) (fun j hj hne => by unfold visB; rw [n19, if_neg hne])
      have e1 : visB M 0 = 1 := by unfold visB; rw [n19, if_pos rfl, if_pos (by decide)]
      have e2 : visB m0 0 = 0 := by unfold visB; rw [h19 0 (by decide), if_neg (by decide)]
      rw [z 2197 (Nat.le_refl _), e1, e2] at e
      rw [n37]
      unfold visS
      omega
    · rw [n37] at hj
      have e : j = 0 := by omega
      subst e
      rw [v56, n20, n19, if_pos (show (0 : Int).toNat = 0 from rfl)]
      exact ⟨rfl, by decide, by decide⟩
    · by_cases e : t = 0
      · subst e
        refine Or.inr ⟨?_, ?_, Or.inl ⟨rfl, ?_, ?_⟩⟩
        · rw [n19, if_pos (rfl : 0 = 0), n37]
          decide
        · have c0 := hw.cu 0 (by decide)
          have c1 := hw.cu 1 (by decide)
          have c2 := hw.cu 2 (by decide)
          exact (okL_mk (l0 := 0) (l1 := 0) (l2 := 0) (by decide) (by decide) (by decide) (by decide) c0.1 c1.1 c2.1).2
        · rw [n19, if_pos rfl]
        · rw [v58, if_neg (by decide), if_pos rfl]
      · refine Or.inl ⟨?_, ?_⟩
        · rw [n19, if_neg e]
          exact h19 t ht
        · rw [v58, if_neg (by omega), if_neg (by omega)]
          exact z58 _ (by omega)
/-! the end: what is answered of it -/
theorem chain (h : BR b x s y m) : ∀ (D : Nat) (t : Nat) (k : Int) (q : Nat), t < 2197 → m 19 t = (D : Int) → 0 ≤ k → k + (D : Int) ≤ 2196 → D < q → L_X5_stepsTo_25 n q k (t : Int) y = some (k + (D : Int), y) := by
  intro D
  induction D with
  | zero =>
    intro t k q ht hd h0 hk hq
    obtain ⟨q, rfl⟩ : ∃ z, q = z + 1 := ⟨q - 1, by omega⟩
    have t0 : t = 0 := by
      rcases h.2.2.2.2 t ht with ⟨e, -⟩ | ⟨e, g, ⟨k1, -⟩ | ⟨-, bu, k1, k2, k3, k4, -⟩⟩
      · omega
      · exact k1
      · omega
    subst t0
    show B_X5_stepsTo_25 n (L_X5_stepsTo_25 n q) k ((0 : Nat) : Int) y = _
    unfold B_X5_stepsTo_25
    rw [if_neg (by omega), if_pos (show ((0 : Nat) : Int) = 0 from rfl)]
    exact E_some (by omega) rfl
  | succ D ih =>
    intro t k q ht hd h0 hk hq
    obtain ⟨q, rfl⟩ : ∃ z, q = z + 1 := ⟨q - 1, by omega⟩
    rcases h.2.2.2.2 t ht with ⟨e, -⟩ | ⟨e, g, ⟨k1, k2, -⟩ | ⟨k0, bu, k1, k2, k3, k4, -⟩⟩
    · omega
    · rw [k1, k2] at hd
      omega
    · have ea : F_X9_at n 57 (t : Int) 0 y = some ((bu : Int), y) := by
        rw [← k2]
        exact X_at (j := 0) h.1.2.2.1 (by have := h.1.2.2.2; omega) (by decide)
      show B_X5_stepsTo_25 n (L_X5_stepsTo_25 n q) k (t : Int) y = _
      unfold B_X5_stepsTo_25
      rw [if_neg (by omega), if_neg (by omega), E_bnd ea rfl, chk_pos (by omega), ih bu (k + 1) q k1 (by omega) (by omega) (by omega) (by omega)]
      exact E_some (by omega) rfl
theorem X_stepsTo (h : BR b x s y m) (hn : 10000 ≤ n) {t : Nat} (ht : t < 2197) : F_X5_stepsTo n (t : Int) y = some (m 19 t, y) := by
  have bc := BR_cnt h
  have ea : F_X9_at n 57 (t : Int) 0 y = some (y 58 (t * 2 + 0), y) := X_at (j := 0) h.1.2.2.1 (by have := h.1.2.2.2; omega) (by decide)
  unfold F_X5_stepsTo
  rw [if_neg (by omega), E_bnd ea rfl]
  rcases h.2.2.2.2 t ht with ⟨e, e2⟩ | ⟨e, g, hvs⟩
  · rw [show y 58 (t * 2 + 0) = -9 from e2, if_pos rfl, e]
  · have ne : y 58 (t * 2 + 0) ≠ -9 := by
      rcases hvs with ⟨k1, -, k3⟩ | ⟨-, bu, k1, k2, -⟩
      · rw [k1]
        show y 58 0 ≠ -9
        omega
      · show y 58 (t * 2) ≠ -9
        omega
    rw [if_neg ne]
    obtain ⟨D, hD⟩ : ∃ D : Nat, m 19 t = (D : Int) := ⟨(m 19 t).toNat, by omega⟩
    rw [chain (n := n) h D t 0 n ht hD (by decide) (by omega) (by omega), hD]
    exact E_some (by omega) rfl
theorem first_tw (h : BR b x s y m) (o : Int) : ∀ (d k : Nat) (q q' q2 : Nat), (k : Int) + (d : Int) = m 0 37 → d < q → d < q' → d < q2 → ∃ r : Int, L_X5_firstWith_2 n q o (k : Int) y = some (r, y) ∧ L_X12_pours_33 n q' o (k : Int) m = some (if r = -9 then -9 else m 19 r.toNat, m) ∧ L_X12_stateWith_2 n q2 o (k : Int) m = some (r, m) ∧ (r = -9 ∨ ((0 ≤ r ∧ r < 2197) ∧ 0 ≤ m 19 r.toNat)) := by
  intro d
  have bc := BR_cnt h
  have sz := h.2.2.1.1
  induction d with
  | zero =>
    intro k q q' q2 h1 hq hq' hq2
    obtain ⟨q, rfl⟩ : ∃ z, q = z + 1 := ⟨q - 1, by omega⟩
    obtain ⟨q', rfl⟩ : ∃ z, q' = z + 1 := ⟨q' - 1, by omega⟩
    obtain ⟨q2, rfl⟩ : ∃ z, q2 = z + 1 := ⟨q2 - 1, by omega⟩
    refine ⟨-9, ?_, ?_, ?_, Or.inl rfl⟩
    · show B_X5_firstWith_2 n (L_X5_firstWith_2 n q) o (k : Int) y = _
      unfold B_X5_firstWith_2
      rw [E_bnd (X_size n 55 y) rfl, if_pos (by omega)]
    · show B_X12_pours_33 n (L_X12_pours_33 n q') o (k : Int) m = _
      unfold B_X12_pours_33
      rw [if_pos (by omega), if_pos rfl]
    · show B_X12_stateWith_2 n (L_X12_stateWith_2 n q2) o (k : Int) m = _
      unfold B_X12_stateWith_2
      rw [if_pos (by omega)]
  | succ d ih =>
    intro k q q' q2 h1 hq hq' hq2
    obtain ⟨q, rfl⟩ : ∃ z, q = z + 1 := ⟨q - 1, by omega⟩
    obtain ⟨q', rfl⟩ : ∃ z, q' = z + 1 := ⟨q' - 1, by omega⟩
    obtain ⟨q2, rfl⟩ : ∃ z, q2 = z + 1 := ⟨q2 - 1, by omega⟩
    obtain ⟨a1, a2, a3⟩ := h.2.2.2.1 k (by omega)
    obtain ⟨r, f1, f2, f3, f4⟩ := ih (k + 1) q q' q2 (by omega) (by omega) (by omega) (by omega)
    have ea : F_X9_at n 55 (k : Int) 0 y = some (m 20 k, y) := by
      rw [← a1]
      exact X_at0 h.1.2.1 (by omega)
    have i0 := M_inCup (n := n) a2 (c := 0) (by decide) m
    have i1 := M_inCup (n := n) a2 (c := 1) (by decide) m
    have i2 := M_inCup (n := n) a2 (c := 2) (by decide) m
    have eX : L_X5_firstWith_2 n (q + 1) o (k : Int) y = if lvI (m 20 k) 0 = o then some (m 20 k, y) else if lvI (m 20 k) 1 = o then some (m 20 k, y) else if lvI (m 20 k) 2 = o then some (m 20 k, y) else L_X5_firstWith_2 n q o ((k + 1 : Nat) : Int) y := by
      show B_X5_firstWith_2 n (L_X5_firstWith_2 n q) o (k : Int) y = _
      unfold B_X5_firstWith_2
      rw [E_bnd (X_size n 55 y) rfl, if_neg (by omega), E_bnd ea rfl, E_bnd (X_level a2.1 y) rfl, E_bnd (X_level a2.1 y) rfl, E_bnd (X_level a2.1 y) rfl, chk_pos (by omega), cast1]
    have eP : L_X12_pours_33 n (q' + 1) o (k : Int) m = if lvI (m 20 k) 0 = o then some (m 19 (m 20 k).toNat, m) else if lvI (m 20 k) 1 = o then some (m 19 (m 20 k).toNat, m) else if lvI (m 20 k) 2 = o then some (m 19 (m 20 k).toNat, m) else L_X12_pours_33 n q' o ((k + 1 : Nat) : Int) m := by
      show B_X12_pours_33 n (L_X12_pours_33 n q') o (k : Int) m = _
      unfold B_X12_pours_33
      rw [if_neg (by omega), zM20, zM19, chk_pos (by omega), Int.toNat_natCast, E_bnd i0 rfl, E_bnd i1 rfl, E_bnd i2 rfl, chk_pos (by omega), chk_pos (by omega), cast1]
    have eS : L_X12_stateWith_2 n (q2 + 1) o (k : Int) m = if lvI (m 20 k) 0 = o then some (m 20 k, m) else if lvI (m 20 k) 1 = o then some (m 20 k, m) else if lvI (m 20 k) 2 = o then some (m 20 k, m) else L_X12_stateWith_2 n q2 o ((k + 1 : Nat) : Int) m := by
      show B_X12_stateWith_2 n (L_X12_stateWith_2 n q2) o (k : Int) m = _
      unfold B_X12_stateWith_2
      rw [if_neg (by omega), zM20, chk_pos (by omega), Int.toNat_natCast, E_bnd i0 rfl, E_bnd i1 rfl, E_bnd i2 rfl, chk_pos (by omega), cast1]
    rw [eX, eP, eS]
    have n9 : ¬ m 20 k = -9 := by omega
    by_cases c0 : lvI (m 20 k) 0 = o
    · rw [if_pos c0, if_pos c0, if_pos c0]
      exact ⟨m 20 k, rfl, by rw [if_neg n9], rfl, Or.inr ⟨a2, a3⟩⟩
    · rw [if_neg c0, if_neg c0, if_neg c0]
      by_cases c1 : lvI (m 20 k) 1 = o
      · rw [if_pos c1, if_pos c1, if_pos c1]
        exact ⟨m 20 k, rfl, by rw [if_neg n9], rfl, Or.inr ⟨a2, a3⟩⟩
      · rw [if_neg c1, if_neg c1, if_neg c1]
        by_cases c2 : lvI (m 20 k) 2 = o
        · rw [if_pos c2, if_pos c2, if_pos c2]
          exact ⟨m 20 k, rfl, by rw [if_neg n9], rfl, Or.inr ⟨a2, a3⟩⟩
        · rw [if_neg c2, if_neg c2, if_neg c2]
          exact ⟨r, f1, f2, f3, f4⟩
theorem clearA {f : ZMem → ZR} (hf : ∀ k m, B_X12_pourAll_2 n (L_X12_pourAll_2 n k) 2197 m = f m) : ∀ (d k : Nat) (m1 : ZMem) (q : Nat), k + d = 2197 → AG kP s m1 → (∀ t, t < k → m1 19 t = -9) → d < q → ∃ m0, L_X12_pourAll_2 n q (k : Int) m1 = f m0 ∧ AG kP s m0 ∧ ∀ t, t < 2197 → m0 19 t = -9 := by
  intro d
  induction d with
  | zero =>
    intro k m1 q h1 h2 hi hq
    obtain ⟨q, rfl⟩ : ∃ z, q = z + 1 := ⟨q - 1, by omega⟩
    refine ⟨m1, ?_, h2, fun t ht => hi t (by omega)⟩
    rw [← hf q m1, show k = 2197 by omega]
    rfl
  | succ d ih =>
    intro k m1 q h1 h2 hi hq
    obtain ⟨q, rfl⟩ : ∃ z, q = z + 1 := ⟨q - 1, by omega⟩
    show ∃ m0, B_X12_pourAll_2 n (L_X12_pourAll_2 n q) (k : Int) m1 = f m0 ∧ AG kP s m0 ∧ ∀ t, t < 2197 → m0 19 t = -9
    unfold B_X12_pourAll_2
    rw [if_neg (by omega), zM19, chk_pos (by omega), chk_pos (by omega), Int.toNat_natCast, cast1]
    refine ih (k + 1) _ q (by omega) (h2.wr rfl) (fun t ht => ?_) (by omega)
    by_cases e : t = k
    · rw [e, wr_eq]
    · rw [wr_nk e]
      exact hi t (by omega)
theorem searchA (h : CP c x m) (hn : 10000 ≤ n) : ∃ y m2, F_X5_seekAll n x = some (0, y) ∧ F_X12_pourAll n (wr m 0 16 0) = some (0, m2) ∧ BR false x (wr m 0 16 0) y m2 := by
  have hw := WFs_t h.k.2
  have hk := XK_t (k := 1) h.k.1
  obtain ⟨m0, e0, g0, g1⟩ := clearA (n := n) (s := wr m 0 16 0) (f := fun m => bnd (F_X12_reach n 0 0 (wr m 0 37 0)) (fun v2 m3 => L_X12_pourAll_36 n n 0 m3)) (fun k m => by unfold B_X12_pourAll_2; rw [if_pos (by decide)]) 2197 0 (wr m 0 16 0) n (by decide) AG.rf (fun t ht => by omega) (by omega)
  obtain ⟨m1, e1, hB, z0⟩ := BR_start (b := false) (n := n) h.s hw hn (m0 := wr m0 0 37 0) (g0.wr rfl) (fun t ht => by rw [wr_nr (by decide)]; exact g1 t ht) wr_eq
  obtain ⟨y, m2, f1, f2, f3⟩ := outA (n := n) hk hw hn 2197 0 _ m1 n n (by decide) hB (by omega) (by omega) (by omega)
  have e0' : F_X12_pourAll n (wr m 0 16 0) = _ := e0
  refine ⟨y, m2, ?_, ?_, f3⟩
  · rw [(X_seek0 (n := n) h.s hn).1]
    exact f1
  · rw [e0']
    show bnd (F_X12_reach n 0 0 (wr m0 0 37 0)) (fun v2 m3 => L_X12_pourAll_36 n n 0 m3) = _
    rw [E_bnd e1 rfl]
    exact f2
theorem CP_search (h : CP c x m) {m2 : ZMem} (hB : BR b x (wr m 0 16 0) y m2) : CP (c + 1) y m2 := by
  obtain ⟨⟨i1, i2, i3, -⟩, g1, -⟩ := hB
  refine CP_same h (i1.sub (by intro i j hij; simp only [kXa, kXl, kXr, kXe, kXf, kXt, kV, Bool.or_eq_true, Bool.and_eq_true, decide_eq_true_eq, Bool.not_eq_true', Bool.and_eq_false_iff, decide_eq_false_iff_not] at hij ⊢; omega)) ?_ (AG.tr (AG.rf.wr rfl) (g1.sub (by
    intro i j hij
    simp only [kMa, kMk, kMi, kMl, kMr, kMe, kMf, kP, Bool.or_eq_true, Bool.and_eq_true, decide_eq_true_eq, Bool.not_eq_true', Bool.and_eq_false_iff, decide_eq_false_iff_not] at hij ⊢
    by_cases e : i = 0
    · rw [if_pos e] at hij
      simp only [Bool.or_eq_true, decide_eq_true_eq] at hij
      omega
    · rw [if_neg e] at hij
      simp only [Bool.or_eq_true, decide_eq_true_eq] at hij
      omega)))
  obtain ⟨t1, t2, t3, t4, t5, t6⟩ := h.s
  exact ⟨TB_fr t1 (i1 _ _ rfl) (i1 _ _ rfl) (i1 _ _ rfl), TB_fr t2 (i1 _ _ rfl) (i1 _ _ rfl) (i1 _ _ rfl), i2, i3, TB_fr t5 (i1 _ _ rfl) (i1 _ _ rfl) (i1 _ _ rfl), TB_fr t6 (i1 _ _ rfl) (i1 _ _ rfl) (i1 _ _ rfl)⟩
theorem op_pours (h : CP c x m) (hc : c ≤ 1000) (hn : 10000 ≤ n) (o : Int) : SIM c (F_X11_pours n o x) (F_X12_pours n o m) := by
  have b3 := outS_bd 1 12 o
  have ew : F_X12_wrongNumber n o 1 12 (wr m 0 16 0) = some (outS 1 12 o, wr m 0 16 0) := M_wrong _ _ _ _ _
  unfold F_X11_pours F_X12_pours
  by_cases h0 : outS 1 12 o = 0
  · obtain ⟨y, m2, e1, e2, hB⟩ := searchA (n := n) h hn
    have bc := BR_cnt hB
    obtain ⟨r, f1, f2, -, f4⟩ := first_tw (n := n) hB o (m2 0 37).toNat 0 n n n (by omega) (by omega) (by omega) (by omega)
    have f1' : L_X5_firstWith_2 n n o 0 y = some (r, y) := f1
    have f2' : L_X12_pours_33 n n o 0 m2 = _ := f2
    refine ⟨if r = -9 then -9 else m2 19 r.toNat, y, m2, ?_, ?_, CP_search h hB⟩
    · rw [E_bnd (X_outside _ _ _ _ _) rfl, E_bnd (X_noto h0) rfl, if_pos rfl, bnd_id]
      unfold F_X5_fewestTo F_X5_firstWith
      rw [E_bnd e1 rfl, E_bnd f1' rfl, bnd_id]
      rcases f4 with e | ⟨e, -⟩
      · rw [if_pos e, e]
        unfold F_X5_stepsTo
        rw [if_pos (by decide)]
      · rw [if_neg (by omega)]
        have := X_stepsTo (n := n) hB hn (t := r.toNat) (by omega)
        rw [show ((r.toNat : Nat) : Int) = r by omega] at this
        exact this
    · rw [E_bnd ew rfl, if_pos (by omega), E_bnd e2 rfl, f2']
  · refine SIM_ref h (r := outS 1 12 o) (by omega) ?_ ?_
    · rw [E_bnd (X_outside _ _ _ _ _) rfl, E_bnd (X_refo h.f hc b3 h0) rfl, if_neg h0]
    · rw [E_bnd ew rfl, if_neg (by omega), E_bnd ew rfl]
      exact E_bnd (M_ref h hc (by omega)) rfl
theorem op_steps (h : CP c x m) (hc : c ≤ 1000) (hn : 10000 ≤ n) (a e f : Int) : SIM c (F_X11_steps n a e f x) (F_X12_steps n a e f m) := by
  have b3 := eaS_bd 12 a e f
  unfold F_X11_steps F_X12_steps
  by_cases c1 : a < 0 ∨ e < 0 ∨ f < 0
  · have e4 : eaS 12 a e f = -4 := by unfold eaS; rw [if_pos c1]
    refine SIM_ref h (r := -4) (by decide) ?_ ?_
    · rw [E_bnd (X_each _ _ _ _ _ _) rfl, e4, E_bnd (X_refo h.f hc (by decide) (by decide)) rfl, if_neg (by decide)]
    · refine E_ite (fun _ => E_bnd (M_ref h hc (by decide)) rfl) (fun _ => E_ite (fun _ => E_bnd (M_ref h hc (by decide)) rfl) (fun _ => ?_))
      rw [if_neg (by omega)]
      exact E_bnd (M_ref h hc (by decide)) rfl
  by_cases c2 : 12 < a ∨ 12 < e ∨ 12 < f
  · have e4 : eaS 12 a e f = -6 := by unfold eaS; rw [if_neg c1, if_pos c2]
    refine SIM_ref h (r := -6) (by decide) ?_ ?_
    · rw [E_bnd (X_each _ _ _ _ _ _) rfl, e4, E_bnd (X_refo h.f hc (by decide) (by decide)) rfl, if_neg (by decide)]
    · rw [if_neg (by omega), if_neg (by omega), if_pos (by omega)]
      refine E_ite (fun _ => E_bnd (M_ref h hc (by decide)) rfl) (fun _ => E_ite (fun _ => E_bnd (M_ref h hc (by decide)) rfl) (fun _ => ?_))
      rw [if_neg (by omega)]
      exact E_bnd (M_ref h hc (by decide)) rfl
  have e4 : eaS 12 a e f = 0 := by unfold eaS; rw [if_neg c1, if_neg c2]
  obtain ⟨y, m2, e1, e2, hB⟩ := searchA (n := n) h hn
  obtain ⟨t, ht⟩ : ∃ t : Nat, a + 13 * e + 169 * f = (t : Int) := ⟨(a + 13 * e + 169 * f).toNat, by omega⟩
  refine ⟨m2 19 t, y, m2, ?_, ?_, CP_search h hB⟩
  · rw [E_bnd (X_each _ _ _ _ _ _) rfl, E_bnd (X_noto e4) rfl, if_pos rfl, bnd_id]
    unfold F_X5_fewestToAll
    rw [E_bnd e1 rfl, E_bnd (X_unit 1 y) rfl, un1, chk_pos (by omega), chk_pos (by omega), E_bnd (X_unit 2 y) rfl, un2, chk_pos (by omega), chk_pos (by omega), bnd_id, ht]
    exact X_stepsTo hB hn (by omega)
  · rw [if_neg (by omega), if_neg (by omega), if_pos (by omega), if_neg (by omega), if_neg (by omega), if_pos (by omega), E_bnd e2 rfl, chk_pos (by omega), chk_pos (by omega), chk_pos (by omega), chk_pos (by omega), ht, zM19, chk_pos (by omega), Int.toNat_natCast]
end ZOP24
