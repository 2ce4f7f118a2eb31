/-! OPERATIONS 26: book -/
theorem fId_cases {a : Int} (h : fId a ≠ 6) : (a = 102 ∧ fId a = 0) ∨ (a = 112 ∧ fId a = 1) ∨ (a = 104 ∧ fId a = 2) ∨ (a = 116 ∧ fId a = 3) ∨ (a = 115 ∧ fId a = 4) ∨ (a = 99 ∧ fId a = 5) := by
  by_cases c1 : a = 102
  · subst c1; exact Or.inl ⟨rfl, rfl⟩
  by_cases c2 : a = 112
  · subst c2; exact Or.inr (Or.inl ⟨rfl, rfl⟩)
  by_cases c3 : a = 104
  · subst c3; exact Or.inr (Or.inr (Or.inl ⟨rfl, rfl⟩))
  by_cases c4 : a = 116
  · subst c4; exact Or.inr (Or.inr (Or.inr (Or.inl ⟨rfl, rfl⟩)))
  by_cases c5 : a = 115
  · subst c5; exact Or.inr (Or.inr (Or.inr (Or.inr (Or.inl ⟨rfl, rfl⟩))))
  by_cases c6 : a = 99
  · subst c6; exact Or.inr (Or.inr (Or.inr (Or.inr (Or.inr ⟨rfl, rfl⟩))))
  exfalso
  apply h
  unfold fId
  rw [if_neg c6, if_neg c1, if_neg c3, if_neg c2, if_neg c5, if_neg c4]
def kAB (i j : Nat) : Bool := kA27 i j && kT i j
section ZBK
variable {x s y y0 m m0 : ZMem} {n S p c : Nat} {A : Nat → Int}
theorem came (hX : XK y 27 m) (hw : WFs m) (hn : 10000 ≤ n) (hc2 : c < 49) (hok : stOk S A p = true) (hTL : TL (stN S A p) y) (h13 : m 13 c = ltr S A p) (hy : ∀ t, t < stN S A p → y 44 t = stV S A p t) (hm : ∀ t, t < stN S A p → m 14 (5 * c + t) = stV S A p t) : APR y m (F_X1_statementCame n (ltr S A p) y) (F_X12_comes n (c : Int) m) := by
  have h6 : fId (ltr S A p) ≠ 6 := by
    unfold stOk at hok
    simp only [Bool.and_eq_true, decide_eq_true_eq] at hok
    exact hok.2
  have hv : ∀ t, t < stN S A p → m 14 (5 * c + t) = y 44 t := fun t ht => by rw [hm t ht, hy t ht]
  have rg : ∀ t, t < stN S A p → 0 ≤ y 44 t ∧ y 44 t ≤ 99 := fun t ht => by
    rw [hy t ht]
    exact rd_v _ _
  rcases fId_cases h6 with ⟨e, f⟩ | ⟨e, f⟩ | ⟨e, f⟩ | ⟨e, f⟩ | ⟨e, f⟩ | ⟨e, f⟩
  · have eN : stN S A p = 1 := by unfold stN; rw [f]; decide +kernel
    rw [eN] at hTL hv
    rw [e] at h13 ⊢
    exact came_for hX hw hc2 hTL h13 (hv 0 (by decide))
  · have eN : stN S A p = 4 := by unfold stN; rw [f]; decide +kernel
    have d : ∀ t, t < 3 → y 44 t ≤ 9 := fun t ht => by
      rw [hy t (by omega)]
      unfold stV
      rw [f]
      have h3 : t = 0 ∨ t = 1 ∨ t = 2 := by omega
      rcases h3 with rfl | rfl | rfl <;> exact rd_v1 _
    rw [eN] at hTL hv rg
    rw [e] at h13 ⊢
    have a0 := rg 0 (by decide)
    have a1 := rg 1 (by decide)
    have a2 := rg 2 (by decide)
    exact came_part hX hw hn hc2 hTL h13 hv ⟨a0.1, d 0 (by decide)⟩ ⟨a1.1, d 1 (by decide)⟩ ⟨a2.1, d 2 (by decide)⟩ (rg 3 (by decide))
  · have eN : stN S A p = 2 := by unfold stN; rw [f]; decide +kernel
    have d : y 44 0 ≤ 9 := by
      rw [hy 0 (by omega)]
      unfold stV
      rw [f]
      exact rd_v1 _
    rw [eN] at hTL hv rg
    rw [e] at h13 ⊢
    exact came_house hX hw hc2 hTL h13 hv ⟨(rg 0 (by decide)).1, d⟩ (rg 1 (by decide))
  · have eN : stN S A p = 2 := by unfold stN; rw [f]; decide +kernel
    have d : y 44 0 = 0 ∨ y 44 0 = 1 := by
      rw [hy 0 (by omega)]
      unfold stV
      rw [f]
      exact rd_vO _
    rw [eN] at hTL hv
    rw [e] at h13 ⊢
    exact came_tin hX hw hn hc2 hTL h13 hv d
  · have eN : stN S A p = 5 := by unfold stN; rw [f]; decide +kernel
    have d : ∀ t, t < 5 → y 44 t ≤ 9 := fun t ht => by
      rw [hy t (by omega)]
      unfold stV
      rw [f]
      have h3 : t = 0 ∨ t = 1 ∨ t = 2 ∨ t = 3 ∨ t = 4 := by omega
      rcases h3 with rfl | rfl | rfl | rfl | rfl <;> exact rd_v1 _
    rw [eN] at hTL hv rg
    rw [e] at h13 ⊢
    exact came_stand hX hw hn hc2 hTL h13 hv (fun t ht => ⟨(rg t ht).1, d t ht⟩)
  · have eN : stN S A p = 3 := by unfold stN; rw [f]; decide +kernel
    rw [eN] at hTL hv rg
    rw [e] at h13 ⊢
    exact came_cups hX hw hn hc2 hTL h13 hv (fun t ht => (rg t ht).1)
theorem XK_SA {k : Nat} {s' : ZMem} (h : XK x k s) (hw : WFs s) (hs : SA s s') : XK x k s' := by
  obtain ⟨⟨f1, f2, f3, f4⟩, tt, ⟨s1, s2, s3, s4, s5, s6⟩, h4, h5, h6, h7, h8, h9⟩ := h
  have z := fun b hb => hs.z (b := b) hb
  have z41 : s' 0 41 = s 0 41 := hs 0 41 (by decide)
  have z47 : s' 0 47 = s 0 47 := hs 0 47 (by decide)
  have np := hw.np
  have nt := hw.nt
  have ns := hw.ns
  have nw := hw.nw
  have nd := hw.nd
  refine ⟨⟨by rw [z 0 (by omega)]; exact f1, by rw [z 1 (by omega)]; exact f2, by rw [z 5 (by omega)]; exact f3, by rw [z 6 (by omega)]; exact f4⟩, tt, ⟨by rw [z 2 (by omega)]; exact s1, by rw [z 3 (by omega)]; exact s2, by rw [z 4 (by omega)]; exact s3, s4, by rw [z41]; exact s5, by rw [z47]; exact s6⟩, ?_, ?_, ?_, ?_, ?_, ?_⟩
  · intro p hp
    rw [z 2 (by omega)] at hp
    rw [hs.p (r := 1) (by decide) (by decide) (by omega), hs.p (r := 2) (by decide) (by decide) (by omega), hs.p (r := 3) (by decide) (by decide) (by omega), hs.p (r := 4) (by decide) (by decide) (by omega), hs.p (r := 5) (by decide) (by decide) (by omega), hs 21 p (by rw [pos_21 (by omega)]; omega), hs 22 p (by rw [pos_22 (by omega)]; omega)]
    exact h4 p hp
  · intro p hp
    rw [z 3 (by omega)] at hp
    rw [hs 6 p (by rw [pos_6 (by omega)]; omega), hs 7 p (by rw [pos_7 (by omega)]; omega)]
    exact h5 p hp
  · intro i hi c hc
    rw [z 4 (by omega)] at hi
    rw [hs 8 _ (by rw [pos_8 (by omega)]; omega)]
    exact h6 i hi c hc
  · intro c hc
    rw [hs 9 c (by rw [pos_9 (by omega)]; omega)]
    exact h7 c hc
  · intro w hw
    rw [z41] at hw
    rw [hs 23 w (by rw [pos_23 (by omega)]; omega)]
    exact h8 w hw
  · intro d hd c hc
    rw [z47] at hd
    rw [hs 28 _ (by rw [pos_28 (by omega)]; omega)]
    exact h9 d hd c hc
/-- what the reference keeps through a book, the letters' number aside -/
def kBM (i j : Nat) : Bool := decide (i = 10) || decide (i = 11) || decide (i = 16) || decide (i = 17) || decide (i = 29) || (decide (i = 0) && (decide (j = 28) || decide (j = 49) || decide (j = 33)))
def BEND (y0 ms : ZMem) (C : Nat) (ox om : ZR) : Prop :=
  (∃ (y' m' : ZMem) (r : Int), r ≤ -2000 ∧ ox = some (r, y') ∧ om = some (r, m') ∧ AG kAB y0 y' ∧ TB y' 43 5 1 ∧ XT y' 27 ∧ AG kBM ms m' ∧ m' 0 19 = ms 0 19 ∧ SA ms m') ∨
  (∃ (y' m' : ZMem), ox = some ((C : Int), y') ∧ om = some ((C : Int), wr m' 0 33 0) ∧ AG kAB y0 y' ∧ TB y' 43 5 1 ∧ AG kKit ms m' ∧ XK y' 27 m' ∧ WFs m')
theorem kAB_of_T (h : AG kT y0 y) : AG kAB y0 y := h.sub (fun i j hij => by
  unfold kAB at hij
  simp only [Bool.and_eq_true] at hij
  exact hij.2)
theorem kAB_of_A (h : AG kA27 y0 y) : AG kAB y0 y := h.sub (fun i j hij => by
  unfold kAB at hij
  simp only [Bool.and_eq_true] at hij
  exact hij.1)
theorem LB_AB (h : LB S A y0) (hA : AG kAB y0 y) : LB S A y := by
  obtain ⟨h1, h2, h3⟩ := h
  refine ⟨TB_fr h1 (hA _ _ rfl) (hA _ _ rfl) (hA _ _ rfl), by rw [hA 41 3 rfl]; exact h2, fun j hj => ?_⟩
  rw [hA 42 j rfl]
  exact h3 j hj
theorem XK_T (h : XK y0 27 s) (hA : AG kT y0 y) : XK y 27 s := XK_fr h (fun i j h1 h2 => hA i j (by simp [kT]; omega)) AG.rf
theorem came_loop (hL : LB S A y0) (hn : 10000 ≤ n) {ms : ZMem} {C : Nat} (hC : C ≤ 32) (hS : S ≤ 96) (hCp : S ≤ pls S A C) (hpl : ∀ c, c < C → pls S A c < S ∧ 3 * c ≤ pls S A c) (hms : STO S A C ms) (h22 : ms 0 22 = (C : Int)) (hsv : ∀ i j, pos i j < 133 → ms 15 (pos i j) = ms i j) : ∀ (d c : Nat) (y m : ZMem) (q q' : Nat), c + d = C → AG kAB y0 y → TB y 43 5 1 → y 40 2 = (pls S A c : Int) → XK y 27 m → WFs m → AG kKit ms m → d < q → d < q' → BEND y0 ms C (L_X1_statementsTo_9 n q (c : Int) (c : Int) y) (L_X12_book_84 n q' (c : Int) m) := by
  intro d
  induction d with
  | zero =>
    intro c y m q q' h1 a1 a2 a3 hX hw hk hq hq'
    obtain ⟨q, rfl⟩ : ∃ z, q = z + 1 := ⟨q - 1, by omega⟩
    obtain ⟨q', rfl⟩ : ∃ z, q' = z + 1 := ⟨q' - 1, by omega⟩
    have ec : c = C := by omega
    subst ec
    have hLy := LB_AB hL a1
    have m22 : m 0 22 = (c : Int) := by rw [hk 0 22 rfl]; exact h22
    refine Or.inr ⟨y, m, ?_, ?_, a1, a2, hk, hX, hw⟩
    · show B_X1_statementsTo_9 n (L_X1_statementsTo_9 n q) (c : Int) (c : Int) y = _
      unfold B_X1_statementsTo_9
      rw [E_bnd (X_size n 41 y) rfl, E_bnd (X_size n 41 y) rfl, hLy.2.1]
      refine E_ite (fun _ => rfl) (fun _ => ?_)
      rw [a3, if_pos (by omega)]
    · show B_X12_book_84 n (L_X12_book_84 n q') (c : Int) m = _
      unfold B_X12_book_84
      rw [m22, if_pos (Int.le_refl _), wr_nk (by decide), m22]
  | succ d ih =>
    intro c y m q q' h1 a1 a2 a3 hX hw hk hq hq'
    obtain ⟨q, rfl⟩ : ∃ z, q = z + 1 := ⟨q - 1, by omega⟩
    obtain ⟨q', rfl⟩ : ∃ z, q' = z + 1 := ⟨q' - 1, by omega⟩
    have hLy := LB_AB hL a1
    obtain ⟨pl1, pl2⟩ := hpl c (by omega)
    obtain ⟨k1, k2, k3, k4⟩ := hms c (by omega)
    have m22 : m 0 22 = (C : Int) := by rw [hk 0 22 rfl]; exact h22
    have m12 : m 12 c = (pls S A c : Int) := by rw [hk 12 c rfl]; exact k2
    have m13 : m 13 c = ltr S A (pls S A c) := by rw [hk 13 c rfl]; exact k3
    obtain ⟨y1, e1, x1, x2, x3, x4⟩ := X_statement hLy hn a2 (p := pls S A c) (by omega) a3
    rw [k1] at e1
    obtain ⟨x5, x6⟩ := x4 k1
    have n5 := stN5 (S := S) (A := A) (p := pls S A c)
    have hLy1 := LB_ag hLy x1
    obtain ⟨b, y2, m2, f1, f2, f3, f4, f6, f5⟩ := came (n := n) (XK_T hX x1) hw hn (c := c) (by omega) k1 ⟨x2, x5⟩ m13 x6 (fun t ht => by rw [hk 14 _ rfl]; exact k4 t ht)
    have ea : F_X9_at n 41 (pls S A c : Int) 0 y1 = some (ltr S A (pls S A c), y1) := X_ltr hLy1 _
    have eX : L_X1_statementsTo_9 n (q + 1) (c : Int) (c : Int) y = if b01 b = 0 then some (-2000 - (pls S A c : Int), y2) else L_X1_statementsTo_9 n q ((c + 1 : Nat) : Int) ((c + 1 : Nat) : Int) y2 := by
      show B_X1_statementsTo_9 n (L_X1_statementsTo_9 n q) (c : Int) (c : Int) y = _
      unfold B_X1_statementsTo_9
      rw [E_bnd (X_size n 41 y) rfl, E_bnd (X_size n 41 y) rfl, hLy.2.1, if_neg (by omega), a3, if_neg (by omega), E_bnd e1 rfl, b01_t, if_neg (by decide), E_bnd ea rfl, E_bnd f1 rfl, chk_pos (by omega), chk_pos (by omega), chk_pos (by omega), cast1]
    have g1 : AG kAB y0 y2 := (a1.tr (kAB_of_T x1)).tr (kAB_of_A f3)
    have g2 : AG kKit ms m2 := hk.tr f4
    have t2 : TB y2 43 5 1 := TB_fr x2 (f3 _ _ rfl) (f3 _ _ rfl) (f3 _ _ rfl)
    rw [eX]
    show BEND y0 ms C _ (B_X12_book_84 n (L_X12_book_84 n q') (c : Int) m)
    unfold B_X12_book_84
    rw [m22, if_neg (show ¬ (C : Int) ≤ (c : Int) by omega), E_bnd f2 rfl]
    cases b with
    | false =>
      rw [b01_f, if_pos rfl, if_pos rfl]
      obtain ⟨m3, e3, g3, g4⟩ := M_carryAll5 (n := n) (md := 0) hn (Or.inl rfl) m2
      have g5 : (∀ i j, pos i j < 133 → m3 i j = m2 15 (pos i j)) ∧ (∀ i j, 133 ≤ pos i j → ¬ (i = 0 ∧ 29 ≤ j ∧ j ≤ 31) → m3 i j = m2 i j) := by
        rcases g4 with ⟨a, -⟩ | ⟨-, a, b⟩
        · exact absurd a (by decide)
        · exact ⟨a, b⟩
      have big : ∀ {i j : Nat}, (i = 10 ∨ i = 11 ∨ i = 12 ∨ i = 16 ∨ i = 17 ∨ i = 29 ∨ (i = 0 ∧ (j = 28 ∨ j = 19 ∨ j = 49 ∨ j = 33))) → 133 ≤ pos i j := by
        intro i j h
        rcases h with rfl | rfl | rfl | rfl | rfl | rfl | ⟨rfl, rfl | rfl | rfl | rfl⟩ <;> exact (by decide : 133 ≤ 1000)
      have m3_12 : m3 12 c = (pls S A c : Int) := by rw [g5.2 12 c (big (by omega)) (by omega), g2 12 c rfl]; exact k2
      rw [E_bnd e3 rfl, zM12, chk_pos (by omega), Int.toNat_natCast, m3_12, chk_pos (by omega)]
      refine Or.inl ⟨y2, m3, -2000 - (pls S A c : Int), by omega, rfl, rfl, g1, t2, f6, fun i j hij => ?_, ?_, fun i j hij => ?_⟩
      · simp only [kBM, Bool.or_eq_true, Bool.and_eq_true, decide_eq_true_eq] at hij
        rw [g5.2 i j (big (by omega)) (by omega)]
        exact g2 i j (by simp only [kKit, Bool.and_eq_true, decide_eq_true_eq, Bool.not_eq_true', Bool.and_eq_false_iff, decide_eq_false_iff_not]; omega)
      · rw [g5.2 0 19 (big (by omega)) (by omega), g2 0 19 rfl]
      · rw [g5.1 i j hij, g2 15 _ rfl]
        exact hsv i j hij
    | true =>
      obtain ⟨hX2, hw2⟩ := f5 rfl
      rw [b01_t, if_neg (by decide), if_neg (by decide), chk_pos (by omega), cast1]
      exact ih (c + 1) y2 m2 q q' (by omega) g1 t2 (by rw [f3 40 2 rfl]; exact x3) hX2 hw2 g2 (by omega) (by omega)
/-- what the class keeps through a book -/
def kZ (i j : Nat) : Bool := !(decide (27 ≤ i) && decide (i ≤ 39)) && !(decide (i = 40) && decide (j = 2)) && !(decide (i = 41) && decide (j = 3)) && !(decide (i = 43) && decide (j = 3)) && decide (i ≠ 44)
theorem kZ_of {y1 : ZMem} (h : AG kZ x y1) (hA : AG kAB y1 y) : AG kZ x y := h.tr (hA.sub (fun i j hij => by
  simp only [kZ, Bool.and_eq_true, Bool.not_eq_true', Bool.and_eq_false_iff, decide_eq_false_iff_not, decide_eq_true_eq] at hij
  simp only [kAB, kA27, kT, Bool.and_eq_true, Bool.or_eq_true, Bool.not_eq_true', Bool.and_eq_false_iff, decide_eq_false_iff_not, decide_eq_true_eq]
  omega))
/-- a book that doesn't come: all as before, the letters gone -/
theorem CP_nobook {cc : Nat} (h : CP cc x m) {y m' : ZMem} (hx : AG kZ x y) (h43 : TB y 43 5 1) (h27 : XT y 27) (hm : AG kBM m m') (hsa : SA m m') (h19 : m' 0 19 = 0) : CP (cc + 1) (wr y 41 3 0) m' := by
  have hz : ∀ i j, kZ i j = true → wr y 41 3 0 i j = x i j := by
    intro i j hij
    rw [wr_ne (by simp only [kZ, Bool.and_eq_true, Bool.not_eq_true', Bool.and_eq_false_iff, decide_eq_false_iff_not, decide_eq_true_eq] at hij; omega)]
    exact hx i j hij
  have hAx : AG kZ x (wr y 41 3 0) := hz
  have k1 : XK (wr y 41 3 0) 1 m' := XK_SA (XK_fr h.k.1 (fun i j h1 h2 => hz i j (by simp [kZ]; omega)) AG.rf) h.k.2 hsa
  obtain ⟨l1, l2, l3⟩ := h.l
  obtain ⟨t1, t2, t3, t4, t5, t6⟩ := h.s
  have sub : ∀ {kp : Nat → Nat → Bool}, (∀ i j, kp i j = true → kZ i j = true) → AG kp x (wr y 41 3 0) := fun h => hAx.sub h
  have subm : ∀ {kp : Nat → Nat → Bool}, (∀ i j, kp i j = true → kBM i j = true) → AG kp m m' := fun h => hm.sub h
  refine ⟨⟨k1, WFs_SA h.k.2 hsa⟩, CPi_fr h.i (sub ?_) (subm ?_), ⟨XT_A h.t.1 (fun i j h1 h2 => hz i j (by simp [kZ]; omega)), XT_A h27 (fun i j h1 h2 => wr_nr (by omega))⟩, ⟨TB_sz l1 (hz 41 1 rfl) (hz 41 2 rfl) (by rw [wr_eq]; decide), by rw [wr_eq, h19], fun j hj => by rw [h19] at hj; omega⟩, CPr_fr h.r (sub ?_) (subm ?_), CPe_fr h.e (sub ?_) (subm ?_), CPf_fr h.f (sub ?_) (subm ?_), ⟨TB_fr h43 (wr_nr (by decide)) (wr_nr (by decide)) (wr_nr (by decide)), TB_fr t2 (hz _ _ rfl) (hz _ _ rfl) (hz _ _ rfl), TB_fr t3 (hz _ _ rfl) (hz _ _ rfl) (hz _ _ rfl), TB_fr t4 (hz _ _ rfl) (hz _ _ rfl) (hz _ _ rfl), TB_fr t5 (hz _ _ rfl) (hz _ _ rfl) (hz _ _ rfl), TB_fr t6 (hz _ _ rfl) (hz _ _ rfl) (hz _ _ rfl)⟩⟩
  all_goals
    intro i j hij
    simp only [kXi, kMi, kXr, kMr, kXe, kMe, kXf, kMf, Bool.or_eq_true, Bool.and_eq_true, decide_eq_true_eq] at hij
    simp only [kZ, kBM, Bool.or_eq_true, Bool.and_eq_true, Bool.not_eq_true', Bool.and_eq_false_iff, decide_eq_false_iff_not, decide_eq_true_eq]
    omega
theorem op_book {cc : Nat} (h : CP cc x m) (hn : 10000 ≤ n) : SIM cc (F_X11_book n x) (F_X12_book n m) := by
  obtain ⟨l1, l2, l3⟩ := h.l
  have lsz := l1.2.2.1
  -- the draft
  obtain ⟨y1, ey1, hkc⟩ := X_kcopy (n := n) (t := 27) (o := 1) (x := x) (by decide) h.t.2 h.k.1.2.1 hn
  have hX1 : XK y1 27 m := XK_mv h.k.1 h.k.2 h.t.2 hkc (fun _ _ _ => rfl)
  have z1 : AG kZ x y1 := fun i j hij => hkc.1 i j (by
    simp only [kZ, Bool.and_eq_true, Bool.not_eq_true', Bool.and_eq_false_iff, decide_eq_false_iff_not, decide_eq_true_eq] at hij
    omega)
  have z2 : AG kZ x (wr y1 40 2 0) := z1.wr rfl
  have hX2 : XK (wr y1 40 2 0) 27 m := XK_fr hX1 (fun i j h1 h2 => wr_nr (by omega)) AG.rf
  obtain ⟨S, hS⟩ : ∃ S : Nat, m 0 19 = (S : Int) := ⟨(m 0 19).toNat, by omega⟩
  have S96 : S ≤ 96 := by omega
  have hL : LB S (m 11) (wr y1 40 2 0) := by
    refine ⟨TB_fr l1 ?_ ?_ ?_, ?_, fun j hj => ?_⟩
    · rw [wr_nr (by decide)]; exact hkc.1 _ _ (by decide)
    · rw [wr_nr (by decide)]; exact hkc.1 _ _ (by decide)
    · rw [wr_nr (by decide)]; exact hkc.1 _ _ (by decide)
    · rw [wr_nr (by decide), hkc.1 _ _ (by decide), l2]; exact hS
    · rw [wr_nr (by decide), hkc.1 _ _ (by decide)]
      have := l3 j (by omega)
      exact ⟨this.1, this.2.1, this.2.2⟩
  have hT43 : TB (wr y1 40 2 0) 43 5 1 := TB_fr h.s.1 (z2 _ _ rfl) (z2 _ _ rfl) (by rw [wr_nr (by decide)]; exact hkc.1 _ _ (by decide))
  -- the reference's beginning
  have b0 : ∀ i j, ¬ (i = 0 ∧ (j = 16 ∨ j = 20 ∨ j = 21 ∨ j = 22)) → wr (wr (wr (wr m 0 16 0) 0 20 0) 0 21 0) 0 22 0 i j = m i j := fun i j z => by rw [wr_ne (by omega), wr_ne (by omega), wr_ne (by omega), wr_ne (by omega)]
  have hM : LMm S (m 11) (wr (wr (wr (wr m 0 16 0) 0 20 0) 0 21 0) 0 22 0) := by
    refine ⟨by rw [b0 0 19 (by decide)]; exact hS, S96, fun j hj => ?_⟩
    rw [b0 11 j (by omega)]
    have := l3 j (by omega)
    exact ⟨rfl, this.2.1, this.2.2⟩
  have hst : MST (wr (wr (wr (wr m 0 16 0) 0 20 0) 0 21 0) 0 22 0) (true, pls S (m 11) 0) := ⟨by rw [wr_nk (by decide), wr_eq]; rfl, by rw [wr_nk (by decide), wr_nk (by decide), wr_eq]; rfl⟩
  have hpe := par_loop (n := n) hL hM hn (S + 1) 0 (wr y1 40 2 0) _ n n (by show S + 1 ≤ 0 + (S + 1); omega) (Or.inl rfl) (by show 3 * 0 ≤ 0; omega) (Nat.zero_le _) AG.rf hT43 wr_eq AG.rf hst wr_eq (fun c' hc' => absurd hc' (Nat.not_lt_zero c')) (fun c' hc' => absurd hc' (Nat.not_lt_zero c')) (by omega) (by omega)
  have kS_BM : ∀ {m' : ZMem}, AG kS (wr (wr (wr (wr m 0 16 0) 0 20 0) 0 21 0) 0 22 0) m' → ∀ i j, kS i j = true → ¬ (i = 0 ∧ j = 16) → m' i j = m i j := fun hA i j hij hne => by
    rw [hA i j hij]
    refine b0 i j ?_
    simp only [kS, Bool.and_eq_true, decide_eq_true_eq, Bool.not_eq_true', Bool.and_eq_false_iff, Bool.or_eq_false_iff, decide_eq_false_iff_not] at hij
    omega
  have kSt : ∀ {i j : Nat}, (i ≠ 12 ∧ i ≠ 13 ∧ i ≠ 14 ∧ ¬ (i = 0 ∧ (j = 20 ∨ j = 21 ∨ j = 22))) → kS i j = true := fun {i j} z => by
    simp only [kS, Bool.and_eq_true, decide_eq_true_eq, Bool.not_eq_true', Bool.and_eq_false_iff, Bool.or_eq_false_iff, decide_eq_false_iff_not]
    omega
  have reset41 : ∀ {y : ZMem}, LB S (m 11) y → F_X9_reset n 41 0 0 y = some (0, wr y 41 3 0) := by
    intro y hy
    have er := X_reset (n := n) (v := 0) hy.1 hn (l := 0) (by decide) (a := 0) rfl
    rw [Nat.zero_mul, rsT_0] at er
    exact er
  have posn : ∀ {i j : Nat}, pos i j < 133 → kS i j = true ∧ ¬ (i = 0 ∧ j = 16) ∧ ¬ (i = 0 ∧ j = 19) ∧ ¬ (i = 0 ∧ j = 33) := by
    intro i j hp
    have := pos_cases (i := i) (j := j) (by omega)
    exact ⟨kSt (by omega), by omega, by omega, by omega⟩
  unfold F_X11_book F_X1_tellTo F_X1_hasForm
  rw [E_bnd ey1 rfl]
  have eM0 : F_X12_book n m = L_X12_book_20 n n (wr (wr (wr (wr m 0 16 0) 0 20 0) 0 21 0) 0 22 0) := rfl
  rw [eM0]
  rcases hpe with ⟨y', m', pF, e1, a1, a2, a3, a4, e2, a5⟩ | ⟨y', m', C, e1, a1, a2, e2, a5, a6, a7, a8, a9, a10⟩
  · -- no form
    have e1' : L_X1_hasForm_7 n n 0 (wr y1 40 2 0) = some (0, y') := e1
    have zy : AG kZ x y' := kZ_of z2 (kAB_of_T a1)
    have x27 : XT y' 27 := (XK_T hX2 a1).2.1
    rw [e2]
    refine ⟨-1000 - pF, wr y' 41 3 0, wr m' 0 19 0, ?_, rfl, CP_nobook h zy a2 x27 (fun i j hij => ?_) (fun i j hp => ?_) wr_eq⟩
    · rw [E_bnd e1' rfl, if_pos rfl, a3, chk_pos (by omega), E_bnd (reset41 (LB_ag hL a1)) rfl, bnd_some, if_pos (by omega)]
    · simp only [kBM, Bool.or_eq_true, Bool.and_eq_true, decide_eq_true_eq] at hij
      rw [wr_ne (by omega)]
      exact kS_BM a5 i j (kSt (by omega)) (by omega)
    · obtain ⟨p1, p2, p3, p4⟩ := posn hp
      rw [wr_ne (by omega)]
      exact kS_BM a5 i j p1 p2
  · -- a form: the statements come
    have e1' : L_X1_hasForm_7 n n 0 (wr y1 40 2 0) = some (1, y') := e1
    have zy : AG kZ x y' := kZ_of z2 (kAB_of_T a1)
    have zy2 : AG kZ x (wr y' 40 2 0) := zy.wr rfl
    obtain ⟨ms, e3, g1, g2⟩ := M_carryAll5 (n := n) (md := 1) hn (Or.inr rfl) (wr m' 0 19 0)
    have g3 : (∀ i j, pos i j < 133 → ms 15 (pos i j) = wr m' 0 19 0 i j) ∧ (∀ i j, i ≠ 15 → ¬ (i = 0 ∧ 29 ≤ j ∧ j ≤ 31) → ms i j = wr m' 0 19 0 i j) := by
      rcases g2 with ⟨-, a, b⟩ | ⟨a, -⟩
      · exact ⟨a, b⟩
      · exact absurd a (by decide)
    obtain ⟨g4, g5⟩ := g3
    have msm : ∀ i j, i ≠ 15 → i ≠ 12 → i ≠ 13 → i ≠ 14 → ¬ (i = 0 ∧ (29 ≤ j ∧ j ≤ 31 ∨ j = 16 ∨ j = 19 ∨ j = 20 ∨ j = 21 ∨ j = 22)) → ms i j = m i j := by
      intro i j q1 q2 q3 q4 q5
      rw [g5 i j q1 (by omega), wr_ne (by omega)]
      exact kS_BM a5 i j (kSt (by omega)) (by omega)
    have msSA : SA m ms := by
      intro i j hp
      have pc := pos_cases (i := i) (j := j) (by omega)
      exact msm i j (by omega) (by omega) (by omega) (by omega) (by omega)
    have hsv : ∀ i j, pos i j < 133 → ms 15 (pos i j) = ms i j := by
      intro i j hp
      have pc := pos_cases (i := i) (j := j) (by omega)
      rw [g4 i j hp, g5 i j (by omega) (by omega)]
    have hXs : XK (wr y' 40 2 0) 27 ms := XK_SA (XK_fr (XK_T hX2 a1) (fun i j h1 h2 => wr_nr (by omega)) AG.rf) h.k.2 msSA
    have hws : WFs ms := WFs_SA h.k.2 msSA
    have h22 : ms 0 22 = (C : Int) := by rw [g5 0 22 (by decide) (by decide), wr_nk (by decide)]; exact a6
    have hsto : STO S (m 11) C ms := by
      intro c' hc'
      obtain ⟨k1, k2, k3, k4⟩ := a10 c' hc'
      exact ⟨k1, by rw [g5 12 c' (by decide) (by omega), wr_nr (by decide)]; exact k2, by rw [g5 13 c' (by decide) (by omega), wr_nr (by decide)]; exact k3, fun t ht => by rw [g5 14 _ (by decide) (by omega), wr_nr (by decide)]; exact k4 t ht⟩
    have hL2 : LB S (m 11) (wr y' 40 2 0) := LB_ag (LB_ag hL a1) (AG.rf.wr rfl)
    have hbe := came_loop (n := n) (y0 := wr y' 40 2 0) hL2 hn a7.2 S96 a8 a9 hsto h22 hsv C 0 (wr y' 40 2 0) ms n n (by omega) AG.rf (TB_fr a2 (wr_nr (by decide)) (wr_nr (by decide)) (wr_nr (by decide))) wr_eq hXs hws AG.rf (by omega) (by omega)
    have eS : ∀ {o : ZR}, L_X1_statementsTo_9 n n ((0 : Nat) : Int) ((0 : Nat) : Int) (wr y' 40 2 0) = o → F_X1_statementsTo n y' = o := fun e => e
    have eM : L_X12_book_20 n n (wr (wr (wr (wr m 0 16 0) 0 20 0) 0 21 0) 0 22 0) = L_X12_book_84 n n 0 ms := by
      rw [e2]
      unfold eOK
      rw [E_bnd e3 rfl]
    rw [eM, E_bnd e1' rfl, if_neg (by decide)]
    have ms19 : ms 0 19 = 0 := by rw [g5 0 19 (by decide) (by decide), wr_eq]
    rcases hbe with ⟨y2, m2, r, r1, f1, f2, f3, f4, f5, f6, f7, f8⟩ | ⟨y2, m2, f1, f2, f3, f4, f5, f6, f7⟩
    · have zy3 : AG kZ x y2 := kZ_of zy2 f3
      refine ⟨r, wr y2 41 3 0, m2, ?_, f2, CP_nobook h zy3 f4 f5 (fun i j hij => ?_) (fun i j hp => ?_) (by rw [f7]; exact ms19)⟩
      · rw [E_bnd (eS f1) rfl, E_bnd (reset41 (LB_AB hL2 f3)) rfl, bnd_some, if_pos (by omega)]
      · rw [f6 i j hij]
        simp only [kBM, Bool.or_eq_true, Bool.and_eq_true, decide_eq_true_eq] at hij
        exact msm i j (by omega) (by omega) (by omega) (by omega) (by omega)
      · rw [f8 i j hp]
        exact msSA i j hp
    · have zy3 : AG kZ x y2 := kZ_of zy2 f3
      have zy4 : ∀ i j, kZ i j = true → wr y2 41 3 0 i j = x i j := by
        intro i j hij
        rw [wr_ne (by simp only [kZ, Bool.and_eq_true, Bool.not_eq_true', Bool.and_eq_false_iff, decide_eq_false_iff_not, decide_eq_true_eq] at hij; omega)]
        exact zy3 i j hij
      have hX4 : XK (wr y2 41 3 0) 27 m2 := XK_fr f6 (fun i j h1 h2 => wr_nr (by omega)) AG.rf
      have hX1t : XT (wr y2 41 3 0) 1 := XT_A h.k.1.2.1 (fun i j h1 h2 => zy4 i j (by simp [kZ]; omega))
      obtain ⟨y5, ey5, hk5⟩ := X_kcopy (n := n) (t := 1) (o := 27) (x := wr y2 41 3 0) (by decide) hX1t hX4.2.1 hn
      have hX5 : XK y5 1 m2 := XK_mv hX4 f7 hX1t hk5 (fun _ _ _ => rfl)
      have hT47 : TB y5 47 8 1 := TB_fr h.e.1 (by rw [hk5.1 _ _ (by decide)]; exact zy4 _ _ rfl) (by rw [hk5.1 _ _ (by decide)]; exact zy4 _ _ rfl) (by rw [hk5.1 _ _ (by decide)]; exact zy4 _ _ rfl)
      have er := X_reset (n := n) (v := 0) hT47 hn (l := 0) (by decide) (a := 0) rfl
      rw [Nat.zero_mul, rsT_0] at er
      have er' : F_X9_reset n 47 0 0 y5 = some (0, wr y5 47 3 0) := er
      have q5 : ∀ i j, 14 ≤ i ∨ i = 0 → ¬ (i = 47 ∧ j = 3) → kZ i j = true → wr y5 47 3 0 i j = x i j := by
        intro i j q1 q2 q3
        rw [wr_ne (by omega), hk5.1 i j (by omega)]
        exact zy4 i j q3
      have q6 : ∀ i j, i ≠ 15 → i ≠ 12 → i ≠ 13 → i ≠ 14 → ¬ (i = 0 ∧ (29 ≤ j ∧ j ≤ 31 ∨ j = 16 ∨ j = 19 ∨ j = 20 ∨ j = 21 ∨ j = 22 ∨ j = 33)) → kKit i j = true → wr m2 0 33 0 i j = m i j := by
        intro i j w1 w2 w3 w4 w5 w6
        rw [wr_ne (by omega), f5 i j w6]
        exact msm i j w1 w2 w3 w4 (by omega)
      have hsa2 : SA m2 (wr m2 0 33 0) := by
        intro i j hp
        obtain ⟨p1, p2, p3, p4⟩ := posn hp
        exact wr_ne (by omega)
      have k6 : XK (wr y5 47 3 0) 1 (wr m2 0 33 0) := XK_SA (XK_fr hX5 (fun i j h1 h2 => wr_nr (by omega)) AG.rf) f7 hsa2
      refine ⟨(C : Int), wr y5 47 3 0, wr m2 0 33 0, ?_, f2, ?_⟩
      · rw [E_bnd (eS f1) rfl, E_bnd (reset41 (LB_AB hL2 f3)) rfl, bnd_some, if_neg (by omega), E_bnd ey5 rfl, E_bnd er' rfl]
      · obtain ⟨t1, t2, t3, t4, t5, t6⟩ := h.s
        have e41 : wr y5 47 3 0 41 3 = 0 := by rw [wr_nr (by decide), hk5.1 41 3 (by decide), wr_eq]
        have e19 : wr m2 0 33 0 0 19 = 0 := by rw [wr_nk (by decide), f5 0 19 rfl]; exact ms19
        have e43 : ∀ j, wr y5 47 3 0 43 j = y2 43 j := fun j => by rw [wr_nr (by decide), hk5.1 43 j (by decide), wr_nr (by decide)]
        refine ⟨⟨k6, WFs_SA f7 hsa2⟩, CPi_fr h.i (fun i j hij => q5 i j ?_ ?_ ?_) (fun i j hij => q6 i j ?_ ?_ ?_ ?_ ?_ ?_), ⟨XT_A h.t.1 (fun i j h1 h2 => q5 i j (by omega) (by omega) (by simp [kZ]; omega)), XT_A hX4.2.1 (fun i j h1 h2 => by rw [wr_nr (by omega)]; exact hk5.1 i j (by omega))⟩, ⟨TB_sz l1 (q5 41 1 (by decide) (by decide) rfl) (q5 41 2 (by decide) (by decide) rfl) (by rw [e41]; decide), by rw [e41, e19], fun j hj => by rw [e19] at hj; omega⟩, CPr_fr h.r (fun i j hij => q5 i j ?_ ?_ ?_) (fun i j hij => q6 i j ?_ ?_ ?_ ?_ ?_ ?_), ⟨TB_sz hT47 (wr_nk (by decide)) (wr_nk (by decide)) (by rw [wr_eq]; decide), by rw [wr_eq, wr_eq], fun j hj => by rw [wr_eq] at hj; omega⟩, CPf_fr h.f (fun i j hij => q5 i j ?_ ?_ ?_) (fun i j hij => q6 i j ?_ ?_ ?_ ?_ ?_ ?_), ⟨TB_fr f4 (e43 _) (e43 _) (e43 _), TB_fr t2 (q5 _ _ (by decide) (by decide) rfl) (q5 _ _ (by decide) (by decide) rfl) (q5 _ _ (by decide) (by decide) rfl), TB_fr t3 (q5 _ _ (by decide) (by decide) rfl) (q5 _ _ (by decide) (by decide) rfl) (q5 _ _ (by decide) (by decide) rfl), TB_fr t4 (q5 _ _ (by decide) (by decide) rfl) (q5 _ _ (by decide) (by decide) rfl) (q5 _ _ (by decide) (by decide) rfl), TB_fr t5 (q5 _ _ (by decide) (by decide) rfl) (q5 _ _ (by decide) (by decide) rfl) (q5 _ _ (by decide) (by decide) rfl), TB_fr t6 (q5 _ _ (by decide) (by decide) rfl) (q5 _ _ (by decide) (by decide) rfl) (q5 _ _ (by decide) (by decide) rfl)⟩⟩
        all_goals
          simp only [kXi, kMi, kXr, kMr, kXf, kMf, Bool.or_eq_true, Bool.and_eq_true, decide_eq_true_eq] at hij
          first
          | omega
          | (simp only [kZ, kKit, Bool.or_eq_true, Bool.and_eq_true, Bool.not_eq_true', Bool.and_eq_false_iff, decide_eq_false_iff_not, decide_eq_true_eq]; omega)
end ZBK
