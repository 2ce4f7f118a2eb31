/-! OPERATIONS 21: oven -/
def dg (q : Int) (i : Nat) : Int := q / 2 ^ (2 * i) % 2 ^ 2
def cd (D : Nat → Int) : Int := D 0 + 4 * (D 1 + 4 * (D 2 + 4 * (D 3 + 4 * (D 4 + 4 * (D 5 + 4 * (D 6 + 4 * D 7))))))
def rk (w : Int) (D : Nat → Int) : Int := D 0 + w * (D 1 + w * (D 2 + w * (D 3 + w * (D 4 + w * (D 5 + w * (D 6 + w * D 7))))))
def vl (w : Int) (N : Nat) (D : Nat → Int) : Prop := (∀ i, i < N → 0 ≤ D i ∧ D i < w) ∧ (∀ i, N ≤ i → i < 8 → D i = 0)
def dup (D : Nat → Int) (i : Nat) (t : Int) : Nat → Int := fun j => if j = i then t else D j
theorem dg0 (q : Int) : dg q 0 = q % 4 := by unfold dg; show q / 1 % 4 = q % 4; omega
theorem dg1 (q : Int) : dg q 1 = q / 4 % 4 := rfl
theorem dg2 (q : Int) : dg q 2 = q / 16 % 4 := rfl
theorem dg3 (q : Int) : dg q 3 = q / 64 % 4 := rfl
theorem dg4 (q : Int) : dg q 4 = q / 256 % 4 := rfl
theorem dg5 (q : Int) : dg q 5 = q / 1024 % 4 := rfl
theorem dg6 (q : Int) : dg q 6 = q / 4096 % 4 := rfl
theorem dg7 (q : Int) : dg q 7 = q / 16384 % 4 := rfl
theorem dg_bd (q : Int) (i : Nat) : 0 ≤ dg q i ∧ dg q i < 4 := by
  unfold dg
  rw [show (2 : Int) ^ 2 = 4 from rfl]
  omega
theorem c8 {i : Nat} (h : i < 8) : i = 0 ∨ i = 1 ∨ i = 2 ∨ i = 3 ∨ i = 4 ∨ i = 5 ∨ i = 6 ∨ i = 7 := by omega
theorem cd_dg {q : Int} (h : 0 ≤ q ∧ q < 65536) : cd (dg q) = q := by
  unfold cd
  rw [dg0, dg1, dg2, dg3, dg4, dg5, dg6, dg7]
  omega
theorem dg_cd {D : Nat → Int} (h : ∀ i, i < 8 → 0 ≤ D i ∧ D i ≤ 3) {i : Nat} (hi : i < 8) : dg (cd D) i = D i := by
  have h0 := h 0 (by decide)
  have h1 := h 1 (by decide)
  have h2 := h 2 (by decide)
  have h3 := h 3 (by decide)
  have h4 := h 4 (by decide)
  have h5 := h 5 (by decide)
  have h6 := h 6 (by decide)
  have h7 := h 7 (by decide)
  unfold cd
  rcases c8 hi with rfl | rfl | rfl | rfl | rfl | rfl | rfl | rfl
  · rw [dg0]; omega
  · rw [dg1]; omega
  · rw [dg2]; omega
  · rw [dg3]; omega
  · rw [dg4]; omega
  · rw [dg5]; omega
  · rw [dg6]; omega
  · rw [dg7]; omega
theorem cd_upd (D : Nat → Int) {i : Nat} (hi : i < 8) (t : Int) : cd (dup D i t) = cd D + (t - D i) * 2 ^ (2 * i) := by
  unfold cd dup
  rcases c8 hi with rfl | rfl | rfl | rfl | rfl | rfl | rfl | rfl <;> simp <;> omega
theorem rk_upd {w : Int} (hw : w = 1 ∨ w = 2 ∨ w = 3) (D : Nat → Int) {i : Nat} (hi : i < 8) (t : Int) : rk w (dup D i t) = rk w D + (t - D i) * w ^ i := by
  unfold rk dup
  rcases hw with rfl | rfl | rfl <;> rcases c8 hi with rfl | rfl | rfl | rfl | rfl | rfl | rfl | rfl <;> simp <;> omega
theorem rk_st {w a a' x x' y y' : Int} (hw : w = 1 ∨ w = 2 ∨ w = 3) (ha : 0 ≤ a ∧ a < w) (ha' : 0 ≤ a' ∧ a' < w) (h : (x < x' ↔ y < y') ∧ (x = x' ↔ y = y')) : (a + 4 * x < a' + 4 * x' ↔ a + w * y < a' + w * y') ∧ (a + 4 * x = a' + 4 * x' ↔ a + w * y = a' + w * y') := by
  rcases hw with rfl | rfl | rfl <;> omega
theorem rk_cd {w : Int} (hw : w = 1 ∨ w = 2 ∨ w = 3) {D D' : Nat → Int} (h : ∀ i, i < 8 → 0 ≤ D i ∧ D i < w) (h' : ∀ i, i < 8 → 0 ≤ D' i ∧ D' i < w) : (cd D < cd D' ↔ rk w D < rk w D') ∧ (cd D = cd D' ↔ rk w D = rk w D') := by
  unfold cd rk
  exact rk_st hw (h 0 (by decide)) (h' 0 (by decide)) (rk_st hw (h 1 (by decide)) (h' 1 (by decide)) (rk_st hw (h 2 (by decide)) (h' 2 (by decide)) (rk_st hw (h 3 (by decide)) (h' 3 (by decide)) (rk_st hw (h 4 (by decide)) (h' 4 (by decide)) (rk_st hw (h 5 (by decide)) (h' 5 (by decide)) (rk_st hw (h 6 (by decide)) (h' 6 (by decide)) ⟨Iff.rfl, Iff.rfl⟩))))))
theorem vl8 {w : Int} {N : Nat} {D : Nat → Int} (hw : w = 1 ∨ w = 2 ∨ w = 3) (h : vl w N D) {i : Nat} (hi : i < 8) : 0 ≤ D i ∧ D i < w := by
  by_cases e : i < N
  · exact h.1 i e
  · rw [h.2 i (by omega) hi]
    omega
theorem c9 {i : Nat} (h : i ≤ 8) : i = 0 ∨ i = 1 ∨ i = 2 ∨ i = 3 ∨ i = 4 ∨ i = 5 ∨ i = 6 ∨ i = 7 ∨ i = 8 := by omega
theorem rk_max {w : Int} {N : Nat} {D : Nat → Int} (hw : w = 1 ∨ w = 2 ∨ w = 3) (hN : N ≤ 8) (h : vl w N D) : 0 ≤ rk w D ∧ rk w D ≤ w ^ N - 1 := by
  have b0 := vl8 hw h (i := 0) (by decide)
  have b1 := vl8 hw h (i := 1) (by decide)
  have b2 := vl8 hw h (i := 2) (by decide)
  have b3 := vl8 hw h (i := 3) (by decide)
  have b4 := vl8 hw h (i := 4) (by decide)
  have b5 := vl8 hw h (i := 5) (by decide)
  have b6 := vl8 hw h (i := 6) (by decide)
  have b7 := vl8 hw h (i := 7) (by decide)
  have z := h.2
  unfold rk
  rcases c9 hN with rfl | rfl | rfl | rfl | rfl | rfl | rfl | rfl | rfl
  all_goals
    have z0 := z 0
    have z1 := z 1
    have z2 := z 2
    have z3 := z 3
    have z4 := z 4
    have z5 := z 5
    have z6 := z 6
    have z7 := z 7
    rcases hw with rfl | rfl | rfl <;> simp at z0 z1 z2 z3 z4 z5 z6 z7 ⊢ <;> omega
/-- the load of a shelf -/
def ldB (s : ZMem) (D : Nat → Int) (h : Nat) (j : Nat) : Int := if D j = (h : Int) then s 29 j else 0
def ld (s : ZMem) (N : Nat) (D : Nat → Int) (h : Nat) : Int := sumS (ldB s D h) N
def dn (s : ZMem) (N W : Nat) (D : Nat → Int) : Int := maxS (ld s N D) W
theorem ld_upd {s : ZMem} {N : Nat} (D : Nat → Int) {i : Nat} (t : Int) (h : Nat) : ld s N (dup D i t) h = ld s N D h + (if i < N then (if t = (h : Int) then s 29 i else 0) - (if D i = (h : Int) then s 29 i else 0) else 0) := by
  induction N with
  | zero => rw [if_neg (by omega)]; rfl
  | succ N ih =>
    show ld s N (dup D i t) h + ldB s (dup D i t) h N = (ld s N D h + ldB s D h N) + _
    rw [ih]
    unfold ldB dup
    by_cases e : N = i
    · subst e
      rw [if_neg (Nat.lt_irrefl N), if_pos (Nat.lt_succ_self N), if_pos (rfl : N = N)]
      omega
    · rw [if_neg e]
      by_cases e2 : i < N
      · rw [if_pos e2, if_pos (show i < N + 1 by omega)]
        omega
      · rw [if_neg e2, if_neg (show ¬ i < N + 1 by omega)]
        omega
def kO (i j : Nat) : Bool := decide (i ≠ 64) && !(decide (i = 63) && decide (j = 3))
def k25 (i _ : Nat) : Bool := decide (i ≠ 25)
section ZOP21
variable {x s m y : ZMem} {c n p N W : Nat}
theorem ldB_bd (hr : CPr x s) (D : Nat → Int) (h : Nat) {j : Nat} (hj : (j : Int) < s 0 49) : 0 ≤ ldB s D h j ∧ ldB s D h j ≤ 99 := by
  have := (hr.2.2 j hj).2
  unfold ldB
  split <;> omega
theorem ld_bd (hr : CPr x s) (D : Nat → Int) (h : Nat) {k : Nat} (hk : (k : Int) ≤ s 0 49) : 0 ≤ ld s k D h ∧ ld s k D h ≤ 792 := by
  have h8 := row_sz hr
  have := sumS_bd (f := ldB s D h) (B := 99) (by decide) k (fun i hi => ldB_bd hr D h (by omega))
  unfold ld
  omega
theorem dn_bd (hr : CPr x s) (D : Nat → Int) (W : Nat) : 0 ≤ dn s (s 0 49).toNat W D ∧ dn s (s 0 49).toNat W D ≤ 792 :=
  maxS_bd (by decide) W (fun i _ => ld_bd hr D i (by have := row_sz hr; omega))
/-- the table of shelves tells D's loads -/
def LT (x s : ZMem) (W : Nat) (D : Nat → Int) (y : ZMem) : Prop := AG kO x y ∧ TB y 63 3 1 ∧ y 63 3 = (W : Int) ∧ ∀ h : Nat, h < W → y 64 h = ld s (s 0 49).toNat D h
theorem kO_r (hr : CPr x s) (h : AG kO x y) : CPr y s := CPr_fr hr (h.sub (by
  intro i j hij
  simp only [kXr, kO, Bool.or_eq_true, Bool.and_eq_true, decide_eq_true_eq, Bool.not_eq_true', Bool.and_eq_false_iff, decide_eq_false_iff_not] at hij ⊢
  omega)) AG.rf
theorem X_put63 (hT : TB y 63 3 1) {h : Nat} (hh : (h : Int) < y 63 3) {v : Int} (hv : R32 (y 64 h + v)) : F_X4_putOn n (h : Int) v y = some (0, wr y 64 h (y 64 h + v)) := by
  unfold F_X4_putOn
  exact E_bnd (X_at0 hT hh) (E_chk hv (E_bnd (X_put0 hT hh) rfl))
theorem X_allDone (hT : TB y 63 3 1) (hs : y 63 3 = (W : Int)) (hW : W ≤ 3) (hn : 10000 ≤ n) : F_X4_allDone n y = some (maxS (fun h => y 64 h) W, y) := by
  refine loop_run (L := fun z (w : Int × Int × ZMem) => L_X4_allDone_4 n z w.1 w.2.1 w.2.2) W (fun k => (maxS (fun h => y 64 h) k, (k : Int), y)) _ ?_ ?_ n (by omega)
  · intro k z hk
    show B_X4_allDone_4 n (L_X4_allDone_4 n z) (maxS (fun h => y 64 h) k) (k : Int) y = L_X4_allDone_4 n z (max (maxS (fun h => y 64 h) k) (y 64 k)) ((k + 1 : Nat) : Int) y
    unfold B_X4_allDone_4
    refine E_bnd (X_size n 63 y) ?_
    rw [hs, if_neg (by omega)]
    refine E_bnd (X_at0 (i := k) hT (by omega)) (E_chk (by omega) ?_)
    rw [cast1]
  · intro z
    show B_X4_allDone_4 n (L_X4_allDone_4 n z) (maxS (fun h => y 64 h) W) (W : Int) y = _
    unfold B_X4_allDone_4
    refine E_bnd (X_size n 63 y) ?_
    rw [hs, if_pos (by omega)]
theorem maxS_ext {f g : Nat → Int} : ∀ k, (∀ i, i < k → f i = g i) → maxS f k = maxS g k
  | 0, _ => rfl
  | k + 1, h => by
    show max (maxS f k) (f k) = max (maxS g k) (g k)
    rw [maxS_ext k (fun i hi => h i (by omega)), h k (by omega)]
theorem LT_done {D : Nat → Int} (h : LT x s W D y) (hW : W ≤ 3) (hn : 10000 ≤ n) : F_X4_allDone n y = some (dn s (s 0 49).toNat W D, y) := by
  obtain ⟨h1, h2, h3, h4⟩ := h
  rw [X_allDone h2 h3 hW hn]
  exact E_some (maxS_ext W h4) rfl
/-- one digit more, with its load -/
theorem LT_move {D : Nat → Int} (hr : CPr x s) (h : LT x s W D y) {i f t : Nat} (hi : (i : Int) < s 0 49) (hf : f < W) (ht : t < W) (hD : D i = (f : Int)) : ∃ y1 y2, F_X4_putOn n (f : Int) (-(s 29 i)) y = some (0, y1) ∧ F_X4_putOn n (t : Int) (s 29 i) y1 = some (0, y2) ∧ CPr y1 s ∧ LT x s W (dup D i (t : Int)) y2 := by
  obtain ⟨h1, h2, h3, h4⟩ := h
  have rb := (hr.2.2 i hi).2
  have h8 := row_sz hr
  have lf := ld_bd hr D f (k := (s 0 49).toNat) (by omega)
  have lt' := ld_bd hr D t (k := (s 0 49).toNat) (by omega)
  have e1 := X_put63 (n := n) h2 (h := f) (v := -(s 29 i)) (by omega) (by rw [h4 f hf]; omega)
  have h2' : TB (wr y 64 f (y 64 f + -(s 29 i))) 63 3 1 := TB_fr h2 (wr_nr (by decide)) (wr_nr (by decide)) (wr_nr (by decide))
  have h3' : wr y 64 f (y 64 f + -(s 29 i)) 63 3 = (W : Int) := by rw [wr_nr (by decide)]; exact h3
  have v1 : wr y 64 f (y 64 f + -(s 29 i)) 64 t = y 64 t - (if t = f then s 29 i else 0) := by
    by_cases e : t = f
    · subst e
      rw [wr_eq, if_pos rfl]
      omega
    · rw [wr_nk e, if_neg e]
      omega
  have e2 := X_put63 (n := n) h2' (h := t) (v := s 29 i) (by omega) (by rw [v1, h4 t ht]; split <;> omega)
  refine ⟨_, _, e1, e2, kO_r hr (h1.wr rfl), (h1.wr rfl).wr rfl, TB_fr h2' (wr_nr (by decide)) (wr_nr (by decide)) (wr_nr (by decide)), by rw [wr_nr (by decide)]; exact h3', fun g hg => ?_⟩
  rw [ld_upd, if_pos (by omega), hD]
  by_cases eg : g = t
  · subst eg
    rw [wr_eq, v1, h4 g hg, if_pos rfl]
    by_cases e : g = f
    · rw [if_pos e, if_pos (by omega)]
      omega
    · rw [if_neg e, if_neg (by omega)]
      omega
  · rw [wr_nk eg, if_neg (show ¬ (t : Int) = (g : Int) by omega)]
    by_cases e : g = f
    · subst e
      rw [wr_eq, h4 g hg, if_pos rfl]
      omega
    · rw [wr_nk e, h4 g hg, if_neg (by omega)]
      omega
theorem next_loop (hr : CPr x s) (hW : 1 ≤ W ∧ W ≤ 3) {K : Int} (hK : K < (W : Int) ^ (s 0 49).toNat - 1) : ∀ (d i : Nat) (E : Nat → Int) (y : ZMem) (q : Nat), i + d = (s 0 49).toNat → vl W (s 0 49).toNat E → (∀ j, j < i → E j = 0) → rk W E + ((W : Int) ^ i - 1) = K → LT x s W E y → d < q → ∃ D' y', L_X4_nextWay_6 n q (W : Int) (cd E) (i : Int) y = some (cd D', y') ∧ vl W (s 0 49).toNat D' ∧ rk W D' = K + 1 ∧ LT x s W D' y' := by
  intro d
  have h8 := row_sz hr
  have hw3 : (W : Int) = 1 ∨ (W : Int) = 2 ∨ (W : Int) = 3 := by omega
  induction d with
  | zero =>
    intro i E y q h1 hv hz hk hL hq
    exfalso
    have e0 : ∀ j, j < 8 → E j = 0 := fun j hj => by
      by_cases e : j < i
      · exact hz j e
      · exact hv.2 j (by omega) hj
    have : rk W E = 0 := by
      unfold rk
      rw [e0 0 (by decide), e0 1 (by decide), e0 2 (by decide), e0 3 (by decide), e0 4 (by decide), e0 5 (by decide), e0 6 (by decide), e0 7 (by decide)]
      simp
    rw [show i = (s 0 49).toNat by omega] at hk
    omega
  | succ d ih =>
    intro i E y q h1 hv hz hk hL hq
    obtain ⟨q, rfl⟩ : ∃ z, q = z + 1 := ⟨q - 1, by omega⟩
    have hi : (i : Int) < s 0 49 := by omega
    have rb := (hr.2.2 i hi).2
    have ry := kO_r hr hL.1
    have ev := hv.1 i (by omega)
    have e3 : ∀ j, j < 8 → 0 ≤ E j ∧ E j ≤ 3 := fun j hj => by have := vl8 hw3 hv hj; omega
    have ed : cd E / 2 ^ (2 * i) % 2 ^ 2 = E i := dg_cd e3 (by omega)
    have cb : 0 ≤ cd E ∧ cd E ≤ 65535 := by
      have b0 := e3 0 (by decide)
      have b1 := e3 1 (by decide)
      have b2 := e3 2 (by decide)
      have b3 := e3 3 (by decide)
      have b4 := e3 4 (by decide)
      have b5 := e3 5 (by decide)
      have b6 := e3 6 (by decide)
      have b7 := e3 7 (by decide)
      unfold cd
      omega
    obtain ⟨f, hf⟩ : ∃ f : Nat, E i = (f : Int) := ⟨(E i).toNat, by omega⟩
    show ∃ D' y', B_X4_nextWay_6 n (L_X4_nextWay_6 n q) (W : Int) (cd E) (i : Int) y = some (cd D', y') ∧ vl W (s 0 49).toNat D' ∧ rk W D' = K + 1 ∧ LT x s W D' y'
    have mv : ∀ (t : Nat) (ht : t < W), ∃ y2, LT x s W (dup E i (t : Int)) y2 ∧ B_X4_nextWay_42 n (L_X4_nextWay_6 n q) (W : Int) (cd E) (i : Int) (f : Int) (t : Int) y = (if (t : Int) ≤ 0 then L_X4_nextWay_6 n q (W : Int) (cd (dup E i (t : Int))) ((i + 1 : Nat) : Int) y2 else some (cd (dup E i (t : Int)), y2)) := by
      intro t ht
      obtain ⟨y1, y2, p1, p2, p3, p4⟩ := LT_move (n := n) hr hL hi (f := f) (t := t) (by omega) ht hf
      refine ⟨y2, p4, ?_⟩
      have cu := cd_upd E (i := i) (by omega) (t : Int)
      have u3 : ∀ j, j < 8 → 0 ≤ dup E i (t : Int) j ∧ dup E i (t : Int) j ≤ 3 := fun j hj => by
        unfold dup
        split
        · omega
        · exact e3 j hj
      have cb2 : 0 ≤ cd (dup E i (t : Int)) ∧ cd (dup E i (t : Int)) ≤ 65535 := by
        have b0 := u3 0 (by decide)
        have b1 := u3 1 (by decide)
        have b2 := u3 2 (by decide)
        have b3 := u3 3 (by decide)
        have b4 := u3 4 (by decide)
        have b5 := u3 5 (by decide)
        have b6 := u3 6 (by decide)
        have b7 := u3 7 (by decide)
        unfold cd
        omega
      rw [hf] at cu
      unfold B_X4_nextWay_42
      rw [show ((2 : Int) * (i : Int)).toNat = 2 * i by omega, ← cu]
      rw [E_bnd (X_rowAt ry hi) rfl, chk_pos (by omega), E_bnd p1 rfl, E_bnd (X_rowAt p3 hi) rfl, E_bnd p2 rfl]
      rw [chk_pos (by omega), chk_pos (by omega), chk_pos (by omega), chk_pos (by omega), chk_pos (by omega), chk_pos (by omega), cast1]
    unfold B_X4_nextWay_6
    rw [E_bnd (X_size n 45 y) rfl, ry.2.1, if_neg (by omega), show ((2 : Int) * (i : Int)).toNat = 2 * i by omega, ed, hf]
    rw [chk_pos (by omega), chk_pos (by omega), chk_pos (by omega)]
    have hWi : (W : Int) ^ (i + 1) = (W : Int) ^ i * (W : Int) := Int.pow_succ _ _
    by_cases c1 : (W : Int) ≤ (f : Int) + 1
    · rw [if_pos c1]
      obtain ⟨y2, l2, e2⟩ := mv 0 (by omega)
      have e2' : B_X4_nextWay_42 n (L_X4_nextWay_6 n q) (W : Int) (cd E) (i : Int) (f : Int) 0 y = _ := e2
      rw [e2', if_pos (by decide)]
      refine ih (i + 1) (dup E i ((0 : Nat) : Int)) y2 q (by omega) ⟨fun j hj => ?_, fun j hj h8 => ?_⟩ (fun j hj => ?_) ?_ l2 (by omega)
      · unfold dup
        split
        · omega
        · exact hv.1 j hj
      · unfold dup
        rw [if_neg (by omega)]
        exact hv.2 j hj h8
      · unfold dup
        split
        · rfl
        · exact hz j (by omega)
      · rw [rk_upd hw3 E (by omega), hWi, hf]
        have fw : (f : Int) = (W : Int) - 1 := by omega
        rw [fw]
        rcases hw3 with e | e | e <;> rw [e] at hk ⊢ <;> omega
    · rw [if_neg c1, chk_pos (by omega)]
      obtain ⟨y2, l2, e2⟩ := mv (f + 1) (by omega)
      have e2' : B_X4_nextWay_42 n (L_X4_nextWay_6 n q) (W : Int) (cd E) (i : Int) (f : Int) ((f : Int) + 1) y = _ := e2
      rw [e2', if_neg (by omega)]
      refine ⟨_, y2, rfl, ⟨fun j hj => ?_, fun j hj h8 => ?_⟩, ?_, l2⟩
      · unfold dup
        split
        · omega
        · exact hv.1 j hj
      · unfold dup
        rw [if_neg (by omega)]
        exact hv.2 j hj h8
      · rw [rk_upd hw3 E (by omega), hf]
        rw [show (((f + 1 : Nat) : Int) - (f : Int)) = 1 by omega]
        omega
theorem X_next (hr : CPr x s) (hW : 1 ≤ W ∧ W ≤ 3) (hn : 10000 ≤ n) {D : Nat → Int} (hv : vl W (s 0 49).toNat D) (hK : rk W D < (W : Int) ^ (s 0 49).toNat - 1) (hL : LT x s W D y) : ∃ D' y', F_X4_nextWay n (W : Int) (cd D) y = some (cd D', y') ∧ vl W (s 0 49).toNat D' ∧ rk W D' = rk W D + 1 ∧ LT x s W D' y' := by
  have h8 := row_sz hr
  exact next_loop hr hW hK (s 0 49).toNat 0 D y n (by omega) hv (fun j hj => by omega) (by simp) hL (by omega)
theorem dn_ext {D D' : Nat → Int} (h : ∀ i, i < N → D i = D' i) (W : Nat) : dn s N W D = dn s N W D' := by
  have : ld s N D = ld s N D' := by
    funext g
    unfold ld
    have : ∀ k, k ≤ N → sumS (ldB s D g) k = sumS (ldB s D' g) k := by
      intro k
      induction k with
      | zero => intro _; rfl
      | succ k ih =>
        intro hk
        show sumS (ldB s D g) k + ldB s D g k = sumS (ldB s D' g) k + ldB s D' g k
        rw [ih (by omega)]
        unfold ldB
        rw [h k (by omega)]
    exact this N (Nat.le_refl _)
  unfold dn
  rw [this]
/-- B is the best way of those up to rank K -/
def BW (s : ZMem) (W : Nat) (K : Int) (B : Nat → Int) : Prop := vl W (s 0 49).toNat B ∧ rk W B ≤ K ∧ ∀ D', vl W (s 0 49).toNat D' → rk W D' ≤ K → dn s (s 0 49).toNat W B ≤ dn s (s 0 49).toNat W D' ∧ (dn s (s 0 49).toNat W B = dn s (s 0 49).toNat W D' → rk W B ≤ rk W D')
theorem soon_loop (hr : CPr x s) (hW : 1 ≤ W ∧ W ≤ 3) (hn : 10000 ≤ n) (wa : Int) : ∀ (d : Nat) (u : Int) (D B : Nat → Int) (y : ZMem) (q : Nat), u = (d : Int) + 1 → rk W D + u = (W : Int) ^ (s 0 49).toNat → vl W (s 0 49).toNat D → LT x s W D y → BW s W (rk W D) B → d < q → ∃ B' y', L_X4_soonest_37 n q (W : Int) wa (cd D) (cd B) (dn s (s 0 49).toNat W B) u y = some (if wa = 0 then dn s (s 0 49).toNat W B' else cd B', y') ∧ BW s W ((W : Int) ^ (s 0 49).toNat - 1) B' ∧ AG kO x y' ∧ TB y' 63 3 1 := by
  intro d
  have h8 := row_sz hr
  have hw3 : (W : Int) = 1 ∨ (W : Int) = 2 ∨ (W : Int) = 3 := by omega
  induction d with
  | zero =>
    intro u D B y q h1 h2 hv hL hB hq
    obtain ⟨q, rfl⟩ : ∃ z, q = z + 1 := ⟨q - 1, by omega⟩
    refine ⟨B, y, ?_, ?_, hL.1, hL.2.1⟩
    · show B_X4_soonest_37 n (L_X4_soonest_37 n q) (W : Int) wa (cd D) (cd B) (dn s (s 0 49).toNat W B) u y = _
      unfold B_X4_soonest_37
      rw [if_pos (by omega)]
      split <;> rfl
    · rw [show (W : Int) ^ (s 0 49).toNat - 1 = rk W D by omega]
      exact hB
  | succ d ih =>
    intro u D B y q h1 h2 hv hL hB hq
    obtain ⟨q, rfl⟩ : ∃ z, q = z + 1 := ⟨q - 1, by omega⟩
    show ∃ B' y', B_X4_soonest_37 n (L_X4_soonest_37 n q) (W : Int) wa (cd D) (cd B) (dn s (s 0 49).toNat W B) u y = some (if wa = 0 then dn s (s 0 49).toNat W B' else cd B', y') ∧ BW s W ((W : Int) ^ (s 0 49).toNat - 1) B' ∧ AG kO x y' ∧ TB y' 63 3 1
    unfold B_X4_soonest_37
    rw [if_neg (by omega)]
    obtain ⟨D', y', e, v', r', l'⟩ := X_next (n := n) hr hW hn hv (by omega) hL
    have ur : R32 (u + -1) := by
      have := rk_max hw3 (by omega) hv
      have p8 : (W : Int) ^ (s 0 49).toNat ≤ 6561 := by
        rcases hw3 with e | e | e <;> rw [e] <;> rcases c9 (show (s 0 49).toNat ≤ 8 by omega) with e2 | e2 | e2 | e2 | e2 | e2 | e2 | e2 | e2 <;> rw [e2] <;> decide
      omega
    have same : ∀ D2, vl W (s 0 49).toNat D2 → rk W D2 = rk W D' → dn s (s 0 49).toNat W D2 = dn s (s 0 49).toNat W D' := by
      intro D2 v2 e2
      have ec := (rk_cd hw3 (fun i hi => vl8 hw3 v2 hi) (fun i hi => vl8 hw3 v' hi)).2.2 e2
      refine dn_ext (fun i hi => ?_) W
      have a1 := dg_cd (D := D2) (fun j hj => by have := vl8 hw3 v2 hj; omega) (i := i) (by omega)
      have a2 := dg_cd (D := D') (fun j hj => by have := vl8 hw3 v' hj; omega) (i := i) (by omega)
      rw [← a1, ← a2, ec]
    rw [E_bnd e rfl, E_bnd (LT_done l' hW.2 hn) rfl]
    obtain ⟨b1, b2, b3⟩ := hB
    by_cases c1 : dn s (s 0 49).toNat W B ≤ dn s (s 0 49).toNat W D'
    · rw [if_pos c1, chk_pos ur]
      refine ih (u + -1) D' B y' q (by omega) (by omega) v' l' ⟨b1, by omega, fun D2 v2 hk => ?_⟩ (by omega)
      by_cases e2 : rk W D2 = rk W D'
      · rw [same D2 v2 e2]
        exact ⟨c1, fun _ => by omega⟩
      · exact b3 D2 v2 (by omega)
    · rw [if_neg c1, E_bnd (LT_done l' hW.2 hn) rfl, chk_pos ur]
      refine ih (u + -1) D' D' y' q (by omega) (by omega) v' l' ⟨v', Int.le_refl _, fun D2 v2 hk => ?_⟩ (by omega)
      by_cases e2 : rk W D2 = rk W D'
      · rw [same D2 v2 e2]
        exact ⟨Int.le_refl _, fun _ => by omega⟩
      · have := b3 D2 v2 (by omega)
        exact ⟨by omega, fun z => by omega⟩
/-! the reference's side -/
/-- its row of shelves tells D's loads, as far as i -/
def MT (s : ZMem) (N : Nat) (D : Nat → Int) (m' : ZMem) : Prop := AG k25 s m' ∧ ∀ h : Nat, h < 3 → m' 25 h = ld s N D h
theorem M_empty (hn : 10000 ≤ n) {s' : ZMem} (h : AG k25 s s') (D : Nat → Int) : ∃ m', F_X12_emptyShelves n s' = some (0, m') ∧ MT s 0 D m' := by
  refine ⟨wr (wr (wr s' 25 0 0) 25 1 0) 25 2 0, ?_, ?_, ?_⟩
  · unfold F_X12_emptyShelves
    obtain ⟨k, rfl⟩ : ∃ k, n = k + 4 := ⟨n - 4, by omega⟩
    show B_X12_emptyShelves_2 (k + 4) (L_X12_emptyShelves_2 (k + 4) (k + 3)) 0 s' = _
    unfold B_X12_emptyShelves_2
    rw [if_neg (by decide), zM25, chk_pos (by decide), chk_pos (by decide)]
    show B_X12_emptyShelves_2 (k + 4) (L_X12_emptyShelves_2 (k + 4) (k + 2)) 1 _ = _
    unfold B_X12_emptyShelves_2
    rw [if_neg (by decide), zM25, chk_pos (by decide), chk_pos (by decide)]
    show B_X12_emptyShelves_2 (k + 4) (L_X12_emptyShelves_2 (k + 4) (k + 1)) 2 _ = _
    unfold B_X12_emptyShelves_2
    rw [if_neg (by decide), zM25, chk_pos (by decide), chk_pos (by decide)]
    show B_X12_emptyShelves_2 (k + 4) (L_X12_emptyShelves_2 (k + 4) k) 3 _ = _
    unfold B_X12_emptyShelves_2
    rw [if_pos (by decide)]
    rfl
  · exact ((h.wr rfl).wr rfl).wr rfl
  · intro g hg
    have hc : g = 0 ∨ g = 1 ∨ g = 2 := by omega
    rcases hc with rfl | rfl | rfl
    · rw [wr_nk (by decide), wr_nk (by decide), wr_eq]
      rfl
    · rw [wr_nk (by decide), wr_eq]
      rfl
    · rw [wr_eq]
      rfl
theorem M_latest {m' : ZMem} (h0 : 0 ≤ m' 25 0) : F_X12_latestShelf n m' = some (maxS (fun h => m' 25 h) 3, m') := by
  have e : maxS (fun h => m' 25 h) 3 = max (max (max 0 (m' 25 0)) (m' 25 1)) (m' 25 2) := rfl
  rw [e]
  unfold F_X12_latestShelf
  rw [zM25, show (0 : Int).toNat = 0 from rfl, show (1 : Int).toNat = 1 from rfl, show (2 : Int).toNat = 2 from rfl]
  refine E_chk (by decide) (E_chk (by decide) (E_ite (fun c1 => E_chk (by decide) (E_chk (by decide) (E_ite (fun c2 => E_chk (by decide) (E_some ?_ rfl)) (fun c2 => E_some ?_ rfl)))) (fun c1 => E_chk (by decide) (E_chk (by decide) (E_ite (fun c2 => E_chk (by decide) (E_some ?_ rfl)) (fun c2 => E_some ?_ rfl))))))
  all_goals omega
theorem ld_zero (hr : CPr x s) {D : Nat → Int} {h : Nat} (hD : ∀ i, i < N → D i ≠ (h : Int)) : ld s N D h = 0 := by
  have : ∀ k, k ≤ N → sumS (ldB s D h) k = 0 := by
    intro k
    induction k with
    | zero => intro _; rfl
    | succ k ih =>
      intro hk
      show sumS (ldB s D h) k + ldB s D h k = 0
      rw [ih (by omega)]
      unfold ldB
      rw [if_neg (hD k (by omega))]
      rfl
  exact this N (Nat.le_refl _)
theorem dn_3 (hr : CPr x s) {D : Nat → Int} (hW : 1 ≤ W ∧ W ≤ 3) (hN : (N : Int) ≤ s 0 49) (hv : ∀ i, i < N → 0 ≤ D i ∧ D i < (W : Int)) : maxS (ld s N D) 3 = dn s N W D := by
  have z : ∀ h, W ≤ h → ld s N D h = 0 := fun h hh => ld_zero hr (fun i hi => by have := hv i hi; omega)
  have b0 := ld_bd hr D 0 hN
  have b1 := ld_bd hr D 1 hN
  have b2 := ld_bd hr D 2 hN
  have e : maxS (ld s N D) 3 = max (max (max 0 (ld s N D 0)) (ld s N D 1)) (ld s N D 2) := rfl
  unfold dn
  have hc : W = 1 ∨ W = 2 ∨ W = 3 := by omega
  rcases hc with rfl | rfl | rfl
  · rw [e, z 1 (by omega), z 2 (by omega)]
    show _ = max 0 (ld s N D 0)
    omega
  · rw [e, z 2 (by omega)]
    show _ = max (max 0 (ld s N D 0)) (ld s N D 1)
    omega
  · rfl
theorem done_loop (hr : CPr x s) (hW : 1 ≤ W ∧ W ≤ 3) (u : Int) : ∀ (d i : Nat) (m' : ZMem) (q : Nat), i + d = (s 0 49).toNat → (∀ j, j < i → dg u j < (W : Int)) → MT s i (dg u) m' → d < q → ∃ m2, AG k25 s m2 ∧ ((∀ j, j < (s 0 49).toNat → dg u j < (W : Int)) → L_X12_doneBy_6 n q u (W : Int) (i : Int) m' = some (dn s (s 0 49).toNat W (dg u), m2)) ∧ ((¬ ∀ j, j < (s 0 49).toNat → dg u j < (W : Int)) → L_X12_doneBy_6 n q u (W : Int) (i : Int) m' = some (99999, m2)) := by
  intro d
  have h8 := row_sz hr
  induction d with
  | zero =>
    intro i m' q h1 hv hM hq
    obtain ⟨q, rfl⟩ : ∃ z, q = z + 1 := ⟨q - 1, by omega⟩
    have e49 : m' 0 49 = s 0 49 := hM.1 0 49 rfl
    have ei : i = (s 0 49).toNat := by omega
    refine ⟨m', hM.1, fun _ => ?_, fun z => absurd (fun j hj => hv j (by omega)) z⟩
    show B_X12_doneBy_6 n (L_X12_doneBy_6 n q) u (W : Int) (i : Int) m' = _
    unfold B_X12_doneBy_6
    have b0 := ld_bd hr (dg u) 0 (k := i) (by omega)
    rw [e49, if_pos (by omega), bnd_id, M_latest (by rw [hM.2 0 (by decide)]; exact b0.1)]
    refine E_some ?_ rfl
    rw [← dn_3 hr hW (by omega) (fun j hj => ⟨(dg_bd u j).1, hv j (by omega)⟩)]
    refine maxS_ext 3 (fun g hg => ?_)
    rw [hM.2 g hg, ei]
  | succ d ih =>
    intro i m' q h1 hv hM hq
    obtain ⟨q, rfl⟩ : ∃ z, q = z + 1 := ⟨q - 1, by omega⟩
    have e49 : m' 0 49 = s 0 49 := hM.1 0 49 rfl
    have hi : (i : Int) < s 0 49 := by omega
    have rb := (hr.2.2 i hi).2
    have e29 : m' 29 i = s 29 i := hM.1 29 i rfl
    have db := dg_bd u i
    have eB : B_X12_doneBy_6 n (L_X12_doneBy_6 n q) u (W : Int) (i : Int) m' = if dg u i < (W : Int) then L_X12_doneBy_6 n q u (W : Int) ((i + 1 : Nat) : Int) (wr m' 25 (dg u i).toNat (m' 25 (dg u i).toNat + s 29 i)) else some (99999, m') := by
      unfold B_X12_doneBy_6
      rw [e49, if_neg (by omega), show ((2 : Int) * (i : Int)).toNat = 2 * i by omega, chk_pos (by omega), chk_pos (by omega), Int.toNat_natCast, e29]
      rw [show u / 2 ^ (2 * i) % 2 ^ 2 = dg u i from rfl]
      by_cases c1 : dg u i < (W : Int)
      · have lb := ld_bd hr (dg u) (dg u i).toNat (k := i) (by omega)
        rw [if_pos c1, if_pos c1, zM25, zM29, chk_pos (by omega), chk_pos (by omega), chk_pos (by rw [hM.2 _ (by omega)]; omega), chk_pos (by omega), chk_pos (by omega), cast1]
      · rw [if_neg c1, if_neg c1]
    show ∃ m2, AG k25 s m2 ∧ ((∀ j, j < (s 0 49).toNat → dg u j < (W : Int)) → B_X12_doneBy_6 n (L_X12_doneBy_6 n q) u (W : Int) (i : Int) m' = some (dn s (s 0 49).toNat W (dg u), m2)) ∧ ((¬ ∀ j, j < (s 0 49).toNat → dg u j < (W : Int)) → B_X12_doneBy_6 n (L_X12_doneBy_6 n q) u (W : Int) (i : Int) m' = some (99999, m2))
    rw [eB]
    by_cases c1 : dg u i < (W : Int)
    · rw [if_pos c1]
      refine ih (i + 1) _ q (by omega) (fun j hj => ?_) ⟨hM.1.wr rfl, fun g hg => ?_⟩ (by omega)
      · by_cases e : j = i
        · rw [e]; exact c1
        · exact hv j (by omega)
      · show _ = ld s i (dg u) g + ldB s (dg u) g i
        unfold ldB
        by_cases e : g = (dg u i).toNat
        · subst e
          rw [wr_eq, if_pos (by omega), hM.2 _ hg]
        · rw [wr_nk e, if_neg (by omega), hM.2 _ hg]
          omega
    · rw [if_neg c1]
      exact ⟨m', hM.1, fun z => absurd (z i (by omega)) c1, fun _ => rfl⟩
theorem M_doneBy (hr : CPr x s) (hW : 1 ≤ W ∧ W ≤ 3) (hn : 10000 ≤ n) (u : Int) {s' : ZMem} (h : AG k25 s s') : ∃ m2, AG k25 s m2 ∧ ((∀ j, j < (s 0 49).toNat → dg u j < (W : Int)) → F_X12_doneBy n u (W : Int) s' = some (dn s (s 0 49).toNat W (dg u), m2)) ∧ ((¬ ∀ j, j < (s 0 49).toNat → dg u j < (W : Int)) → F_X12_doneBy n u (W : Int) s' = some (99999, m2)) := by
  have h8 := row_sz hr
  obtain ⟨m', e, hM⟩ := M_empty (n := n) hn h (dg u)
  unfold F_X12_doneBy
  rw [E_bnd e rfl]
  exact done_loop hr hW u (s 0 49).toNat 0 m' n (by omega) (fun j hj => by omega) hM (by omega)
/-- b is the best code of those below q -/
def BC (s : ZMem) (W : Nat) (q b v : Int) : Prop := (b = 0 ∧ v = 99999 ∧ ∀ q', 0 ≤ q' ∧ q' < q → ¬ ∀ j, j < (s 0 49).toNat → dg q' j < (W : Int)) ∨ ((0 ≤ b ∧ b < q) ∧ (∀ j, j < (s 0 49).toNat → dg b j < (W : Int)) ∧ v = dn s (s 0 49).toNat W (dg b) ∧ ∀ q', 0 ≤ q' ∧ q' < q → (∀ j, j < (s 0 49).toNat → dg q' j < (W : Int)) → v ≤ dn s (s 0 49).toNat W (dg q') ∧ (v = dn s (s 0 49).toNat W (dg q') → b ≤ q'))
def P4 (s : ZMem) : Int := 1 * 2 ^ (2 * (s 0 49).toNat)
theorem P4_bd (hr : CPr x s) : 1 ≤ P4 s ∧ P4 s ≤ 65536 := by
  have h8 := row_sz hr
  unfold P4
  rcases c9 (show (s 0 49).toNat ≤ 8 by omega) with e | e | e | e | e | e | e | e | e <;> rw [e] <;> decide
theorem code_loop (hr : CPr x s) (hW : 1 ≤ W ∧ W ≤ 3) (hn : 10000 ≤ n) : ∀ (d : Nat) (k b v : Int) (m' : ZMem) (q : Nat), k + (d : Int) = P4 s → 0 ≤ k → AG k25 s m' → BC s W k b v → d < q → ∃ b' v' m2, L_X12_soonestCode_9 n q (W : Int) b v k m' = some (b', m2) ∧ AG k25 s m2 ∧ BC s W (P4 s) b' v' := by
  intro d
  have h8 := row_sz hr
  have p4 := P4_bd hr
  induction d with
  | zero =>
    intro k b v m' q h1 h2 hm hB hq
    obtain ⟨q, rfl⟩ : ∃ z, q = z + 1 := ⟨q - 1, by omega⟩
    have e49 : m' 0 49 = s 0 49 := hm 0 49 rfl
    have e : k = P4 s := by omega
    subst e
    refine ⟨b, v, m', ?_, hm, hB⟩
    show B_X12_soonestCode_9 n (L_X12_soonestCode_9 n q) (W : Int) b v (P4 s) m' = _
    unfold B_X12_soonestCode_9
    rw [e49, show ((2 : Int) * s 0 49).toNat = 2 * (s 0 49).toNat by omega, show (1 : Int) * 2 ^ (2 * (s 0 49).toNat) = P4 s from rfl, chk_pos (by omega), chk_pos (by omega), chk_pos (by omega), if_pos (Int.le_refl _)]
  | succ d ih =>
    intro k b v m' q h1 h2 hm hB hq
    obtain ⟨q, rfl⟩ : ∃ z, q = z + 1 := ⟨q - 1, by omega⟩
    have e49 : m' 0 49 = s 0 49 := hm 0 49 rfl
    obtain ⟨m2, g, f1, f2⟩ := M_doneBy (n := n) hr hW hn k hm
    show ∃ b' v' m2, B_X12_soonestCode_9 n (L_X12_soonestCode_9 n q) (W : Int) b v k m' = some (b', m2) ∧ AG k25 s m2 ∧ BC s W (P4 s) b' v'
    unfold B_X12_soonestCode_9
    rw [e49, show ((2 : Int) * s 0 49).toNat = 2 * (s 0 49).toNat by omega, show (1 : Int) * 2 ^ (2 * (s 0 49).toNat) = P4 s from rfl, chk_pos (by omega), chk_pos (by omega), chk_pos (by omega), if_neg (by omega)]
    have db := dn_bd hr (dg k) W
    by_cases cv : ∀ j, j < (s 0 49).toNat → dg k j < (W : Int)
    · rw [E_bnd (f1 cv) rfl]
      by_cases c1 : v ≤ dn s (s 0 49).toNat W (dg k)
      · rw [if_pos c1, if_pos c1, chk_pos (by omega)]
        refine ih (k + 1) b v m2 q (by omega) (by omega) g ?_ (by omega)
        rcases hB with ⟨a1, a2, a3⟩ | ⟨a1, a2, a3, a4⟩
        · omega
        · refine Or.inr ⟨by omega, a2, a3, fun q' hq' hv => ?_⟩
          by_cases e : q' = k
          · subst e
            exact ⟨c1, fun _ => by omega⟩
          · exact a4 q' (by omega) hv
      · rw [if_neg c1, if_neg c1, chk_pos (by omega)]
        refine ih (k + 1) k _ m2 q (by omega) (by omega) g (Or.inr ⟨by omega, cv, rfl, fun q' hq' hv => ?_⟩) (by omega)
        by_cases e : q' = k
        · subst e
          exact ⟨Int.le_refl _, fun _ => Int.le_refl _⟩
        · rcases hB with ⟨a1, a2, a3⟩ | ⟨a1, a2, a3, a4⟩
          · exact absurd hv (a3 q' (by omega))
          · have := a4 q' (by omega) hv
            exact ⟨by omega, fun z => by omega⟩
    · rw [E_bnd (f2 cv) rfl]
      have v9 : v ≤ 99999 := by
        rcases hB with ⟨a1, a2, a3⟩ | ⟨a1, a2, a3, a4⟩
        · omega
        · have := dn_bd hr (dg b) W
          omega
      rw [if_pos v9, if_pos v9, chk_pos (by omega)]
      refine ih (k + 1) b v m2 q (by omega) (by omega) g ?_ (by omega)
      rcases hB with ⟨a1, a2, a3⟩ | ⟨a1, a2, a3, a4⟩
      · refine Or.inl ⟨a1, a2, fun q' hq' hv => ?_⟩
        by_cases e : q' = k
        · subst e
          exact cv hv
        · exact a3 q' (by omega) hv
      · refine Or.inr ⟨by omega, a2, a3, fun q' hq' hv => ?_⟩
        by_cases e : q' = k
        · subst e
          exact absurd hv cv
        · exact a4 q' (by omega) hv
end ZOP21
