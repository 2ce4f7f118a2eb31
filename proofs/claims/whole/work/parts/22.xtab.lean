/-! TABLES of the class: t a table's place, its row of cells behind it; R lines, W wide -/
def TB (x : ZMem) (t R W : Nat) : Prop := x t 1 = R ∧ x t 2 = W ∧ (0 ≤ x t 3 ∧ x t 3 ≤ R) ∧ zlen LX (t + 1) = ((R * W : Nat) : Int) ∧ R * W ≤ 5000 ∧ 1 ≤ W ∧ R ≤ 2200 ∧ W ≤ 7
theorem line_lt {i R W j : Nat} (hi : i < R) (hj : j < W) : i * W + j < R * W := by
  have h := Nat.mul_le_mul_right W (show i + 1 ≤ R from hi)
  rw [Nat.add_mul, Nat.one_mul] at h
  omega
theorem X_size (n t : Nat) (x : ZMem) : F_X9_size n t x = some (x t 3, x) := rfl
theorem X_at {n t R W i j : Nat} {x : ZMem} (h : TB x t R W) (hi : (i : Int) < x t 3) (hj : j < W) : F_X9_at n t (i : Int) (j : Int) x = some (x (t + 1) (i * W + j), x) := by
  obtain ⟨h1, h2, ⟨h3, h4⟩, h5, h6, h7, h8, h9⟩ := h
  have hl := line_lt (i := i) (R := R) (W := W) (j := j) (by omega) hj
  have e : (i : Int) * (W : Int) + (j : Int) = ((i * W + j : Nat) : Int) := by rw [Int.natCast_add, Int.natCast_mul]
  have e2 : (i : Int) * (W : Int) = ((i * W : Nat) : Int) := (Int.natCast_mul i W).symm
  unfold F_X9_at
  rw [if_neg (by omega), if_neg (by omega), if_neg (by omega), if_neg (by omega)]
  unfold B_X9_at_29
  rw [if_neg (by decide), h2, e, h5, e2, Int.toNat_natCast]
  exact E_chk (by omega) (E_chk (by omega) (by rw [if_neg (by omega), if_neg (by omega)]; exact E_chk (by omega) rfl))
theorem X_at0 {n t R i : Nat} {x : ZMem} (h : TB x t R 1) (hi : (i : Int) < x t 3) : F_X9_at n t (i : Int) 0 x = some (x (t + 1) i, x) := by
  have := X_at (n := n) (j := 0) h hi (by omega)
  rw [Nat.mul_one, Nat.add_zero] at this
  exact this
theorem X_at_out {n t : Nat} {x : ZMem} {a b : Int} (h : a < 0 ∨ x t 3 ≤ a) : F_X9_at n t a b x = some (0, x) := by
  have hB : B_X9_at_29 n t a b 0 x = some (0, x) := by unfold B_X9_at_29; rw [if_pos rfl]
  unfold F_X9_at
  refine E_ite (fun _ => hB) (fun h1 => ?_)
  rw [if_pos (by omega), hB]
theorem X_put {n t R W i j : Nat} {x : ZMem} {v : Int} (h : TB x t R W) (hi : (i : Int) < x t 3) (hj : j < W) : F_X9_put n t (i : Int) (j : Int) v x = some (0, wr x (t + 1) (i * W + j) v) := by
  obtain ⟨h1, h2, ⟨h3, h4⟩, h5, h6, h7, h8, h9⟩ := h
  have hl := line_lt (i := i) (R := R) (W := W) (j := j) (by omega) hj
  have e : (i : Int) * (W : Int) + (j : Int) = ((i * W + j : Nat) : Int) := by rw [Int.natCast_add, Int.natCast_mul]
  have e2 : (i : Int) * (W : Int) = ((i * W : Nat) : Int) := (Int.natCast_mul i W).symm
  unfold F_X9_put
  rw [if_neg (by omega), if_neg (by omega), if_neg (by omega), if_neg (by omega)]
  unfold B_X9_put_29
  rw [if_neg (by decide), h2, e, h5, e2, Int.toNat_natCast]
  exact E_chk (by omega) (E_chk (by omega) (by rw [if_neg (by omega), if_neg (by omega)]; exact E_chk (by omega) rfl))
theorem X_put0 {n t R i : Nat} {x : ZMem} {v : Int} (h : TB x t R 1) (hi : (i : Int) < x t 3) : F_X9_put n t (i : Int) 0 v x = some (0, wr x (t + 1) i v) := by
  have := X_put (n := n) (j := 0) (v := v) h hi (by omega)
  rw [Nat.mul_one, Nat.add_zero] at this
  exact this
theorem X_put_out {n t : Nat} {x : ZMem} {a b v : Int} (h : a < 0 ∨ x t 3 ≤ a) : F_X9_put n t a b v x = some (0, x) := by
  have hB : B_X9_put_29 n t a b v 0 x = some (0, x) := by unfold B_X9_put_29; rw [if_pos rfl]
  unfold F_X9_put
  refine E_ite (fun _ => hB) (fun h1 => ?_)
  rw [if_pos (by omega), hB]
theorem X_has {n t : Nat} {a : Int} {x : ZMem} : F_X9_has n t a x = some (if 0 ≤ a ∧ a < x t 3 then 1 else 0, x) := by
  unfold F_X9_has
  refine E_ite (fun h => ?_) (fun h => E_ite (fun h2 => ?_) (fun h2 => ?_))
  · rw [if_neg (by omega)]
  · rw [if_neg (by omega)]
  · rw [if_pos (by omega)]
theorem X_full {n t : Nat} {x : ZMem} : F_X9_full n t x = some (if x t 3 < x t 1 then 0 else 1, x) := by
  unfold F_X9_full
  refine E_ite (fun h => ?_) (fun h => ?_)
  · rw [if_pos h]
  · rw [if_neg h]
theorem X_exchange {n t R W i j : Nat} {x : ZMem} {v : Int} (h : TB x t R W) (hi : (i : Int) < x t 3) (hj : j < W) : F_X9_exchange n t (i : Int) (j : Int) v x = some (x (t + 1) (i * W + j), wr x (t + 1) (i * W + j) v) := by
  unfold F_X9_exchange
  exact E_bnd (X_at h hi hj) (E_bnd (X_put h hi hj) rfl)
theorem X_dropLast {n t : Nat} {x : ZMem} (h : 0 ≤ x t 3 ∧ x t 3 ≤ 10000) : F_X9_dropLast n t x = some (0, wr x t 3 (max (x t 3 - 1) 0)) := by
  unfold F_X9_dropLast
  exact E_chk (by omega) rfl
/-- v in the first k cells -/
def rsT (x : ZMem) (t : Nat) (v : Int) (k : Nat) : ZMem := fun i j => if i = t + 1 ∧ j < k then v else x i j
theorem rsT_0 (x : ZMem) (t : Nat) (v : Int) : rsT x t v 0 = x := by
  funext i j
  simp [rsT]
theorem rsT_s (x : ZMem) (t : Nat) (v : Int) (k : Nat) : wr (rsT x t v k) (t + 1) k v = rsT x t v (k + 1) := by
  funext i j
  simp only [wr, rsT]
  by_cases hi : i = t + 1
  · by_cases hj : j = k
    · rw [if_pos ⟨hi, hj⟩, if_pos ⟨hi, by omega⟩]
    · rw [if_neg (fun h => hj h.2)]
      by_cases hk : j < k
      · rw [if_pos ⟨hi, hk⟩, if_pos ⟨hi, by omega⟩]
      · rw [if_neg (fun h => hk h.2), if_neg (fun h => by omega)]
  · rw [if_neg (fun h => hi h.1), if_neg (fun h => hi h.1), if_neg (fun h => hi h.1)]
theorem rsT_t {x : ZMem} {t k j : Nat} {v : Int} : rsT x t v k t j = x t j := by
  simp only [rsT]
  rw [if_neg (fun h => by omega)]
theorem X_reset_loop {n t R W : Nat} {v : Int} {x : ZMem} (h : TB x t R W) {K : Nat} (hK : x t 3 * (W : Int) = (K : Int)) (hKR : K ≤ R * W) : ∀ (d k q : Nat), k + d = K → d < q → L_X9_reset_18 n t q v (k : Int) (rsT x t v k) = some (0, rsT x t v K) := by
  obtain ⟨h1, h2, h3, h5, h6, h7, h8, h9⟩ := h
  intro d
  induction d with
  | zero =>
    intro k q hk hq
    obtain ⟨q, rfl⟩ : ∃ q', q = q' + 1 := ⟨q - 1, by omega⟩
    show B_X9_reset_18 n t (L_X9_reset_18 n t q) _ _ _ = _
    unfold B_X9_reset_18
    rw [rsT_t, rsT_t, h2, hK]
    refine E_chk (by omega) ?_
    rw [if_pos (by omega), show k = K by omega]
  | succ d ih =>
    intro k q hk hq
    obtain ⟨q, rfl⟩ : ∃ q', q = q' + 1 := ⟨q - 1, by omega⟩
    show B_X9_reset_18 n t (L_X9_reset_18 n t q) _ _ _ = _
    unfold B_X9_reset_18
    rw [rsT_t, rsT_t, h2, hK, h5]
    refine E_chk (by omega) ?_
    rw [if_neg (by omega), if_neg (by omega)]
    refine E_chk (by omega) (E_chk (by omega) ?_)
    rw [cast1, Int.toNat_natCast, rsT_s]
    exact ih (k + 1) q (by omega) (by omega)
theorem X_reset {n t R W : Nat} {v : Int} {x : ZMem} (h : TB x t R W) (hn : 10000 ≤ n) {l : Nat} (hl : l ≤ R) {a : Int} (ha : a = (l : Int)) : F_X9_reset n t a v x = some (0, rsT (wr x t 3 (l : Int)) t v (l * W)) := by
  subst ha
  obtain ⟨h1, h2, h3, h5, h6, h7, h8, h9⟩ := h
  have hlW := Nat.mul_le_mul_right W hl
  unfold F_X9_reset
  rw [h1, show max (min (l : Int) (R : Int)) 0 = (l : Int) by omega]
  have h' : TB (wr x t 3 (l : Int)) t R W := ⟨by simp [wr]; exact h1, by simp [wr]; exact h2, by simp [wr]; omega, h5, h6, h7, h8, h9⟩
  have := X_reset_loop (n := n) (v := v) h' (K := l * W) (by simp [wr]) hlW (l * W) 0 n (by omega) (by omega)
  rw [rsT_0] at this
  exact this
/-- a line more -/
def adT (x : ZMem) (t b W : Nat) (v : Int) (k : Nat) : ZMem := fun i j => if i = t + 1 ∧ b ≤ j ∧ j < b + k then (if j = b then v else 0) else x i j
theorem adT_0 (x : ZMem) (t b W : Nat) (v : Int) : adT x t b W v 0 = x := by
  funext i j
  simp only [adT]
  rw [if_neg (fun h => by omega)]
theorem adT_s (x : ZMem) (t b W : Nat) (v : Int) (k : Nat) : wr (adT x t b W v k) (t + 1) (b + k) (if k = 0 then v else 0) = adT x t b W v (k + 1) := by
  funext i j
  simp only [wr, adT]
  (repeat' split) <;> first | rfl | (exfalso; omega)
theorem adT_t {x : ZMem} {t b W k j : Nat} {v : Int} : adT x t b W v k t j = x t j := by
  simp only [adT]
  rw [if_neg (fun h => by omega)]
theorem X_add_loop {n t R W b : Nat} {v : Int} {x : ZMem} (h : TB x t R W) (hb : b + W ≤ R * W) (hs : x t 3 ≤ 5000) : ∀ (d k q : Nat), k + d = W → d < q → L_X9_add_30 n t q v (b : Int) ((b + k : Nat) : Int) (adT x t b W v k) = some (x t 3, wr (adT x t b W v W) t 3 (x t 3 + 1)) := by
  obtain ⟨h1, h2, h3, h5, h6, h7, h8, h9⟩ := h
  intro d
  induction d with
  | zero =>
    intro k q hk hq
    obtain ⟨q, rfl⟩ : ∃ q', q = q' + 1 := ⟨q - 1, by omega⟩
    show B_X9_add_30 n t (L_X9_add_30 n t q) _ _ _ _ = _
    unfold B_X9_add_30
    simp only [adT_t, h2]
    refine E_chk (by omega) ?_
    rw [if_pos (by omega), show k = W by omega]
    have e : wr (adT x t b W v W) t 3 (x t 3 + 1) t 3 = x t 3 + 1 := by simp [wr]
    rw [e]
    exact E_chk (by omega) (E_chk (by omega) (E_some (by omega) rfl))
  | succ d ih =>
    intro k q hk hq
    obtain ⟨q, rfl⟩ : ∃ q', q = q' + 1 := ⟨q - 1, by omega⟩
    show B_X9_add_30 n t (L_X9_add_30 n t q) _ _ _ _ = _
    unfold B_X9_add_30
    simp only [adT_t, h2, h5]
    refine E_chk (by omega) ?_
    rw [if_neg (by omega), if_neg (by omega)]
    have st := adT_s x t b W v k
    refine E_ite (fun hc => ?_) (fun hc => ?_)
    · rw [if_pos (by omega)] at st
      refine E_chk (by omega) (E_chk (by omega) ?_)
      rw [cast1, Int.toNat_natCast, st]
      exact ih (k + 1) q (by omega) (by omega)
    · rw [if_neg (by omega)] at st
      refine E_chk (by omega) (E_chk (by omega) ?_)
      rw [cast1, Int.toNat_natCast, st]
      exact ih (k + 1) q (by omega) (by omega)
def addT (x : ZMem) (t W : Nat) (v : Int) : ZMem := wr (adT x t ((x t 3).toNat * W) W v W) t 3 (x t 3 + 1)
theorem X_add {n t R W : Nat} {v : Int} {x : ZMem} (h : TB x t R W) (hn : 10000 ≤ n) (hs : x t 3 < R) : F_X9_add n t v x = some (x t 3, addT x t W v) := by
  have h0 := h
  obtain ⟨h1, h2, h3, h5, h6, h7, h8, h9⟩ := h
  have e0 : x t 3 = ((x t 3).toNat : Int) := (Int.toNat_of_nonneg h3.1).symm
  have e : x t 3 * (W : Int) = (((x t 3).toNat * W : Nat) : Int) := by rw [Int.natCast_mul, ← e0]
  have hl := Nat.mul_le_mul_right W (show (x t 3).toNat + 1 ≤ R by omega)
  rw [Nat.add_mul, Nat.one_mul] at hl
  unfold F_X9_add addT
  rw [h2, h1, e]
  refine E_chk (by omega) ?_
  rw [if_neg (by omega), if_pos (by omega)]
  have := X_add_loop (n := n) (v := v) (b := (x t 3).toNat * W) h0 (by omega) (by omega) W 0 n (by omega) (by omega)
  rw [adT_0, Nat.add_zero] at this
  exact this
theorem X_add_full {n t R W : Nat} {v : Int} {x : ZMem} (h : TB x t R W) (hs : x t 3 = R) : F_X9_add n t v x = some (-9, x) := by
  obtain ⟨h1, h2, h3, h5, h6, h7, h8, h9⟩ := h
  have e : x t 3 * (W : Int) = ((R * W : Nat) : Int) := by rw [hs, Int.natCast_mul]
  unfold F_X9_add
  rw [h2, e]
  exact E_chk (by omega) (by rw [if_pos (by omega)])
/-- the cells of another -/
def cpT (x : ZMem) (t o k : Nat) : ZMem := fun i j => if i = t + 1 ∧ j < k then x (o + 1) j else x i j
theorem cpT_0 (x : ZMem) (t o : Nat) : cpT x t o 0 = x := by
  funext i j
  simp [cpT]
theorem cpT_s (x : ZMem) (t o k : Nat) : wr (cpT x t o k) (t + 1) k (x (o + 1) k) = cpT x t o (k + 1) := by
  funext i j
  simp only [wr, cpT]
  by_cases hi : i = t + 1
  · by_cases hj : j = k
    · subst hj
      rw [if_pos ⟨hi, rfl⟩, if_pos ⟨hi, by omega⟩]
    · rw [if_neg (fun h => hj h.2)]
      by_cases hk : j < k
      · rw [if_pos ⟨hi, hk⟩, if_pos ⟨hi, by omega⟩]
      · rw [if_neg (fun h => hk h.2), if_neg (fun h => by omega)]
  · rw [if_neg (fun h => hi h.1), if_neg (fun h => hi h.1), if_neg (fun h => hi h.1)]
theorem X_copy_loop {n t o K : Nat} {x : ZMem} (hto : t ≠ o) (h1 : zlen LX (t + 1) = (K : Int)) (h2 : zlen LX (o + 1) = (K : Int)) (hK : K ≤ 5000) : ∀ (d k q : Nat), k + d = K → d < q → L_X9_copyFrom_17 n t o q (k : Int) (cpT x t o k) = some (0, cpT x t o K) := by
  intro d
  induction d with
  | zero =>
    intro k q hk hq
    obtain ⟨q, rfl⟩ : ∃ q', q = q' + 1 := ⟨q - 1, by omega⟩
    show B_X9_copyFrom_17 n t o (L_X9_copyFrom_17 n t o q) _ _ = _
    unfold B_X9_copyFrom_17
    rw [h1, if_pos (by omega), show k = K by omega]
  | succ d ih =>
    intro k q hk hq
    obtain ⟨q, rfl⟩ : ∃ q', q = q' + 1 := ⟨q - 1, by omega⟩
    show B_X9_copyFrom_17 n t o (L_X9_copyFrom_17 n t o q) _ _ = _
    unfold B_X9_copyFrom_17
    have ec : cpT x t o k (o + 1) k = x (o + 1) k := by simp only [cpT]; rw [if_neg (fun h => by omega)]
    rw [h1, h2, if_neg (by omega), if_neg (by omega)]
    refine E_chk (by omega) (E_chk (by omega) (E_chk (by omega) ?_))
    rw [cast1, Int.toNat_natCast, ec, cpT_s]
    exact ih (k + 1) q (by omega) (by omega)
theorem X_copy {n t o R W : Nat} {x : ZMem} (ht : TB x t R W) (ho : TB x o R W) (hto : t ≠ o) (ho1 : o ≠ t + 1) (hn : 10000 ≤ n) : F_X9_copyFrom n t o x = some (0, cpT (wr x t 3 (x o 3)) t o (R * W)) := by
  obtain ⟨h1, h2, h3, h5, h6, h7, h8, h9⟩ := ht
  obtain ⟨g1, g2, g3, g5, -⟩ := ho
  unfold F_X9_copyFrom
  rw [h1, show min (x o 3) (R : Int) = x o 3 by omega]
  have := X_copy_loop (n := n) (x := wr x t 3 (x o 3)) hto h5 g5 h6 (R * W) 0 n (by omega) (by omega)
  rw [cpT_0] at this
  exact this
