/-! WHAT THE FUNCTIONS ANSWER. The state is told by the reference's own table of numbers (ZMem of LM's shape). -/
theorem E_chk {P : Prop} [Decidable P] {o : ZR} {x : ZR} (h : P) (k : o = x) : chk P o = x := by rw [chk_pos h]; exact k
theorem E_bnd {o : ZR} {f : Int → ZMem → ZR} {x : ZR} {r : Int} {m : ZMem} (h : o = some (r, m)) (k : f r m = x) : bnd o f = x := by rw [h]; exact k
theorem E_ite {c : Prop} [Decidable c] {a b x : ZR} (ha : c → a = x) (hb : ¬ c → b = x) : (if c then a else b) = x := by
  by_cases h : c
  · rw [if_pos h]; exact ha h
  · rw [if_neg h]; exact hb h
theorem E_some {r r' : Int} {m m' : ZMem} (h : r = r') (hm : m = m') : (some (r, m) : ZR) = some (r', m') := by rw [h, hm]
theorem cast1 (p : Nat) : ((p : Int) + 1) = ((p + 1 : Nat) : Int) := by omega
/-- products of bounded numbers -/
theorem mul_bd {a b A B : Int} (h1 : 0 ≤ a) (h2 : a ≤ A) (h3 : 0 ≤ b) (h4 : b ≤ B) : 0 ≤ a * b ∧ a * b ≤ A * B := ⟨Int.mul_nonneg h1 h3, Int.mul_le_mul h2 h4 h3 (Int.le_trans h1 h2)⟩
theorem mul_bd1 {a b A B : Int} (h1 : 1 ≤ a) (h2 : a ≤ A) (h3 : 1 ≤ b) (h4 : b ≤ B) : 1 ≤ a * b ∧ a * b ≤ A * B := by
  refine ⟨?_, Int.mul_le_mul h2 h4 (by omega) (by omega)⟩
  have := Int.mul_le_mul h1 h3 (by decide) (by omega)
  omega
def nearS (a b : Int) : Int := (2 * a + b - 1) / (2 * b)
def upS (a b : Int) : Int := (a + b - 1) / b
def wholeS (a b : Int) : Int := if 1 ≤ nearS a b then 12 * nearS a b else 12
theorem div_bd {a b : Int} (h : 0 ≤ a) (hb : 0 < b) : 0 ≤ a / b ∧ a / b ≤ a := ⟨Int.ediv_nonneg h (by omega), Int.ediv_le_self b h⟩
theorem nearS_bd {a b : Int} (h : 0 ≤ a) (hb : 0 < b) : 0 ≤ nearS a b ∧ nearS a b ≤ a := by
  unfold nearS
  refine ⟨Int.ediv_nonneg (by omega) (by omega), ?_⟩
  have h1 : (2 * a + b - 1) / (2 * b) < a + 1 := by
    apply Int.ediv_lt_of_lt_mul (by omega)
    have h2 : a ≤ a * b := by
      have := Int.mul_le_mul_of_nonneg_left (show (1 : Int) ≤ b by omega) h
      omega
    have h3 : (a + 1) * (2 * b) = 2 * (a * b) + 2 * b := by
      rw [Int.add_mul, Int.one_mul, Int.mul_left_comm]
    omega
  omega
theorem upS_bd {a b : Int} (h : 0 ≤ a) (hb : 0 < b) : 0 ≤ upS a b ∧ upS a b ≤ a := by
  unfold upS
  refine ⟨Int.ediv_nonneg (by omega) (by omega), ?_⟩
  have h1 : (a + b - 1) / b < a + 1 := by
    apply Int.ediv_lt_of_lt_mul hb
    have h2 : a ≤ a * b := by
      have := Int.mul_le_mul_of_nonneg_left (show (1 : Int) ≤ b by omega) h
      omega
    rw [Int.add_mul, Int.one_mul]
    omega
  omega
theorem nearS_nearest {a b : Int} (h : 0 ≤ a) (hb : 0 < b) : nearS a b = if b < 2 * (a % b) then a / b + 1 else a / b := by
  unfold nearS
  have e := Int.emod_add_mul_ediv a b
  have h1 := Int.emod_nonneg a (show b ≠ 0 by omega)
  have h2 := Int.emod_lt_of_pos a hb
  have key : 2 * a + b - 1 = (2 * (a % b) + b - 1) + (2 * b) * (a / b) := by
    have : (2 * b) * (a / b) = 2 * (b * (a / b)) := Int.mul_assoc 2 b (a / b)
    omega
  rw [key, Int.add_mul_ediv_left _ _ (show (2 * b) ≠ 0 by omega)]
  split
  · have : (2 * (a % b) + b - 1) / (2 * b) = 1 := by
      apply Int.le_antisymm
      · have := Int.ediv_lt_of_lt_mul (show (0 : Int) < 2 * b by omega) (show 2 * (a % b) + b - 1 < 2 * (2 * b) by omega)
        omega
      · exact Int.le_ediv_of_mul_le (by omega) (by omega)
    omega
  · rw [Int.ediv_eq_zero_of_lt (by omega) (by omega)]
    omega
theorem wholeS_max {a b : Int} : wholeS a b = 12 * max 1 (nearS a b) := by unfold wholeS; split <;> omega
theorem wholeS_bd {a b : Int} (h : 0 ≤ a) (hb : 0 < b) : 0 ≤ wholeS a b ∧ wholeS a b ≤ 12 * a + 12 := by
  have := nearS_bd h hb
  unfold wholeS
  split <;> omega
/-- what is taken of a part, its share being a by b -/
def takS (s : ZMem) (p : Nat) (a b : Int) : Int :=
  if s 1 p = 0 then nearS (12 * a) b else if s 1 p = 1 then wholeS a b else if s 1 p = 2 then s 2 p * nearS (12 * a) (b * s 2 p) else if s 1 p = 3 then 12 * s 2 p * upS a (b * s 2 p) else if s 1 p = 4 then 12 * s 4 p else if zabs (wholeS a b * b - 12 * a) ≤ s 2 p * b then wholeS a b else nearS (12 * a) b
def WFs (s : ZMem) : Prop :=
  (1 ≤ s 0 0 ∧ s 0 0 ≤ 24) ∧ (1 ≤ s 0 1 ∧ s 0 1 ≤ 24) ∧ (0 ≤ s 0 2 ∧ s 0 2 ≤ 8) ∧ (0 ≤ s 0 3 ∧ s 0 3 ≤ 5) ∧ (0 ≤ s 0 4 ∧ s 0 4 ≤ 6) ∧ (1 ≤ s 0 5 ∧ s 0 5 ≤ 999) ∧ (1 ≤ s 0 6 ∧ s 0 6 ≤ 99) ∧ (0 ≤ s 0 41 ∧ s 0 41 ≤ 5) ∧ (0 ≤ s 0 47 ∧ s 0 47 ≤ 4) ∧
  (∀ p : Nat, (p : Int) < s 0 2 → (0 ≤ s 1 p ∧ s 1 p ≤ 5) ∧ (1 ≤ s 2 p ∧ s 2 p ≤ 9) ∧ (0 ≤ s 3 p ∧ s 3 p ≤ 9) ∧ (1 ≤ s 4 p ∧ s 4 p ≤ 99) ∧ (0 ≤ s 5 p ∧ s 5 p ≤ 99) ∧ (0 ≤ s 21 p ∧ s 21 p ≤ 99) ∧ (0 ≤ s 22 p ∧ s 22 p ≤ 99)) ∧
  (∀ t : Nat, (t : Int) < s 0 3 → (s 6 t = 0 ∨ s 6 t = 1) ∧ (1 ≤ s 7 t ∧ s 7 t ≤ 30)) ∧
  (∀ i : Nat, (i : Int) < s 0 4 → (0 ≤ s 8 (5 * i) ∧ s 8 (5 * i) < s 0 2) ∧ (0 ≤ s 8 (5 * i + 1) ∧ s 8 (5 * i + 1) < s 0 2) ∧ (1 ≤ s 8 (5 * i + 2) ∧ s 8 (5 * i + 2) ≤ 9) ∧ (1 ≤ s 8 (5 * i + 3) ∧ s 8 (5 * i + 3) ≤ 9) ∧ (0 ≤ s 8 (5 * i + 4) ∧ s 8 (5 * i + 4) ≤ 9)) ∧
  (∀ k : Nat, k < 3 → 0 ≤ s 9 k ∧ s 9 k ≤ 12) ∧ (∀ k : Nat, (k : Int) < s 0 41 → 1 ≤ s 23 k ∧ s 23 k ≤ 40) ∧
  (∀ d : Nat, (d : Int) < s 0 47 → (0 ≤ s 28 (5 * d) ∧ s 28 (5 * d) < s 0 2) ∧ (0 ≤ s 28 (5 * d + 1) ∧ s 28 (5 * d + 1) ≤ 99) ∧ (0 ≤ s 28 (5 * d + 2) ∧ s 28 (5 * d + 2) < s 0 2) ∧ (0 ≤ s 28 (5 * d + 3) ∧ s 28 (5 * d + 3) ≤ 99) ∧ (0 ≤ s 28 (5 * d + 4) ∧ s 28 (5 * d + 4) ≤ 99))
theorem WFs.f {s : ZMem} (h : WFs s) : 1 ≤ s 0 0 ∧ s 0 0 ≤ 24 := h.1
theorem WFs.g {s : ZMem} (h : WFs s) : 1 ≤ s 0 1 ∧ s 0 1 ≤ 24 := h.2.1
theorem WFs.np {s : ZMem} (h : WFs s) : 0 ≤ s 0 2 ∧ s 0 2 ≤ 8 := h.2.2.1
theorem WFs.nt {s : ZMem} (h : WFs s) : 0 ≤ s 0 3 ∧ s 0 3 ≤ 5 := h.2.2.2.1
theorem WFs.ns {s : ZMem} (h : WFs s) : 0 ≤ s 0 4 ∧ s 0 4 ≤ 6 := h.2.2.2.2.1
theorem WFs.vol {s : ZMem} (h : WFs s) : 1 ≤ s 0 5 ∧ s 0 5 ≤ 999 := h.2.2.2.2.2.1
theorem WFs.tim {s : ZMem} (h : WFs s) : 1 ≤ s 0 6 ∧ s 0 6 ≤ 99 := h.2.2.2.2.2.2.1
theorem WFs.nw {s : ZMem} (h : WFs s) : 0 ≤ s 0 41 ∧ s 0 41 ≤ 5 := h.2.2.2.2.2.2.2.1
theorem WFs.nd {s : ZMem} (h : WFs s) : 0 ≤ s 0 47 ∧ s 0 47 ≤ 4 := h.2.2.2.2.2.2.2.2.1
theorem WFs.pt {s : ZMem} (h : WFs s) (p : Nat) (hp : (p : Int) < s 0 2) : (0 ≤ s 1 p ∧ s 1 p ≤ 5) ∧ (1 ≤ s 2 p ∧ s 2 p ≤ 9) ∧ (0 ≤ s 3 p ∧ s 3 p ≤ 9) ∧ (1 ≤ s 4 p ∧ s 4 p ≤ 99) ∧ (0 ≤ s 5 p ∧ s 5 p ≤ 99) ∧ (0 ≤ s 21 p ∧ s 21 p ≤ 99) ∧ (0 ≤ s 22 p ∧ s 22 p ≤ 99) := h.2.2.2.2.2.2.2.2.2.1 p hp
theorem WFs.tn {s : ZMem} (h : WFs s) (t : Nat) (ht : (t : Int) < s 0 3) : (s 6 t = 0 ∨ s 6 t = 1) ∧ (1 ≤ s 7 t ∧ s 7 t ≤ 30) := h.2.2.2.2.2.2.2.2.2.2.1 t ht
theorem WFs.si {s : ZMem} (h : WFs s) (i : Nat) (hi : (i : Int) < s 0 4) : (0 ≤ s 8 (5 * i) ∧ s 8 (5 * i) < s 0 2) ∧ (0 ≤ s 8 (5 * i + 1) ∧ s 8 (5 * i + 1) < s 0 2) ∧ (1 ≤ s 8 (5 * i + 2) ∧ s 8 (5 * i + 2) ≤ 9) ∧ (1 ≤ s 8 (5 * i + 3) ∧ s 8 (5 * i + 3) ≤ 9) ∧ (0 ≤ s 8 (5 * i + 4) ∧ s 8 (5 * i + 4) ≤ 9) := h.2.2.2.2.2.2.2.2.2.2.2.1 i hi
theorem WFs.cu {s : ZMem} (h : WFs s) (k : Nat) (hk : k < 3) : 0 ≤ s 9 k ∧ s 9 k ≤ 12 := h.2.2.2.2.2.2.2.2.2.2.2.2.1 k hk
theorem WFs.we {s : ZMem} (h : WFs s) (k : Nat) (hk : (k : Int) < s 0 41) : 1 ≤ s 23 k ∧ s 23 k ≤ 40 := h.2.2.2.2.2.2.2.2.2.2.2.2.2.1 k hk
theorem WFs.di {s : ZMem} (h : WFs s) (d : Nat) (hd : (d : Int) < s 0 47) : (0 ≤ s 28 (5 * d) ∧ s 28 (5 * d) < s 0 2) ∧ (0 ≤ s 28 (5 * d + 1) ∧ s 28 (5 * d + 1) ≤ 99) ∧ (0 ≤ s 28 (5 * d + 2) ∧ s 28 (5 * d + 2) < s 0 2) ∧ (0 ≤ s 28 (5 * d + 3) ∧ s 28 (5 * d + 3) ≤ 99) ∧ (0 ≤ s 28 (5 * d + 4) ∧ s 28 (5 * d + 4) ≤ 99) := h.2.2.2.2.2.2.2.2.2.2.2.2.2.2 d hd
/-- bounds of what is taken -/
theorem takS_bd {s : ZMem} (h : WFs s) {p : Nat} (hp : (p : Int) < s 0 2) {a b : Int} (ha : 0 ≤ a ∧ a ≤ 24000) (hb : 1 ≤ b ∧ b ≤ 24) : 0 ≤ takS s p a b ∧ takS s p a b ≤ 290000 := by
  obtain ⟨h1, h2, h3, h4, -⟩ := h.pt p hp
  have n1 := nearS_bd (a := 12 * a) (b := b) (by omega) (by omega)
  have w1 := wholeS_bd (a := a) (b := b) (by omega) (by omega)
  have bs := mul_bd1 hb.1 hb.2 h2.1 h2.2
  unfold takS
  split
  · omega
  split
  · omega
  split
  · -- step times the nearest of 12 a by b step
    have key : s 2 p * nearS (12 * a) (b * s 2 p) ≤ 12 * a + 9 := by
      unfold nearS
      have hq := Int.mul_ediv_self_le (x := 2 * (12 * a) + b * s 2 p - 1) (k := 2 * (b * s 2 p)) (by omega)
      generalize hQ : (2 * (12 * a) + b * s 2 p - 1) / (2 * (b * s 2 p)) = Q at hq ⊢
      have hQ0 : 0 ≤ Q := by rw [← hQ]; exact Int.ediv_nonneg (by omega) (by omega)
      have e1 : 2 * (b * s 2 p) * Q = 2 * (b * (s 2 p * Q)) := by rw [Int.mul_assoc, Int.mul_assoc]
      have hsQ : 0 ≤ s 2 p * Q := Int.mul_nonneg (by omega) hQ0
      rcases Int.le_total (s 2 p * Q) (12 * a + 9) with hh | hh
      · exact hh
      · exfalso
        have e2 : b * (12 * a + 10) ≤ b * (s 2 p * Q + 1) := Int.mul_le_mul_of_nonneg_left (by omega) (by omega)
        have e3 : b * (s 2 p * Q + 1) = b * (s 2 p * Q) + b := by rw [Int.mul_add, Int.mul_one]
        have e4 : b * (12 * a + 10) = b * (12 * a) + b * 10 := Int.mul_add _ _ _
        have e5 : 12 * a ≤ b * (12 * a) := by
          have := Int.mul_le_mul_of_nonneg_right hb.1 (show (0 : Int) ≤ 12 * a by omega)
          omega
        have e6 : b * s 2 p ≤ b * 9 := Int.mul_le_mul_of_nonneg_left h2.2 (by omega)
        omega
    exact ⟨Int.mul_nonneg (by omega) (nearS_bd (by omega) (by omega)).1, by omega⟩
  split
  · have key : s 2 p * upS a (b * s 2 p) ≤ a + 9 := by
      unfold upS
      have hq := Int.mul_ediv_self_le (x := a + b * s 2 p - 1) (k := b * s 2 p) (by omega)
      generalize hQ : (a + b * s 2 p - 1) / (b * s 2 p) = Q at hq ⊢
      have hQ0 : 0 ≤ Q := by rw [← hQ]; exact Int.ediv_nonneg (by omega) (by omega)
      have e1 : b * s 2 p * Q = b * (s 2 p * Q) := Int.mul_assoc _ _ _
      rcases Int.le_total (s 2 p * Q) (a + 9) with hh | hh
      · exact hh
      · exfalso
        have e2 : b * (a + 9) ≤ b * (s 2 p * Q) := Int.mul_le_mul_of_nonneg_left hh (by omega)
        have e4 : b * (a + 9) = b * a + b * 9 := Int.mul_add _ _ _
        have e5 : a ≤ b * a := by
          have := Int.mul_le_mul_of_nonneg_right hb.1 ha.1
          omega
        have e6 : b * s 2 p ≤ b * 9 := Int.mul_le_mul_of_nonneg_left h2.2 (by omega)
        omega
    have hu := (upS_bd (a := a) (b := b * s 2 p) (by omega) (by omega)).1
    have e7 : 12 * s 2 p * upS a (b * s 2 p) = 12 * (s 2 p * upS a (b * s 2 p)) := Int.mul_assoc _ _ _
    have e8 := Int.mul_nonneg (show 0 ≤ s 2 p by omega) hu
    omega
  split
  · omega
  split <;> omega
