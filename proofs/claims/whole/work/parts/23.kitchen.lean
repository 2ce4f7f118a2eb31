/-! THE KITCHEN: how the class's tables tell the same as the reference's rows; what is taken, how far off, what is left -/
def XK (x : ZMem) (k : Nat) (s : ZMem) : Prop :=
  (x k 0 = s 0 0 ∧ x k 1 = s 0 1 ∧ x k 2 = s 0 5 ∧ x k 3 = s 0 6) ∧
  (TB x (k + 1) 8 7 ∧ TB x (k + 3) 5 2 ∧ TB x (k + 5) 6 5 ∧ TB x (k + 7) 3 1 ∧ TB x (k + 9) 5 1 ∧ TB x (k + 11) 4 5) ∧
  (x (k + 1) 3 = s 0 2 ∧ x (k + 3) 3 = s 0 3 ∧ x (k + 5) 3 = s 0 4 ∧ x (k + 7) 3 = 3 ∧ x (k + 9) 3 = s 0 41 ∧ x (k + 11) 3 = s 0 47) ∧
  (∀ p : Nat, (p : Int) < s 0 2 → x (k + 2) (p * 7 + 0) = s 1 p ∧ x (k + 2) (p * 7 + 1) = s 2 p ∧ x (k + 2) (p * 7 + 2) = s 3 p ∧ x (k + 2) (p * 7 + 3) = s 4 p ∧ x (k + 2) (p * 7 + 4) = s 5 p ∧ x (k + 2) (p * 7 + 5) = s 21 p ∧ x (k + 2) (p * 7 + 6) = s 22 p) ∧
  (∀ t : Nat, (t : Int) < s 0 3 → x (k + 4) (t * 2 + 0) = s 6 t ∧ x (k + 4) (t * 2 + 1) = s 7 t) ∧
  (∀ i : Nat, (i : Int) < s 0 4 → ∀ c : Nat, c < 5 → x (k + 6) (i * 5 + c) = s 8 (5 * i + c)) ∧
  (∀ c : Nat, c < 3 → x (k + 8) c = s 9 c) ∧ (∀ w : Nat, (w : Int) < s 0 41 → x (k + 10) w = s 23 w) ∧
  (∀ d : Nat, (d : Int) < s 0 47 → ∀ c : Nat, c < 5 → x (k + 12) (d * 5 + c) = s 28 (5 * d + c))
theorem XK.fm {x s : ZMem} (h : XK x 1 s) : x 1 0 = s 0 0 := h.1.1
theorem XK.gu {x s : ZMem} (h : XK x 1 s) : x 1 1 = s 0 1 := h.1.2.1
theorem XK.vo {x s : ZMem} (h : XK x 1 s) : x 1 2 = s 0 5 := h.1.2.2.1
theorem XK.mi {x s : ZMem} (h : XK x 1 s) : x 1 3 = s 0 6 := h.1.2.2.2
theorem XK.t2 {x s : ZMem} (h : XK x 1 s) : TB x 2 8 7 := h.2.1.1
theorem XK.t4 {x s : ZMem} (h : XK x 1 s) : TB x 4 5 2 := h.2.1.2.1
theorem XK.t6 {x s : ZMem} (h : XK x 1 s) : TB x 6 6 5 := h.2.1.2.2.1
theorem XK.t8 {x s : ZMem} (h : XK x 1 s) : TB x 8 3 1 := h.2.1.2.2.2.1
theorem XK.t10 {x s : ZMem} (h : XK x 1 s) : TB x 10 5 1 := h.2.1.2.2.2.2.1
theorem XK.t12 {x s : ZMem} (h : XK x 1 s) : TB x 12 4 5 := h.2.1.2.2.2.2.2
theorem XK.s2 {x s : ZMem} (h : XK x 1 s) : x 2 3 = s 0 2 := h.2.2.1.1
theorem XK.s4 {x s : ZMem} (h : XK x 1 s) : x 4 3 = s 0 3 := h.2.2.1.2.1
theorem XK.s6 {x s : ZMem} (h : XK x 1 s) : x 6 3 = s 0 4 := h.2.2.1.2.2.1
theorem XK.s8 {x s : ZMem} (h : XK x 1 s) : x 8 3 = 3 := h.2.2.1.2.2.2.1
theorem XK.s10 {x s : ZMem} (h : XK x 1 s) : x 10 3 = s 0 41 := h.2.2.1.2.2.2.2.1
theorem XK.s12 {x s : ZMem} (h : XK x 1 s) : x 12 3 = s 0 47 := h.2.2.1.2.2.2.2.2
theorem XK.pt {x s : ZMem} (h : XK x 1 s) (p : Nat) (hp : (p : Int) < s 0 2) : x 3 (p * 7 + 0) = s 1 p ∧ x 3 (p * 7 + 1) = s 2 p ∧ x 3 (p * 7 + 2) = s 3 p ∧ x 3 (p * 7 + 3) = s 4 p ∧ x 3 (p * 7 + 4) = s 5 p ∧ x 3 (p * 7 + 5) = s 21 p ∧ x 3 (p * 7 + 6) = s 22 p := h.2.2.2.1 p hp
section ZKIT
variable {n : Nat} {x s : ZMem} {p : Nat}
theorem X_p0 (h : XK x 1 s) (hp : (p : Int) < s 0 2) : F_X9_at n 2 (p : Int) 0 x = some (s 1 p, x) := by rw [← (h.pt p hp).1]; exact X_at (j := 0) h.t2 (by rw [h.s2]; exact hp) (by decide)
theorem X_p1 (h : XK x 1 s) (hp : (p : Int) < s 0 2) : F_X9_at n 2 (p : Int) 1 x = some (s 2 p, x) := by rw [← (h.pt p hp).2.1]; exact X_at (j := 1) h.t2 (by rw [h.s2]; exact hp) (by decide)
theorem X_p2 (h : XK x 1 s) (hp : (p : Int) < s 0 2) : F_X9_at n 2 (p : Int) 2 x = some (s 3 p, x) := by rw [← (h.pt p hp).2.2.1]; exact X_at (j := 2) h.t2 (by rw [h.s2]; exact hp) (by decide)
theorem X_p3 (h : XK x 1 s) (hp : (p : Int) < s 0 2) : F_X9_at n 2 (p : Int) 3 x = some (s 4 p, x) := by rw [← (h.pt p hp).2.2.2.1]; exact X_at (j := 3) h.t2 (by rw [h.s2]; exact hp) (by decide)
theorem X_p4 (h : XK x 1 s) (hp : (p : Int) < s 0 2) : F_X9_at n 2 (p : Int) 4 x = some (s 5 p, x) := by rw [← (h.pt p hp).2.2.2.2.1]; exact X_at (j := 4) h.t2 (by rw [h.s2]; exact hp) (by decide)
theorem X_p5 (h : XK x 1 s) (hp : (p : Int) < s 0 2) : F_X9_at n 2 (p : Int) 5 x = some (s 21 p, x) := by rw [← (h.pt p hp).2.2.2.2.2.1]; exact X_at (j := 5) h.t2 (by rw [h.s2]; exact hp) (by decide)
theorem X_p6 (h : XK x 1 s) (hp : (p : Int) < s 0 2) : F_X9_at n 2 (p : Int) 6 x = some (s 22 p, x) := by rw [← (h.pt p hp).2.2.2.2.2.2]; exact X_at (j := 6) h.t2 (by rw [h.s2]; exact hp) (by decide)
theorem X_nearest {a b : Int} (ha : 0 ≤ a ∧ a ≤ 500000000) (hb : 1 ≤ b ∧ b ≤ 500000000) : F_X8_nearest n a b x = some (nearS a b, x) := by
  have h1 := Int.emod_nonneg a (show b ≠ 0 by omega)
  have h2 := Int.emod_lt_of_pos a (show 0 < b by omega)
  have h3 := div_bd ha.1 (show 0 < b by omega)
  unfold F_X8_nearest
  rw [if_pos hb.1, nearS_nearest ha.1 (by omega)]
  refine E_chk (by omega) (E_chk (by omega) (E_chk (by omega) (E_ite (fun h => ?_) (fun h => E_chk (by omega) ?_))))
  · rw [if_neg (by omega)]
  · rw [if_pos (by omega)]
theorem upS_0 {b : Int} (h : 1 ≤ b) : upS 0 b = 0 := by unfold upS; exact Int.ediv_eq_zero_of_lt (by omega) (by omega)
theorem X_up {a b : Int} (ha : 0 ≤ a ∧ a ≤ 500000000) (hb : 1 ≤ b ∧ b ≤ 500000000) : F_X8_roundedUp n a b x = some (upS a b, x) := by
  unfold F_X8_roundedUp
  refine E_ite (fun h => ?_) (fun h => ?_)
  · rw [show a = 0 by omega, upS_0 hb.1]
  · rw [if_pos hb.1]
    exact E_chk (by omega) (E_chk (by omega) (E_chk (by omega) rfl))
theorem X_up0 {a b : Int} (ha : a ≤ 0) : F_X8_roundedUp n a b x = some (0, x) := by
  unfold F_X8_roundedUp
  rw [if_pos (by omega)]
theorem X_cut {a b : Int} (ha : 0 ≤ a) (hb : 1 ≤ b) : F_X8_cut n a b x = some (a / b, x) := by
  unfold F_X8_cut
  rw [if_pos hb]
  exact E_chk (by omega) rfl
theorem X_taken (h : XK x 1 s) (hw : WFs s) (hp : (p : Int) < s 0 2) {g b : Int} (hg : 0 ≤ s 4 p * g ∧ s 4 p * g ≤ 24000) (hb : 1 ≤ b ∧ b ≤ 24) : F_X3_taken n (p : Int) g b x = some (takS s p (s 4 p * g) b, x) := by
  obtain ⟨h1, h2, h3, h4, -⟩ := hw.pt p hp
  generalize ha : s 4 p * g = a at hg ⊢
  have bs := mul_bd1 hb.1 hb.2 h2.1 h2.2
  have bs2 := mul_bd1 h2.1 h2.2 hb.1 hb.2
  have n0 := nearS_bd (a := a) (b := b) (by omega) (by omega)
  have w1 := wholeS_bd (a := a) (b := b) (by omega) (by omega)
  have w2 := mul_bd (a := wholeS a b) (b := b) w1.1 w1.2 (by omega) hb.2
  have n2 := nearS_bd (a := 12 * a) (b := b * s 2 p) (by omega) (by omega)
  have n3 := mul_bd (a := s 2 p) (b := nearS (12 * a) (b * s 2 p)) (by omega) h2.2 n2.1 n2.2
  have u2 := upS_bd (a := a) (b := b * s 2 p) (by omega) (by omega)
  have u3 := mul_bd (a := 12 * s 2 p) (B := 24000) (A := 108) (b := upS a (b * s 2 p)) (by omega) (by omega) u2.1 (by omega)
  have ec : s 2 p * b = b * s 2 p := Int.mul_comm _ _
  have z := zabs_bd (a := wholeS a b * b - 12 * a) (B := 7500000) (by omega)
  unfold F_X3_taken takS
  refine E_bnd (X_p1 h hp) (E_bnd (X_p3 h hp) ?_)
  simp only [ha]
  refine E_chk (by omega) (E_bnd (X_nearest (by omega) (by omega)) (E_chk (by omega) (E_chk (by omega) (E_bnd (X_nearest (by omega) (by omega)) (E_bnd (X_p0 h hp) ?_)))))
  rw [← wholeS_max]
  refine E_ite (fun c1 => ?_) (fun c1 => ?_)
  · rw [if_neg (by omega), if_pos c1]
  rw [if_neg c1]
  refine E_ite (fun c2 => ?_) (fun c2 => ?_)
  · rw [if_neg (by omega), if_pos c2]
    rw [ec]
    exact E_chk (by omega) (E_chk (by omega) (E_bnd (X_nearest (by omega) (by omega)) (E_chk (by omega) rfl)))
  rw [if_neg c2]
  refine E_ite (fun c3 => ?_) (fun c3 => ?_)
  · rw [if_neg (by omega), if_pos c3]
    rw [ec]
    exact E_chk (by omega) (E_chk (by omega) (E_bnd (X_up (by omega) (by omega)) (E_chk (by omega) rfl)))
  rw [if_neg c3]
  refine E_ite (fun c4 => ?_) (fun c4 => ?_)
  · rw [if_neg (by omega), if_pos c4]
    exact E_bnd (X_p3 h hp) (E_chk (by omega) rfl)
  rw [if_neg c4]
  refine E_ite (fun c5 => ?_) (fun c5 => ?_)
  · refine E_chk (by omega) (E_chk (by omega) (E_chk (by omega) (E_chk (by omega) (E_chk (by omega) (E_ite (fun c6 => ?_) (fun c6 => ?_))))))
    · rw [if_neg (by omega), if_neg (by omega)]
    · rw [if_neg (by omega), if_pos (by omega)]
  · rw [if_pos (by omega)]
theorem ag_bd (hw : WFs s) (hp : (p : Int) < s 0 2) {g B : Int} (hg : 0 ≤ g ∧ g ≤ B) : 0 ≤ s 4 p * g ∧ s 4 p * g ≤ 99 * B := by
  obtain ⟨h1, h2, h3, h4, -⟩ := hw.pt p hp
  exact mul_bd (by omega) h4.2 hg.1 hg.2
theorem X_takenFor (h : XK x 1 s) (hw : WFs s) (hp : (p : Int) < s 0 2) {g : Int} (hg : 1 ≤ g ∧ g ≤ 24) : F_X3_takenFor n (p : Int) g x = some (takS s p (s 4 p * g) (s 0 0), x) := by
  have := ag_bd hw hp (g := g) (B := 24) (by omega)
  unfold F_X3_takenFor
  rw [h.fm]
  exact E_bnd (X_taken h hw hp (by omega) hw.f) rfl
theorem X_takenNow (h : XK x 1 s) (hw : WFs s) (hp : (p : Int) < s 0 2) : F_X3_takenNow n (p : Int) x = some (takS s p (s 4 p * s 0 1) (s 0 0), x) := by
  have hg := hw.g
  have := ag_bd hw hp (g := s 0 1) (B := 24) (by omega)
  unfold F_X3_takenNow
  rw [h.fm, h.gu]
  exact E_bnd (X_taken h hw hp (by omega) hw.f) rfl
/-- how far off, the cost aside -/
def offA (s : ZMem) (p : Nat) (a b : Int) : Int := zabs (takS s p a b * b - 12 * a)
theorem offA_bd (hw : WFs s) (hp : (p : Int) < s 0 2) {a b : Int} (ha : 0 ≤ a ∧ a ≤ 24000) (hb : 1 ≤ b ∧ b ≤ 24) : 0 ≤ offA s p a b ∧ offA s p a b ≤ 7000000 := by
  have t := takS_bd hw hp ha hb
  have w2 := mul_bd (a := takS s p a b) (b := b) t.1 t.2 (by omega) hb.2
  exact zabs_bd (B := 7000000) (by omega)
theorem X_offBy (h : XK x 1 s) (hw : WFs s) (hp : (p : Int) < s 0 2) {g b : Int} (hg : 0 ≤ s 4 p * g ∧ s 4 p * g ≤ 24000) (hb : 1 ≤ b ∧ b ≤ 24) : F_X3_offBy n (p : Int) g b x = some (offA s p (s 4 p * g) b, x) := by
  obtain ⟨h1, h2, h3, h4, -⟩ := hw.pt p hp
  have t := takS_bd hw hp hg hb
  have w2 := mul_bd (a := takS s p (s 4 p * g) b) (b := b) t.1 t.2 (by omega) hb.2
  have o := offA_bd hw hp hg hb
  unfold offA at o
  unfold F_X3_offBy offA
  refine E_bnd (X_p3 h hp) (E_chk (by omega) ?_)
  rw [Int.mul_assoc 12 (s 4 p) g]
  exact E_chk (by omega) (E_bnd (X_taken h hw hp hg hb) (E_chk (by omega) (E_chk (by omega) (E_chk (by omega) rfl))))
theorem X_offAtCost (h : XK x 1 s) (hw : WFs s) (hp : (p : Int) < s 0 2) {g b : Int} (hg : 0 ≤ s 4 p * g ∧ s 4 p * g ≤ 24000) (hb : 1 ≤ b ∧ b ≤ 24) : F_X3_offAtCost n (p : Int) g b x = some (offS s p (s 4 p * g) b, x) := by
  have o := offS_bd hw hp hg hb
  unfold offS at o
  unfold F_X3_offAtCost offS
  exact E_bnd (X_offBy h hw hp hg hb) (E_bnd (X_p2 h hp) (E_chk (by unfold offA; omega) rfl))
end ZKIT
/-- sums, maxima, 'all' over the parts -/
def sumS (f : Nat → Int) : Nat → Int
  | 0 => 0
  | k + 1 => sumS f k + f k
def maxS (f : Nat → Int) : Nat → Int
  | 0 => 0
  | k + 1 => max (maxS f k) (f k)
def allS (f : Nat → Bool) : Nat → Bool
  | 0 => true
  | k + 1 => allS f k && f k
theorem sumS_bd {f : Nat → Int} {B : Int} (hB : 0 ≤ B) : ∀ (k : Nat), (∀ i, i < k → 0 ≤ f i ∧ f i ≤ B) → 0 ≤ sumS f k ∧ sumS f k ≤ k * B
  | 0, _ => by simp [sumS]
  | k + 1, h => by
    have h1 := sumS_bd hB k (fun i hi => h i (by omega))
    have h2 := h k (by omega)
    have e : ((k + 1 : Nat) : Int) * B = (k : Int) * B + B := by rw [Int.natCast_add, Int.add_mul]; simp
    show 0 ≤ sumS f k + f k ∧ sumS f k + f k ≤ _
    omega
theorem maxS_bd {f : Nat → Int} {B : Int} (hB : 0 ≤ B) : ∀ (k : Nat), (∀ i, i < k → 0 ≤ f i ∧ f i ≤ B) → 0 ≤ maxS f k ∧ maxS f k ≤ B
  | 0, _ => by simp [maxS]; exact hB
  | k + 1, h => by
    have h1 := maxS_bd hB k (fun i hi => h i (by omega))
    have h2 := h k (by omega)
    show 0 ≤ max (maxS f k) (f k) ∧ max (maxS f k) (f k) ≤ _
    omega
theorem allS_lt {f : Nat → Bool} : ∀ {k : Nat}, allS f k = true → ∀ i, i < k → f i = true
  | 0, _, i, hi => by omega
  | k + 1, h, i, hi => by
    have h1 : allS f k = true ∧ f k = true := by simpa [allS] using h
    by_cases e : i = k
    · rw [e]; exact h1.2
    · exact allS_lt h1.1 i (by omega)
theorem allS_no {f : Nat → Bool} {k i : Nat} (hi : i < k) (h : f i = false) : allS f k = false := by
  cases ha : allS f k with
  | false => rfl
  | true => rw [allS_lt ha i hi] at h; cases h
def b01 (b : Bool) : Int := if b then 1 else 0
theorem b01_t : b01 true = 1 := rfl
theorem b01_f : b01 false = 0 := rfl
