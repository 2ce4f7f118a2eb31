theorem zM1 : zlen LM 1 = 8 := rfl
theorem zM2 : zlen LM 2 = 8 := rfl
theorem zM3 : zlen LM 3 = 8 := rfl
theorem zM4 : zlen LM 4 = 8 := rfl
theorem zM5 : zlen LM 5 = 8 := rfl
theorem zM6 : zlen LM 6 = 5 := rfl
theorem zM7 : zlen LM 7 = 5 := rfl
theorem zM8 : zlen LM 8 = 30 := rfl
theorem zM9 : zlen LM 9 = 3 := rfl
theorem zM10 : zlen LM 10 = 7 := rfl
theorem zM11 : zlen LM 11 = 96 := rfl
theorem zM12 : zlen LM 12 = 49 := rfl
theorem zM13 : zlen LM 13 = 49 := rfl
theorem zM14 : zlen LM 14 = 245 := rfl
theorem zM15 : zlen LM 15 = 136 := rfl
theorem zM16 : zlen LM 16 = 136 := rfl
theorem zM17 : zlen LM 17 = 8 := rfl
theorem zM18 : zlen LM 18 = 100 := rfl
theorem zM19 : zlen LM 19 = 2197 := rfl
theorem zM20 : zlen LM 20 = 2197 := rfl
theorem zM21 : zlen LM 21 = 8 := rfl
theorem zM22 : zlen LM 22 = 8 := rfl
theorem zM23 : zlen LM 23 = 5 := rfl
theorem zM24 : zlenZ LM 24 = 201 := rfl
theorem zM25 : zlen LM 25 = 3 := rfl
theorem zM26 : zlen LM 26 = 2197 := rfl
theorem zM27 : zlen LM 27 = 2197 := rfl
theorem zM28 : zlen LM 28 = 20 := rfl
theorem zM29 : zlen LM 29 = 8 := rfl
theorem zX3 : zlen LX 3 = 56 := rfl
theorem zX5 : zlen LX 5 = 10 := rfl
theorem zX7 : zlen LX 7 = 30 := rfl
theorem zX9 : zlen LX 9 = 3 := rfl
theorem zX11 : zlen LX 11 = 5 := rfl
theorem zX13 : zlen LX 13 = 20 := rfl
theorem zX16 : zlen LX 16 = 56 := rfl
theorem zX18 : zlen LX 18 = 10 := rfl
theorem zX20 : zlen LX 20 = 30 := rfl
theorem zX22 : zlen LX 22 = 3 := rfl
theorem zX24 : zlen LX 24 = 5 := rfl
theorem zX26 : zlen LX 26 = 20 := rfl
theorem zX29 : zlen LX 29 = 56 := rfl
theorem zX31 : zlen LX 31 = 10 := rfl
theorem zX33 : zlen LX 33 = 30 := rfl
theorem zX35 : zlen LX 35 = 3 := rfl
theorem zX37 : zlen LX 37 = 5 := rfl
theorem zX39 : zlen LX 39 = 20 := rfl
theorem zX42 : zlen LX 42 = 96 := rfl
theorem zX44 : zlen LX 44 = 5 := rfl
theorem zX46 : zlen LX 46 = 8 := rfl
theorem zX48 : zlen LX 48 = 8 := rfl
theorem zX50 : zlen LX 50 = 7 := rfl
theorem zX53 : zlen LX 53 = 100 := rfl
theorem zX56 : zlen LX 56 = 2197 := rfl
theorem zX58 : zlen LX 58 = 4394 := rfl
theorem zX61 : zlen LX 61 = 201 := rfl
theorem zX64 : zlen LX 64 = 3 := rfl
theorem lcI_lt0 (x y : Int) : lcI x y < 0 ↔ x < y := by unfold lcI; split <;> (try split) <;> omega
theorem lcI_gt0 (x y : Int) : 0 < lcI x y ↔ y < x := by unfold lcI; split <;> (try split) <;> omega
theorem lcI_ge0 (x y : Int) : 0 ≤ lcI x y ↔ y ≤ x := by unfold lcI; split <;> (try split) <;> omega
theorem lcI_le0 (x y : Int) : lcI x y ≤ 0 ↔ x ≤ y := by unfold lcI; split <;> (try split) <;> omega
theorem lcI_eq0 (x y : Int) : lcI x y = 0 ↔ x = y := by unfold lcI; split <;> (try split) <;> omega
theorem M_in (n : Nat) (a b c : Int) (m : ZMem) : F_X12_in n a b c m = some (if b ≤ a ∧ a ≤ c then 1 else 0, m) := by
  unfold F_X12_in
  simp only [lcI_lt0, lcI_gt0]
  refine E_ite (fun h => ?_) (fun h => E_ite (fun h2 => ?_) (fun h2 => ?_))
  · rw [if_neg (by omega)]
  · rw [if_neg (by omega)]
  · rw [if_pos (by omega)]
theorem M_isPart {n : Nat} {a : Int} {m : ZMem} (h : 0 ≤ m 0 2 ∧ m 0 2 ≤ 8) : F_X12_isPart n a m = some (if 0 ≤ a ∧ a < m 0 2 then 1 else 0, m) := by
  unfold F_X12_isPart
  refine E_chk (by omega) (E_bnd (M_in _ _ _ _ _) (E_some ?_ rfl))
  by_cases hc : 0 ≤ a ∧ a < m 0 2
  · rw [if_pos hc, if_pos (by omega)]
  · rw [if_neg hc, if_neg (by omega)]
theorem M_isTin {n : Nat} {a : Int} {m : ZMem} (h : 0 ≤ m 0 3 ∧ m 0 3 ≤ 5) : F_X12_isTin n a m = some (if 0 ≤ a ∧ a < m 0 3 then 1 else 0, m) := by
  unfold F_X12_isTin
  refine E_chk (by omega) (E_bnd (M_in _ _ _ _ _) (E_some ?_ rfl))
  by_cases hc : 0 ≤ a ∧ a < m 0 3
  · rw [if_pos hc, if_pos (by omega)]
  · rw [if_neg hc, if_neg (by omega)]
theorem M_wrong (n : Nat) (a b c : Int) (m : ZMem) : F_X12_wrongNumber n a b c m = some (if a < b then -4 else if c < a then -6 else 0, m) := by
  unfold F_X12_wrongNumber
  refine E_ite (fun h => E_ite (fun h2 => ?_) (fun h2 => ?_)) (fun h => ?_)
  · rw [if_neg (by omega), if_neg (by omega)]
  · rw [if_neg (by omega), if_pos (by omega)]
  · rw [if_pos (by omega)]
theorem M_refuse {n : Nat} {a : Int} {m : ZMem} (k : Nat) (ha : a = -(k : Int)) (hk : k < 7) (hb : 0 ≤ m 10 k ∧ m 10 k ≤ 100000) : F_X12_refuse n a m = some (a, wr m 10 k (m 10 k + 1)) := by
  have e : (-a).toNat = k := by omega
  unfold F_X12_refuse
  simp only [zM10, e]
  exact E_chk (by omega) (E_chk (by omega) (E_chk (by omega) (E_chk (by omega) rfl)))
theorem M_nearest {n : Nat} {a b : Int} {m : ZMem} (ha : 0 ≤ a ∧ a ≤ 500000000) (hb : 1 ≤ b ∧ b ≤ 500000000) : F_X12_nearest n a b m = some (nearS a b, m) := by
  unfold F_X12_nearest
  exact E_chk (by omega) (E_chk (by omega) (E_chk (by omega) (E_chk (by omega) (E_chk (by omega) rfl))))
theorem M_up {n : Nat} {a b : Int} {m : ZMem} (ha : 0 ≤ a ∧ a ≤ 500000000) (hb : 1 ≤ b ∧ b ≤ 500000000) : F_X12_up n a b m = some (upS a b, m) := by
  unfold F_X12_up
  exact E_chk (by omega) (E_chk (by omega) (E_chk (by omega) rfl))
theorem M_plainly {n : Nat} {a : Int} {m : ZMem} (h : -2000000000 ≤ a ∧ a ≤ 2000000000) : F_X12_plainly n a m = some (zabs a, m) := by
  unfold F_X12_plainly zabs
  refine E_ite (fun h => ?_) (fun h => E_chk (by omega) ?_)
  · rw [if_pos h]
  · rw [if_neg h]
theorem M_wholeOf {n : Nat} {a b : Int} {m : ZMem} (ha : 0 ≤ a ∧ a ≤ 24000) (hb : 1 ≤ b ∧ b ≤ 24) : F_X12_wholeOf n a b m = some (wholeS a b, m) := by
  have h := nearS_bd (a := a) (b := b) (by omega) (by omega)
  unfold F_X12_wholeOf wholeS
  refine E_bnd (M_nearest (by omega) (by omega)) (E_ite (fun h1 => E_chk (by omega) ?_) (fun h1 => ?_))
  · rw [if_pos h1]
  · rw [if_neg h1]
theorem zabs_bd {a B : Int} (h : -B ≤ a ∧ a ≤ B) : 0 ≤ zabs a ∧ zabs a ≤ B := by unfold zabs; split <;> omega
theorem M_takenBy {n : Nat} {m : ZMem} (h : WFs m) {p : Nat} (hp : (p : Int) < m 0 2) {a b : Int} (ha : 0 ≤ a ∧ a ≤ 24000) (hb : 1 ≤ b ∧ b ≤ 24) : F_X12_takenBy n (p : Int) a b m = some (takS m p a b, m) := by
  obtain ⟨h1, h2, h3, h4, -⟩ := h.pt p hp
  have hnp := h.np
  have bs := mul_bd1 hb.1 hb.2 h2.1 h2.2
  have bs2 := mul_bd1 h2.1 h2.2 hb.1 hb.2
  have w1 := wholeS_bd (a := a) (b := b) (by omega) (by omega)
  have w2 := mul_bd (a := wholeS a b) (b := b) w1.1 w1.2 (by omega) hb.2
  have n2 := nearS_bd (a := 12 * a) (b := b * m 2 p) (by omega) (by omega)
  have n3 := mul_bd (a := m 2 p) (b := nearS (12 * a) (b * m 2 p)) (by omega) h2.2 n2.1 n2.2
  have u2 := upS_bd (a := a) (b := b * m 2 p) (by omega) (by omega)
  have u3 := mul_bd (a := 12 * m 2 p) (B := 24000) (A := 108) (b := upS a (b * m 2 p)) (by omega) (by omega) u2.1 (by omega)
  unfold F_X12_takenBy takS
  simp only [zM1, zM2, zM4, Int.toNat_natCast]
  refine E_chk (by omega) (E_chk (by omega) ?_)
  refine E_ite (fun c0 => ?_) (fun c0 => ?_)
  · rw [if_pos c0]
    exact E_chk (by omega) (E_bnd (M_nearest (by omega) (by omega)) rfl)
  rw [if_neg c0]
  refine E_ite (fun c1 => ?_) (fun c1 => ?_)
  · rw [if_pos c1]
    exact E_bnd (M_wholeOf (by omega) (by omega)) rfl
  rw [if_neg c1]
  refine E_ite (fun c2 => ?_) (fun c2 => ?_)
  · rw [if_pos c2]
    exact E_chk (by omega) (E_chk (by omega) (E_bnd (M_nearest (by omega) (by omega)) (E_chk (by omega) rfl)))
  rw [if_neg c2]
  refine E_ite (fun c3 => ?_) (fun c3 => ?_)
  · rw [if_pos c3]
    exact E_chk (by omega) (E_chk (by omega) (E_bnd (M_up (by omega) (by omega)) (E_chk (by omega) rfl)))
  rw [if_neg c3]
  refine E_ite (fun c4 => ?_) (fun c4 => ?_)
  · rw [if_pos c4]
    exact E_chk (by omega) (E_chk (by omega) rfl)
  rw [if_neg c4]
  refine E_bnd (M_wholeOf (by omega) (by omega)) (E_chk (by omega) (E_chk (by omega) (E_chk (by omega) (E_bnd (M_plainly (by omega)) (E_chk (by omega) ?_)))))
  refine E_ite (fun c5 => ?_) (fun c5 => ?_)
  · rw [if_neg (by omega)]
    exact E_chk (by omega) (E_bnd (M_nearest (by omega) (by omega)) rfl)
  · rw [if_pos (by omega)]
theorem M_takenFor {n : Nat} {m : ZMem} (h : WFs m) {p : Nat} (hp : (p : Int) < m 0 2) {g : Int} (hg : 1 ≤ g ∧ g ≤ 24) : F_X12_takenFor n (p : Int) g m = some (takS m p (m 4 p * g) (m 0 0), m) := by
  obtain ⟨h1, h2, h3, h4, -⟩ := h.pt p hp
  have hnp := h.np
  have hf := h.f
  have ag := mul_bd1 h4.1 h4.2 hg.1 hg.2
  unfold F_X12_takenFor
  simp only [zM4, Int.toNat_natCast]
  exact E_chk (by omega) (E_chk (by omega) (E_bnd (M_takenBy h hp (by omega) hf) rfl))
/-- how far off a part is, its share being a by b: in twelfths by b, at its cost -/
def offS (s : ZMem) (p : Nat) (a b : Int) : Int := zabs (takS s p a b * b - 12 * a) * s 3 p
theorem offS_bd {s : ZMem} (h : WFs s) {p : Nat} (hp : (p : Int) < s 0 2) {a b : Int} (ha : 0 ≤ a ∧ a ≤ 24000) (hb : 1 ≤ b ∧ b ≤ 24) : 0 ≤ offS s p a b ∧ offS s p a b ≤ 63000000 := by
  obtain ⟨h1, h2, h3, h4, -⟩ := h.pt p hp
  have t := takS_bd h hp ha hb
  have w2 := mul_bd (a := takS s p a b) (b := b) t.1 t.2 (by omega) hb.2
  have z := zabs_bd (a := takS s p a b * b - 12 * a) (B := 6960000) (by omega)
  have := mul_bd z.1 z.2 h3.1 h3.2
  unfold offS
  omega
theorem M_offBy {n : Nat} {m : ZMem} (h : WFs m) {p : Nat} (hp : (p : Int) < m 0 2) {a b : Int} (ha : 0 ≤ a ∧ a ≤ 24000) (hb : 1 ≤ b ∧ b ≤ 24) : F_X12_offBy n (p : Int) a b m = some (offS m p a b, m) := by
  obtain ⟨h1, h2, h3, h4, -⟩ := h.pt p hp
  have hnp := h.np
  have t := takS_bd h hp ha hb
  have w2 := mul_bd (a := takS m p a b) (b := b) t.1 t.2 (by omega) hb.2
  have o := offS_bd h hp ha hb
  unfold offS at o
  unfold F_X12_offBy offS
  simp only [zM3, Int.toNat_natCast]
  exact E_bnd (M_takenBy h hp ha hb) (E_chk (by omega) (E_chk (by omega) (E_chk (by omega) (E_bnd (M_plainly (by omega)) (E_chk (by omega) (E_chk (by omega) rfl))))))
