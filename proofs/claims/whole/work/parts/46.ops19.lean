/-! OPERATIONS 19: image, restore -/
/-- the place of a cell in the image, 1000 for none -/
def pos : Nat → Nat → Nat := fun i j =>
  if i = 0 then (if j ≤ 6 then j else if j = 41 then 63 else if j = 47 then 64 else 1000)
  else if i ≤ 5 then (if j < 8 then 6 + i + 7 * j else 1000)
  else if i = 21 then (if j < 8 then 12 + 7 * j else 1000)
  else if i = 22 then (if j < 8 then 13 + 7 * j else 1000)
  else if i = 23 then (if j < 5 then 65 + j else 1000)
  else if i = 28 then (if j < 20 then 70 + j else 1000)
  else if i = 6 then (if j < 5 then 90 + 2 * j else 1000)
  else if i = 7 then (if j < 5 then 91 + 2 * j else 1000)
  else if i = 8 then (if j < 30 then 100 + j else 1000)
  else if i = 9 then (if j < 3 then 130 + j else 1000) else 1000
theorem pos_cases {i j : Nat} (h : pos i j < 1000) : (i = 0 ∧ j ≤ 6 ∧ pos i j = j) ∨ (i = 0 ∧ j = 41 ∧ pos i j = 63) ∨ (i = 0 ∧ j = 47 ∧ pos i j = 64) ∨ (1 ≤ i ∧ i ≤ 5 ∧ j < 8 ∧ pos i j = 6 + i + 7 * j) ∨ (i = 21 ∧ j < 8 ∧ pos i j = 12 + 7 * j) ∨ (i = 22 ∧ j < 8 ∧ pos i j = 13 + 7 * j) ∨ (i = 23 ∧ j < 5 ∧ pos i j = 65 + j) ∨ (i = 28 ∧ j < 20 ∧ pos i j = 70 + j) ∨ (i = 6 ∧ j < 5 ∧ pos i j = 90 + 2 * j) ∨ (i = 7 ∧ j < 5 ∧ pos i j = 91 + 2 * j) ∨ (i = 8 ∧ j < 30 ∧ pos i j = 100 + j) ∨ (i = 9 ∧ j < 3 ∧ pos i j = 130 + j) := by
  by_cases h0 : i = 0
  · subst h0
    by_cases a : j ≤ 6
    · exact Or.inl ⟨rfl, a, by unfold pos; rw [if_pos rfl, if_pos a]⟩
    refine Or.inr ?_
    by_cases b : j = 41
    · exact Or.inl ⟨rfl, b, by subst b; rfl⟩
    refine Or.inr ?_
    by_cases c : j = 47
    · exact Or.inl ⟨rfl, c, by subst c; rfl⟩
    exfalso
    unfold pos at h
    rw [if_pos rfl, if_neg a, if_neg b, if_neg c] at h
    omega
  refine Or.inr (Or.inr (Or.inr ?_))
  unfold pos at h ⊢
  rw [if_neg h0] at h ⊢
  by_cases h1 : i ≤ 5
  · rw [if_pos h1] at h ⊢
    refine Or.inl ?_
    by_cases a : j < 8
    · exact ⟨by omega, h1, a, if_pos a⟩
    · rw [if_neg a] at h
      omega
  refine Or.inr ?_
  rw [if_neg h1] at h ⊢
  by_cases h21 : i = 21
  · rw [if_pos h21] at h ⊢
    refine Or.inl ?_
    by_cases a : j < 8
    · exact ⟨h21, a, if_pos a⟩
    · rw [if_neg a] at h
      omega
  rw [if_neg h21] at h ⊢
  refine Or.inr ?_
  by_cases h22 : i = 22
  · rw [if_pos h22] at h ⊢
    refine Or.inl ?_
    by_cases a : j < 8
    · exact ⟨h22, a, if_pos a⟩
    · rw [if_neg a] at h
      omega
  rw [if_neg h22] at h ⊢
  refine Or.inr ?_
  by_cases h23 : i = 23
  · rw [if_pos h23] at h ⊢
    refine Or.inl ?_
    by_cases a : j < 5
    · exact ⟨h23, a, if_pos a⟩
    · rw [if_neg a] at h
      omega
  rw [if_neg h23] at h ⊢
  refine Or.inr ?_
  by_cases h28 : i = 28
  · rw [if_pos h28] at h ⊢
    refine Or.inl ?_
    by_cases a : j < 20
    · exact ⟨h28, a, if_pos a⟩
    · rw [if_neg a] at h
      omega
  rw [if_neg h28] at h ⊢
  refine Or.inr ?_
  by_cases h6 : i = 6
  · rw [if_pos h6] at h ⊢
    refine Or.inl ?_
    by_cases a : j < 5
    · exact ⟨h6, a, if_pos a⟩
    · rw [if_neg a] at h
      omega
  rw [if_neg h6] at h ⊢
  refine Or.inr ?_
  by_cases h7 : i = 7
  · rw [if_pos h7] at h ⊢
    refine Or.inl ?_
    by_cases a : j < 5
    · exact ⟨h7, a, if_pos a⟩
    · rw [if_neg a] at h
      omega
  rw [if_neg h7] at h ⊢
  refine Or.inr ?_
  by_cases h8 : i = 8
  · rw [if_pos h8] at h ⊢
    refine Or.inl ?_
    by_cases a : j < 30
    · exact ⟨h8, a, if_pos a⟩
    · rw [if_neg a] at h
      omega
  rw [if_neg h8] at h ⊢
  refine Or.inr ?_
  by_cases h9 : i = 9
  · rw [if_pos h9] at h ⊢
    by_cases a : j < 3
    · exact ⟨h9, a, if_pos a⟩
    · rw [if_neg a] at h
      omega
  rw [if_neg h9] at h
  omega
theorem pos_inj {i j r c : Nat} (h : pos i j = pos r c) (hl : pos r c < 1000) : i = r ∧ j = c := by
  have h1 := pos_cases (i := i) (j := j) (by omega)
  have h2 := pos_cases hl
  rcases h1 with a | a | a | a | a | a | a | a | a | a | a | a <;> rcases h2 with b | b | b | b | b | b | b | b | b | b | b | b <;> omega
def CC (md : Int) (m : ZMem) (K : Nat) (y : ZMem) : Prop :=
  (y 0 29 = (K : Int) ∧ y 0 30 = md ∧ y 0 31 = 16) ∧
  ((md = 1 ∧ (∀ i j, pos i j < K → y 16 (pos i j) = m i j) ∧ (∀ i j, i ≠ 16 → ¬ (i = 0 ∧ 29 ≤ j ∧ j ≤ 31) → y i j = m i j)) ∨
   (md = 0 ∧ (∀ i j, pos i j < K → y i j = m 16 (pos i j)) ∧ (∀ i j, K ≤ pos i j → ¬ (i = 0 ∧ 29 ≤ j ∧ j ≤ 31) → y i j = m i j)))
section ZOP19
variable {x s m y : ZMem} {c n : Nat} {md : Int}
theorem pos29 {j : Nat} (h : 29 ≤ j ∧ j ≤ 31) : pos 0 j = 1000 := by
  unfold pos
  rw [if_pos rfl, if_neg (by omega), if_neg (by omega), if_neg (by omega)]
theorem pos16 (j : Nat) : pos 16 j = 1000 := rfl
theorem cc_step {K r k : Nat} (h : CC md m K y) (hp : pos r k = K) (hK : K < 136) : ∃ v y1, F_X12_carry n (y r k) y = some (v, y1) ∧ CC md m (K + 1) (wr y1 r k v) := by
  obtain ⟨⟨h1, h2, h3⟩, h4⟩ := h
  have hr16 : r ≠ 16 := by rintro rfl; rw [pos16] at hp; omega
  have hr0 : ¬ (r = 0 ∧ 29 ≤ k ∧ k ≤ 31) := by rintro ⟨rfl, e⟩; rw [pos29 e] at hp; omega
  have z16 : zlen LM 16 = 136 := rfl
  rcases h4 with ⟨hm, g1, g2⟩ | ⟨hm, g1, g2⟩
  · have ev : y r k = m r k := g2 r k hr16 hr0
    refine ⟨y r k, wr (wr y 16 K (y r k)) 0 29 ((K : Int) + 1), ?_, ⟨?_, ?_, ?_⟩, Or.inl ⟨hm, ?_, ?_⟩⟩
    · unfold F_X12_carry
      rw [h2, hm, if_neg (by decide), h3, h1, show (16 : Int).toNat = 16 from rfl, Int.toNat_natCast]
      simp (disch := decide) only [wr_nr, wr_nk, wr_eq, h1, h3, show (16 : Int).toNat = 16 from rfl, z16]
      rw [show ((K : Int) + 1 - 1).toNat = K by omega, wr_eq]
      exact E_chk (by decide) (E_chk (by omega) (E_chk (by omega) (E_chk (by decide) (E_chk (by omega) (E_chk (by omega) rfl)))))
    · rw [wr_ne (by omega), wr_eq]
      omega
    · rw [wr_ne (by omega), wr_nk (by decide), wr_nr (by decide)]
      exact h2
    · rw [wr_ne (by omega), wr_nk (by decide), wr_nr (by decide)]
      exact h3
    · intro i j hij
      rw [wr_ne (by omega), wr_nr (by decide)]
      by_cases e : pos i j = K
      · obtain ⟨rfl, rfl⟩ := pos_inj (i := i) (j := j) (r := r) (c := k) (by omega) (by omega)
        rw [e, wr_eq]
        exact ev
      · rw [wr_nk (by omega)]
        exact g1 i j (by omega)
    · intro i j hi hj
      by_cases e : i = r ∧ j = k
      · rw [e.1, e.2, wr_eq]
        exact ev
      · rw [wr_ne (by omega), wr_ne (by omega), wr_nr hi]
        exact g2 i j hi hj
  · refine ⟨y 16 K, wr y 0 29 ((K : Int) + 1), ?_, ⟨?_, ?_, ?_⟩, Or.inr ⟨hm, ?_, ?_⟩⟩
    · unfold F_X12_carry
      rw [h2, hm, if_pos rfl]
      simp (disch := decide) only [wr_nr, wr_nk, wr_eq, h1, h3, show (16 : Int).toNat = 16 from rfl, z16]
      rw [show ((K : Int) + 1 - 1).toNat = K by omega]
      exact E_chk (by omega) (E_chk (by decide) (E_chk (by omega) (E_chk (by omega) rfl)))
    · rw [wr_ne (by omega), wr_eq]
      omega
    · rw [wr_ne (by omega), wr_nk (by decide)]
      exact h2
    · rw [wr_ne (by omega), wr_nk (by decide)]
      exact h3
    · intro i j hij
      have e16 : y 16 K = m 16 K := g2 16 K (by rw [pos16]; omega) (by omega)
      by_cases e : pos i j = K
      · obtain ⟨rfl, rfl⟩ := pos_inj (i := i) (j := j) (r := r) (c := k) (by omega) (by omega)
        rw [e, wr_eq]
        exact e16
      · have e0 : ¬ (i = 0 ∧ j = 29) := by rintro ⟨rfl, rfl⟩; rw [pos29 (by decide)] at hij; omega
        have e1 : ¬ (i = r ∧ j = k) := by rintro ⟨rfl, rfl⟩; exact e hp
        rw [wr_ne (by omega), wr_ne (by omega)]
        exact g1 i j (by omega)
    · intro i j hi hj
      have e1 : ¬ (i = r ∧ j = k) := by rintro ⟨rfl, rfl⟩; omega
      rw [wr_ne (by omega), wr_ne (by omega)]
      exact g2 i j (by omega) hj
def RS (md : Int) (m : ZMem) (o : ZR) : Prop := ∃ y, o = some (0, y) ∧ CC md m 133 y
theorem RS_bnd {o : ZR} {f : Int → ZMem → ZR} {v : Int} {y1 : ZMem} (h : o = some (v, y1)) (k : RS md m (f v y1)) : RS md m (bnd o f) := by rw [h]; exact k
theorem RS_chk {P : Prop} [Decidable P] {o : ZR} (h : P) (k : RS md m o) : RS md m (chk P o) := by rw [chk_pos h]; exact k
theorem cc_eq {K K' : Nat} (h : CC md m K y) (e : K = K') : CC md m K' y := e ▸ h
theorem pos_p {i j : Nat} (h1 : 1 ≤ i) (h2 : i ≤ 5) (hj : j < 8) : pos i j = 6 + i + 7 * j := by
  unfold pos
  rw [if_neg (by omega), if_pos h2, if_pos hj]
theorem pos_21 {j : Nat} (hj : j < 8) : pos 21 j = 12 + 7 * j := if_pos hj
theorem pos_22 {j : Nat} (hj : j < 8) : pos 22 j = 13 + 7 * j := if_pos hj
theorem pos_23 {j : Nat} (hj : j < 5) : pos 23 j = 65 + j := if_pos hj
theorem pos_28 {j : Nat} (hj : j < 20) : pos 28 j = 70 + j := if_pos hj
theorem pos_6 {j : Nat} (hj : j < 5) : pos 6 j = 90 + 2 * j := if_pos hj
theorem pos_7 {j : Nat} (hj : j < 5) : pos 7 j = 91 + 2 * j := if_pos hj
theorem pos_8 {j : Nat} (hj : j < 30) : pos 8 j = 100 + j := if_pos hj
theorem pos_9 {j : Nat} (hj : j < 3) : pos 9 j = 130 + j := if_pos hj
theorem ca_9 : ∀ (d p q : Nat) (y : ZMem), p + d = 3 → CC md m (130 + p) y → d < q → RS md m (L_X12_carryAll_385 n 16 q (p : Int) y) := by
  intro d
  induction d with
  | zero =>
    intro p q y h1 h2 hq
    obtain ⟨q, rfl⟩ : ∃ z, q = z + 1 := ⟨q - 1, by omega⟩
    show RS md m (B_X12_carryAll_385 n 16 (L_X12_carryAll_385 n 16 q) (p : Int) y)
    unfold B_X12_carryAll_385
    rw [if_pos (by omega)]
    exact ⟨y, rfl, cc_eq h2 (by omega)⟩
  | succ d ih =>
    intro p q y h1 h2 hq
    obtain ⟨q, rfl⟩ : ∃ z, q = z + 1 := ⟨q - 1, by omega⟩
    show RS md m (B_X12_carryAll_385 n 16 (L_X12_carryAll_385 n 16 q) (p : Int) y)
    unfold B_X12_carryAll_385
    simp only [zM1, zM2, zM3, zM4, zM5, zM6, zM7, zM8, zM9, zM10, zM11, zM12, zM13, zM14, zM15, zM16, zM17, zM18, zM19, zM20, zM21, zM22, zM23, zM24, zM25, zM26, zM27, zM28, zM29, Int.toNat_natCast]
    rw [if_neg (by omega)]
    obtain ⟨v, y1, e, g⟩ := cc_step (n := n) h2 (pos_9 (j := p) (by omega)) (by omega)
    refine RS_chk (by omega) (RS_bnd e (RS_chk (by omega) (RS_chk (by omega) ?_)))
    rw [cast1]
    exact ih (p + 1) q _ (by omega) (cc_eq g (by omega)) (by omega)
theorem ca_8 (hn : 10000 ≤ n) : ∀ (d p q : Nat) (y : ZMem), p + d = 30 → CC md m (100 + p) y → d < q → RS md m (L_X12_carryAll_355 n 16 q (p : Int) y) := by
  intro d
  induction d with
  | zero =>
    intro p q y h1 h2 hq
    obtain ⟨q, rfl⟩ : ∃ z, q = z + 1 := ⟨q - 1, by omega⟩
    show RS md m (B_X12_carryAll_355 n 16 (L_X12_carryAll_355 n 16 q) (p : Int) y)
    unfold B_X12_carryAll_355
    rw [if_pos (by omega)]
    exact ca_9 3 0 n y (by decide) (cc_eq h2 (by omega)) (by omega)
  | succ d ih =>
    intro p q y h1 h2 hq
    obtain ⟨q, rfl⟩ : ∃ z, q = z + 1 := ⟨q - 1, by omega⟩
    show RS md m (B_X12_carryAll_355 n 16 (L_X12_carryAll_355 n 16 q) (p : Int) y)
    unfold B_X12_carryAll_355
    simp only [zM1, zM2, zM3, zM4, zM5, zM6, zM7, zM8, zM9, zM10, zM11, zM12, zM13, zM14, zM15, zM16, zM17, zM18, zM19, zM20, zM21, zM22, zM23, zM24, zM25, zM26, zM27, zM28, zM29, Int.toNat_natCast]
    rw [if_neg (by omega)]
    obtain ⟨v, y1, e, g⟩ := cc_step (n := n) h2 (pos_8 (j := p) (by omega)) (by omega)
    refine RS_chk (by omega) (RS_bnd e (RS_chk (by omega) (RS_chk (by omega) ?_)))
    rw [cast1]
    exact ih (p + 1) q _ (by omega) (cc_eq g (by omega)) (by omega)
theorem ca_6 (hn : 10000 ≤ n) : ∀ (d p q : Nat) (y : ZMem), p + d = 5 → CC md m (90 + 2 * p) y → d < q → RS md m (L_X12_carryAll_310 n 16 q (p : Int) y) := by
  intro d
  induction d with
  | zero =>
    intro p q y h1 h2 hq
    obtain ⟨q, rfl⟩ : ∃ z, q = z + 1 := ⟨q - 1, by omega⟩
    show RS md m (B_X12_carryAll_310 n 16 (L_X12_carryAll_310 n 16 q) (p : Int) y)
    unfold B_X12_carryAll_310
    rw [if_pos (by omega)]
    exact ca_8 hn 30 0 n y (by decide) (cc_eq h2 (by omega)) (by omega)
  | succ d ih =>
    intro p q y h1 h2 hq
    obtain ⟨q, rfl⟩ : ∃ z, q = z + 1 := ⟨q - 1, by omega⟩
    show RS md m (B_X12_carryAll_310 n 16 (L_X12_carryAll_310 n 16 q) (p : Int) y)
    unfold B_X12_carryAll_310
    simp only [zM1, zM2, zM3, zM4, zM5, zM6, zM7, zM8, zM9, zM10, zM11, zM12, zM13, zM14, zM15, zM16, zM17, zM18, zM19, zM20, zM21, zM22, zM23, zM24, zM25, zM26, zM27, zM28, zM29, Int.toNat_natCast]
    rw [if_neg (by omega)]
    obtain ⟨v, y1, e, g⟩ := cc_step (n := n) h2 (pos_6 (j := p) (by omega)) (by omega)
    obtain ⟨v2, y2, e2, g2⟩ := cc_step (n := n) g ((pos_7 (j := p) (by omega)).trans (by omega)) (by omega)
    refine RS_chk (by omega) (RS_bnd e (RS_chk (by omega) (RS_chk (by omega) (RS_bnd e2 (RS_chk (by omega) (RS_chk (by omega) ?_))))))
    rw [cast1]
    exact ih (p + 1) q _ (by omega) (cc_eq g2 (by omega)) (by omega)
theorem ca_28 (hn : 10000 ≤ n) : ∀ (d p q : Nat) (y : ZMem), p + d = 20 → CC md m (70 + p) y → d < q → RS md m (L_X12_carryAll_280 n 16 q (p : Int) y) := by
  intro d
  induction d with
  | zero =>
    intro p q y h1 h2 hq
    obtain ⟨q, rfl⟩ : ∃ z, q = z + 1 := ⟨q - 1, by omega⟩
    show RS md m (B_X12_carryAll_280 n 16 (L_X12_carryAll_280 n 16 q) (p : Int) y)
    unfold B_X12_carryAll_280
    rw [if_pos (by omega)]
    exact ca_6 hn 5 0 n y (by decide) (cc_eq h2 (by omega)) (by omega)
  | succ d ih =>
    intro p q y h1 h2 hq
    obtain ⟨q, rfl⟩ : ∃ z, q = z + 1 := ⟨q - 1, by omega⟩
    show RS md m (B_X12_carryAll_280 n 16 (L_X12_carryAll_280 n 16 q) (p : Int) y)
    unfold B_X12_carryAll_280
    simp only [zM1, zM2, zM3, zM4, zM5, zM6, zM7, zM8, zM9, zM10, zM11, zM12, zM13, zM14, zM15, zM16, zM17, zM18, zM19, zM20, zM21, zM22, zM23, zM24, zM25, zM26, zM27, zM28, zM29, Int.toNat_natCast]
    rw [if_neg (by omega)]
    obtain ⟨v, y1, e, g⟩ := cc_step (n := n) h2 (pos_28 (j := p) (by omega)) (by omega)
    refine RS_chk (by omega) (RS_bnd e (RS_chk (by omega) (RS_chk (by omega) ?_)))
    rw [cast1]
    exact ih (p + 1) q _ (by omega) (cc_eq g (by omega)) (by omega)
theorem ca_23 (hn : 10000 ≤ n) : ∀ (d p q : Nat) (y : ZMem), p + d = 5 → CC md m (65 + p) y → d < q → RS md m (L_X12_carryAll_251 n 16 q (p : Int) y) := by
  intro d
  induction d with
  | zero =>
    intro p q y h1 h2 hq
    obtain ⟨q, rfl⟩ : ∃ z, q = z + 1 := ⟨q - 1, by omega⟩
    show RS md m (B_X12_carryAll_251 n 16 (L_X12_carryAll_251 n 16 q) (p : Int) y)
    unfold B_X12_carryAll_251
    rw [if_pos (by omega)]
    exact ca_28 hn 20 0 n y (by decide) (cc_eq h2 (by omega)) (by omega)
  | succ d ih =>
    intro p q y h1 h2 hq
    obtain ⟨q, rfl⟩ : ∃ z, q = z + 1 := ⟨q - 1, by omega⟩
    show RS md m (B_X12_carryAll_251 n 16 (L_X12_carryAll_251 n 16 q) (p : Int) y)
    unfold B_X12_carryAll_251
    simp only [zM1, zM2, zM3, zM4, zM5, zM6, zM7, zM8, zM9, zM10, zM11, zM12, zM13, zM14, zM15, zM16, zM17, zM18, zM19, zM20, zM21, zM22, zM23, zM24, zM25, zM26, zM27, zM28, zM29, Int.toNat_natCast]
    rw [if_neg (by omega)]
    obtain ⟨v, y1, e, g⟩ := cc_step (n := n) h2 (pos_23 (j := p) (by omega)) (by omega)
    refine RS_chk (by omega) (RS_bnd e (RS_chk (by omega) (RS_chk (by omega) ?_)))
    rw [cast1]
    exact ih (p + 1) q _ (by omega) (cc_eq g (by omega)) (by omega)
theorem ca_1 (hn : 10000 ≤ n) : ∀ (d p q : Nat) (y : ZMem), p + d = 8 → CC md m (7 + 7 * p) y → d < q → RS md m (L_X12_carryAll_101 n 16 q (p : Int) y) := by
  intro d
  induction d with
  | zero =>
    intro p q y h1 h2 hq
    obtain ⟨q, rfl⟩ : ∃ z, q = z + 1 := ⟨q - 1, by omega⟩
    show RS md m (B_X12_carryAll_101 n 16 (L_X12_carryAll_101 n 16 q) (p : Int) y)
    unfold B_X12_carryAll_101
    rw [if_pos (by omega)]
    obtain ⟨v, y1, e, g⟩ := cc_step (n := n) (r := 0) (k := 41) h2 (by show 63 = _; omega) (by omega)
    obtain ⟨v2, y2, e2, g2⟩ := cc_step (n := n) (r := 0) (k := 47) g (by show 64 = _; omega) (by omega)
    refine RS_bnd e (RS_bnd e2 ?_)
    exact ca_23 hn 5 0 n _ (by decide) (cc_eq g2 (by omega)) (by omega)
  | succ d ih =>
    intro p q y h1 h2 hq
    obtain ⟨q, rfl⟩ : ∃ z, q = z + 1 := ⟨q - 1, by omega⟩
    show RS md m (B_X12_carryAll_101 n 16 (L_X12_carryAll_101 n 16 q) (p : Int) y)
    unfold B_X12_carryAll_101
    simp only [zM1, zM2, zM3, zM4, zM5, zM6, zM7, zM8, zM9, zM10, zM11, zM12, zM13, zM14, zM15, zM16, zM17, zM18, zM19, zM20, zM21, zM22, zM23, zM24, zM25, zM26, zM27, zM28, zM29, Int.toNat_natCast]
    rw [if_neg (by omega)]
    obtain ⟨v1, y1, e1, g1⟩ := cc_step (n := n) h2 ((pos_p (i := 1) (j := p) (by decide) (by decide) (by omega)).trans (by omega)) (by omega)
    obtain ⟨v2, y2, e2, g2⟩ := cc_step (n := n) g1 ((pos_p (i := 2) (j := p) (by decide) (by decide) (by omega)).trans (by omega)) (by omega)
    obtain ⟨v3, y3, e3, g3⟩ := cc_step (n := n) g2 ((pos_p (i := 3) (j := p) (by decide) (by decide) (by omega)).trans (by omega)) (by omega)
    obtain ⟨v4, y4, e4, g4⟩ := cc_step (n := n) g3 ((pos_p (i := 4) (j := p) (by decide) (by decide) (by omega)).trans (by omega)) (by omega)
    obtain ⟨v5, y5, e5, g5⟩ := cc_step (n := n) g4 ((pos_p (i := 5) (j := p) (by decide) (by decide) (by omega)).trans (by omega)) (by omega)
    obtain ⟨v6, y6, e6, g6⟩ := cc_step (n := n) g5 ((pos_21 (j := p) (by omega)).trans (by omega)) (by omega)
    obtain ⟨v7, y7, e7, g7⟩ := cc_step (n := n) g6 ((pos_22 (j := p) (by omega)).trans (by omega)) (by omega)
    refine RS_chk (by omega) (RS_bnd e1 (RS_chk (by omega) (RS_chk (by omega) (RS_bnd e2 (RS_chk (by omega) (RS_chk (by omega) (RS_bnd e3 (RS_chk (by omega) (RS_chk (by omega) (RS_bnd e4 (RS_chk (by omega) (RS_chk (by omega) (RS_bnd e5 (RS_chk (by omega) (RS_chk (by omega) (RS_bnd e6 (RS_chk (by omega) (RS_chk (by omega) (RS_bnd e7 (RS_chk (by omega) (RS_chk (by omega) ?_)))))))))))))))))))))
    rw [cast1]
    exact ih (p + 1) q _ (by omega) (cc_eq g7 (by omega)) (by omega)
theorem M_carryAll (hn : 10000 ≤ n) (hmd : md = 0 ∨ md = 1) (m : ZMem) : RS md m (F_X12_carryAll n 16 md m) := by
  have h0 : CC md m 0 (wr (wr (wr m 0 31 (16 : Int)) 0 30 md) 0 29 0) := by
    refine ⟨⟨wr_eq, ?_, ?_⟩, ?_⟩
    · rw [wr_nk (by decide), wr_eq]
    · rw [wr_nk (by decide), wr_nk (by decide), wr_eq]
    · have g : ∀ i j, ¬ (i = 0 ∧ 29 ≤ j ∧ j ≤ 31) → wr (wr (wr m 0 31 (16 : Int)) 0 30 md) 0 29 0 i j = m i j := by
        intro i j hij
        rw [wr_ne (by omega), wr_ne (by omega), wr_ne (by omega)]
      rcases hmd with e | e
      · exact Or.inr ⟨e, fun i j hij => by omega, fun i j _ hj => g i j hj⟩
      · exact Or.inl ⟨e, fun i j hij => by omega, fun i j _ hj => g i j hj⟩
  unfold F_X12_carryAll
  refine RS_chk hmd ?_
  obtain ⟨v1, y1, e1, g1⟩ := cc_step (n := n) (r := 0) (k := 0) h0 rfl (by decide)
  obtain ⟨v2, y2, e2, g2⟩ := cc_step (n := n) (r := 0) (k := 1) g1 rfl (by decide)
  obtain ⟨v3, y3, e3, g3⟩ := cc_step (n := n) (r := 0) (k := 2) g2 rfl (by decide)
  obtain ⟨v4, y4, e4, g4⟩ := cc_step (n := n) (r := 0) (k := 3) g3 rfl (by decide)
  obtain ⟨v5, y5, e5, g5⟩ := cc_step (n := n) (r := 0) (k := 4) g4 rfl (by decide)
  obtain ⟨v6, y6, e6, g6⟩ := cc_step (n := n) (r := 0) (k := 5) g5 rfl (by decide)
  obtain ⟨v7, y7, e7, g7⟩ := cc_step (n := n) (r := 0) (k := 6) g6 rfl (by decide)
  exact RS_bnd e1 (RS_bnd e2 (RS_bnd e3 (RS_bnd e4 (RS_bnd e5 (RS_bnd e6 (RS_bnd e7 (ca_1 hn 8 0 n _ (by decide) g7 (by omega))))))))
/-- the same kitchen, as far as its cells reach -/
def SA (s s' : ZMem) : Prop := ∀ i j, pos i j < 133 → s' i j = s i j
theorem SA.z {s' : ZMem} (h : SA s s') {b : Nat} (hb : b ≤ 6) : s' 0 b = s 0 b := h 0 b (by unfold pos; rw [if_pos rfl, if_pos hb]; omega)
theorem SA.p {s' : ZMem} (h : SA s s') {r p : Nat} (h1 : 1 ≤ r) (h2 : r ≤ 5) (hb : p < 8) : s' r p = s r p := h r p (by rw [pos_p h1 h2 hb]; omega)
theorem WFs_SA {s' : ZMem} (hw : WFs s) (h : SA s s') : WFs s' := by
  have z := fun b hb => h.z (b := b) hb
  have z41 : s' 0 41 = s 0 41 := h 0 41 (by decide)
  have z47 : s' 0 47 = s 0 47 := h 0 47 (by decide)
  obtain ⟨z1, z2, z3, z4, z5, z6, z7, z8, z9, hp, ht, hst, hcu, hwe, hdi⟩ := hw
  unfold WFs
  rw [z 0 (by omega), z 1 (by omega), z 2 (by omega), z 3 (by omega), z 4 (by omega), z 5 (by omega), z 6 (by omega), z41, z47]
  refine ⟨z1, z2, z3, z4, z5, z6, z7, z8, z9, fun p hp' => ?_, fun t ht' => ?_, fun i hi' => ?_, fun k hk' => ?_, fun k hk' => ?_, fun d hd' => ?_⟩
  · rw [h.p (r := 1) (by decide) (by decide) (by omega), h.p (r := 2) (by decide) (by decide) (by omega), h.p (r := 3) (by decide) (by decide) (by omega), h.p (r := 4) (by decide) (by decide) (by omega), h.p (r := 5) (by decide) (by decide) (by omega), h 21 p (by rw [pos_21 (by omega)]; omega), h 22 p (by rw [pos_22 (by omega)]; omega)]
    exact hp p hp'
  · rw [h 6 t (by rw [pos_6 (by omega)]; omega), h 7 t (by rw [pos_7 (by omega)]; omega)]
    exact ht t ht'
  · have g : ∀ c, c < 5 → s' 8 (5 * i + c) = s 8 (5 * i + c) := fun c hc => h 8 _ (by rw [pos_8 (by omega)]; omega)
    have g0 : s' 8 (5 * i) = s 8 (5 * i) := g 0 (by decide)
    rw [g0, g 1 (by decide), g 2 (by decide), g 3 (by decide), g 4 (by decide)]
    exact hst i hi'
  · rw [h 9 k (by rw [pos_9 hk']; omega)]
    exact hcu k hk'
  · rw [h 23 k (by rw [pos_23 (by omega)]; omega)]
    exact hwe k hk'
  · have g : ∀ c, c < 5 → s' 28 (5 * d + c) = s 28 (5 * d + c) := fun c hc => h 28 _ (by rw [pos_28 (by omega)]; omega)
    have g0 : s' 28 (5 * d) = s 28 (5 * d) := g 0 (by decide)
    rw [g0, g 1 (by decide), g 2 (by decide), g 3 (by decide), g 4 (by decide)]
    exact hdi d hd'
def lenT (h : Nat) : Nat := if h = 1 then 56 else if h = 3 then 10 else if h = 5 then 30 else if h = 7 then 3 else if h = 9 then 5 else 20
/-- y is x, the first tables below u copied from o to t -/
def KC (x : ZMem) (t o u : Nat) (y : ZMem) : Prop :=
  (∀ i j, (i < t ∨ t + 13 ≤ i) → y i j = x i j) ∧ (∀ j, j ≤ 3 → y t j = x o j) ∧
  (∀ h, h % 2 = 1 → h ≤ 11 → y (t + h) 1 = x (t + h) 1 ∧ y (t + h) 2 = x (t + h) 2) ∧
  (∀ h, h % 2 = 1 → h < u → y (t + h) 3 = x (o + h) 3 ∧ ∀ j, j < lenT h → y (t + h + 1) j = x (o + h + 1) j) ∧
  (∀ h, h % 2 = 1 → u ≤ h → h ≤ 11 → y (t + h) 3 = x (t + h) 3)
theorem kc_step {t o h R W : Nat} (hto : t + 13 ≤ o ∨ o + 13 ≤ t) (hh : h % 2 = 1) (hl : h ≤ 11) (ht : TB x (t + h) R W) (ho : TB x (o + h) R W) (hRW : R * W = lenT h) (hn : 10000 ≤ n) (hk : KC x t o h y) : ∃ y', F_X9_copyFrom n (t + h) (o + h) y = some (0, y') ∧ KC x t o (h + 2) y' := by
  obtain ⟨k1, k2, k3, k4, k5⟩ := hk
  have ht' : TB y (t + h) R W := TB_fr ht (k3 h hh hl).1 (k3 h hh hl).2 (k5 h hh (Nat.le_refl _) hl)
  have ho' : TB y (o + h) R W := TB_fr ho (k1 _ _ (by omega)) (k1 _ _ (by omega)) (k1 _ _ (by omega))
  refine ⟨_, X_copy ht' ho' (by omega) (by omega) hn, ?_⟩
  have gc : ∀ j, cpT (wr y (t + h) 3 (y (o + h) 3)) (t + h) (o + h) (R * W) (t + h + 1) j = if j < R * W then y (o + h + 1) j else y (t + h + 1) j := by
    intro j
    simp only [cpT]
    by_cases e : j < R * W
    · rw [if_pos ⟨trivial, e⟩, if_pos e, wr_nr (by omega)]
    · rw [if_neg (fun z => e z.2), if_neg e, wr_nr (by omega)]
  have gn : ∀ i j, i ≠ t + h + 1 → cpT (wr y (t + h) 3 (y (o + h) 3)) (t + h) (o + h) (R * W) i j = wr y (t + h) 3 (y (o + h) 3) i j := by
    intro i j hi
    simp only [cpT]
    rw [if_neg (fun z => hi z.1)]
  refine ⟨?_, ?_, ?_, ?_, ?_⟩
  · intro i j hij
    rw [gn i j (by omega), wr_nr (by omega)]
    exact k1 i j hij
  · intro j hj
    rw [gn t j (by omega), wr_nr (by omega)]
    exact k2 j hj
  · intro g hg hgl
    rw [gn _ _ (by omega), gn _ _ (by omega), wr_nk (by decide), wr_nk (by decide)]
    exact k3 g hg hgl
  · intro g hg hgl
    by_cases e : g = h
    · subst e
      refine ⟨?_, fun j hj => ?_⟩
      · rw [gn _ _ (by omega), wr_eq]
        exact k1 _ _ (by omega)
      · rw [gc, if_pos (by omega)]
        exact k1 _ _ (by omega)
    · obtain ⟨a, b⟩ := k4 g hg (by omega)
      rw [gn _ _ (by omega), wr_nr (by omega)]
      refine ⟨a, fun j hj => ?_⟩
      rw [gn _ _ (by omega), wr_nr (by omega)]
      exact b j hj
  · intro g hg hgl hg11
    rw [gn _ _ (by omega), wr_nr (by omega)]
    exact k5 g hg (by omega) hg11
theorem X_kcopy {t o : Nat} (hto : t + 13 ≤ o ∨ o + 13 ≤ t) (ht : XT x t) (ho : XT x o) (hn : 10000 ≤ n) : ∃ y, F_X3_copyFrom n t o x = some (0, y) ∧ KC x t o 13 y := by
  obtain ⟨t1, t2, t3, t4, t5, t6⟩ := ht
  obtain ⟨o1, o2, o3, o4, o5, o6⟩ := ho
  unfold F_X3_copyFrom
  have k0 : KC x t o 1 (wr (wr (wr (wr x t 0 (x o 0)) t 1 ((wr x t 0 (x o 0)) o 1)) t 2 ((wr (wr x t 0 (x o 0)) t 1 ((wr x t 0 (x o 0)) o 1)) o 2)) t 3 ((wr (wr (wr x t 0 (x o 0)) t 1 ((wr x t 0 (x o 0)) o 1)) t 2 ((wr (wr x t 0 (x o 0)) t 1 ((wr x t 0 (x o 0)) o 1)) o 2)) o 3)) := by
    have hne : o ≠ t := by omega
    simp only [wr_nr hne]
    refine ⟨?_, ?_, ?_, ?_, ?_⟩
    · intro i j hij
      rw [wr_nr (by omega), wr_nr (by omega), wr_nr (by omega), wr_nr (by omega)]
    · intro j hj
      have hj4 : j = 0 ∨ j = 1 ∨ j = 2 ∨ j = 3 := by omega
      rcases hj4 with rfl | rfl | rfl | rfl
      · rw [wr_nk (by decide), wr_nk (by decide), wr_nk (by decide), wr_eq]
      · rw [wr_nk (by decide), wr_nk (by decide), wr_eq]
      · rw [wr_nk (by decide), wr_eq]
      · rw [wr_eq]
    · intro h hh hl
      have e : t + h ≠ t := by omega
      simp only [wr_nr e]
      exact ⟨trivial, trivial⟩
    · intro h hh hl
      omega
    · intro h hh hl hl2
      have e : t + h ≠ t := by omega
      simp only [wr_nr e]
  obtain ⟨y1, e1, k1⟩ := kc_step hto (h := 1) (by decide) (by decide) t1 o1 rfl hn k0
  obtain ⟨y2, e2, k2⟩ := kc_step hto (h := 3) (by decide) (by decide) t2 o2 rfl hn k1
  obtain ⟨y3, e3, k3⟩ := kc_step hto (h := 5) (by decide) (by decide) t3 o3 rfl hn k2
  obtain ⟨y4, e4, k4⟩ := kc_step hto (h := 7) (by decide) (by decide) t4 o4 rfl hn k3
  obtain ⟨y5, e5, k5⟩ := kc_step hto (h := 9) (by decide) (by decide) t5 o5 rfl hn k4
  obtain ⟨y6, e6, k6⟩ := kc_step hto (h := 11) (by decide) (by decide) t6 o6 rfl hn k5
  exact ⟨y6, E_bnd e1 (E_bnd e2 (E_bnd e3 (E_bnd e4 (E_bnd e5 (E_bnd e6 rfl))))), k6⟩
theorem XK_mv {t o : Nat} {s' : ZMem} (h : XK x o s) (hw : WFs s) (ht : XT x t) (hk : KC x t o 13 y) (hs : SA s s') : XK y t s' := by
  obtain ⟨⟨f1, f2, f3, f4⟩, -, ⟨s1, s2, s3, s4, s5, s6⟩, h4, h5, h6, h7, h8, h9⟩ := h
  obtain ⟨t1, t2, t3, t4, t5, t6⟩ := ht
  obtain ⟨-, k2, k3, k4, -⟩ := hk
  have z := fun b hb => hs.z (b := b) hb
  have z41 : s' 0 41 = s 0 41 := hs 0 41 (by decide)
  have z47 : s' 0 47 = s 0 47 := hs 0 47 (by decide)
  have np := hw.np
  have nt := hw.nt
  have ns := hw.ns
  have nw := hw.nw
  have nd := hw.nd
  have q1 := k4 1 (by decide) (by decide)
  have q3 := k4 3 (by decide) (by decide)
  have q5 := k4 5 (by decide) (by decide)
  have q7 := k4 7 (by decide) (by decide)
  have q9 := k4 9 (by decide) (by decide)
  have q11 := k4 11 (by decide) (by decide)
  have r1 := k3 1 (by decide) (by decide)
  have r3 := k3 3 (by decide) (by decide)
  have r5 := k3 5 (by decide) (by decide)
  have r7 := k3 7 (by decide) (by decide)
  have r9 := k3 9 (by decide) (by decide)
  have r11 := k3 11 (by decide) (by decide)
  refine ⟨⟨?_, ?_, ?_, ?_⟩, ⟨?_, ?_, ?_, ?_, ?_, ?_⟩, ⟨?_, ?_, ?_, ?_, ?_, ?_⟩, ?_, ?_, ?_, ?_, ?_, ?_⟩
  · rw [k2 0 (by omega), z 0 (by omega)]; exact f1
  · rw [k2 1 (by omega), z 1 (by omega)]; exact f2
  · rw [k2 2 (by omega), z 5 (by omega)]; exact f3
  · rw [k2 3 (by omega), z 6 (by omega)]; exact f4
  · exact TB_sz t1 r1.1 r1.2 (by rw [q1.1, s1]; omega)
  · exact TB_sz t2 r3.1 r3.2 (by rw [q3.1, s2]; omega)
  · exact TB_sz t3 r5.1 r5.2 (by rw [q5.1, s3]; omega)
  · exact TB_sz t4 r7.1 r7.2 (by rw [q7.1, s4]; omega)
  · exact TB_sz t5 r9.1 r9.2 (by rw [q9.1, s5]; omega)
  · exact TB_sz t6 r11.1 r11.2 (by rw [q11.1, s6]; omega)
  · rw [q1.1, z 2 (by omega)]; exact s1
  · rw [q3.1, z 3 (by omega)]; exact s2
  · rw [q5.1, z 4 (by omega)]; exact s3
  · rw [q7.1]; exact s4
  · rw [q9.1, z41]; exact s5
  · rw [q11.1, z47]; exact s6
  · intro p hp
    rw [z 2 (by omega)] at hp
    have g : ∀ c, c < 7 → y (t + 2) (p * 7 + c) = x (o + 2) (p * 7 + c) := fun c hc => q1.2 _ (by show _ < 56; omega)
    rw [g 0 (by decide), g 1 (by decide), g 2 (by decide), g 3 (by decide), g 4 (by decide), g 5 (by decide), g 6 (by decide)]
    rw [hs.p (r := 1) (by decide) (by decide) (by omega), hs.p (r := 2) (by decide) (by decide) (by omega), hs.p (r := 3) (by decide) (by decide) (by omega), hs.p (r := 4) (by decide) (by decide) (by omega), hs.p (r := 5) (by decide) (by decide) (by omega), hs 21 p (by rw [pos_21 (by omega)]; omega), hs 22 p (by rw [pos_22 (by omega)]; omega)]
    exact h4 p hp
  · intro p hp
    rw [z 3 (by omega)] at hp
    have g : ∀ c, c < 2 → y (t + 4) (p * 2 + c) = x (o + 4) (p * 2 + c) := fun c hc => q3.2 _ (by show _ < 10; omega)
    rw [g 0 (by decide), g 1 (by decide), hs 6 p (by rw [pos_6 (by omega)]; omega), hs 7 p (by rw [pos_7 (by omega)]; omega)]
    exact h5 p hp
  · intro i hi c hc
    rw [z 4 (by omega)] at hi
    rw [show y (t + 6) (i * 5 + c) = x (o + 6) (i * 5 + c) from q5.2 _ (by show _ < 30; omega), hs 8 _ (by rw [pos_8 (by omega)]; omega)]
    exact h6 i hi c hc
  · intro c hc
    rw [show y (t + 8) c = x (o + 8) c from q7.2 _ (by show _ < 3; omega), hs 9 c (by rw [pos_9 (by omega)]; omega)]
    exact h7 c hc
  · intro w hw
    rw [z41] at hw
    rw [show y (t + 10) w = x (o + 10) w from q9.2 _ (by show _ < 5; omega), hs 23 w (by rw [pos_23 (by omega)]; omega)]
    exact h8 w hw
  · intro d hd c hc
    rw [z47] at hd
    rw [show y (t + 12) (d * 5 + c) = x (o + 12) (d * 5 + c) from q11.2 _ (by show _ < 20; omega), hs 28 _ (by rw [pos_28 (by omega)]; omega)]
    exact h9 d hd c hc
/-- the image tells at its places what im reads there -/
theorem im_pos (m : ZMem) {i j : Nat} (h : pos i j < 133) : im m i j = m 16 (pos i j) := by
  rcases pos_cases (i := i) (j := j) (by omega) with ⟨rfl, b, e⟩ | ⟨rfl, rfl, e⟩ | ⟨rfl, rfl, e⟩ | ⟨b1, b2, b, e⟩ | ⟨rfl, b, e⟩ | ⟨rfl, b, e⟩ | ⟨rfl, b, e⟩ | ⟨rfl, b, e⟩ | ⟨rfl, b, e⟩ | ⟨rfl, b, e⟩ | ⟨rfl, b, e⟩ | ⟨rfl, b, e⟩
  · rw [e]
    show (if j ≤ 6 then _ else _) = _
    rw [if_pos b]
  · rfl
  · rfl
  · rw [e]
    have hi : i = 1 ∨ i = 2 ∨ i = 3 ∨ i = 4 ∨ i = 5 := by omega
    rcases hi with rfl | rfl | rfl | rfl | rfl <;> rfl
  all_goals
    rw [e]
    rfl
theorem pos_big {i j : Nat} (h : i = 10 ∨ i = 11 ∨ i = 16 ∨ i = 17 ∨ i = 29 ∨ (i = 0 ∧ (j = 28 ∨ j = 19 ∨ j = 49))) : 133 ≤ pos i j := by
  rcases h with rfl | rfl | rfl | rfl | rfl | ⟨rfl, rfl | rfl | rfl⟩ <;> exact (by decide : 133 ≤ 1000)
theorem XT_A {k : Nat} (h : XT x k) (hy : ∀ i j, k ≤ i → i ≤ k + 12 → y i j = x i j) : XT y k := by
  obtain ⟨t1, t2, t3, t4, t5, t6⟩ := h
  exact ⟨TB_fr t1 (hy _ _ (by omega) (by omega)) (hy _ _ (by omega) (by omega)) (hy _ _ (by omega) (by omega)), TB_fr t2 (hy _ _ (by omega) (by omega)) (hy _ _ (by omega) (by omega)) (hy _ _ (by omega) (by omega)), TB_fr t3 (hy _ _ (by omega) (by omega)) (hy _ _ (by omega) (by omega)) (hy _ _ (by omega) (by omega)), TB_fr t4 (hy _ _ (by omega) (by omega)) (hy _ _ (by omega) (by omega)) (hy _ _ (by omega) (by omega)), TB_fr t5 (hy _ _ (by omega) (by omega)) (hy _ _ (by omega) (by omega)) (hy _ _ (by omega) (by omega)), TB_fr t6 (hy _ _ (by omega) (by omega)) (hy _ _ (by omega) (by omega)) (hy _ _ (by omega) (by omega))⟩
theorem AG_of {keep : Nat → Nat → Bool} (h : ∀ i j, keep i j = true → y i j = x i j) : AG keep x y := h
theorem op_image (h : CP c x m) (hn : 10000 ≤ n) : SIM c (F_X11_image n x) (F_X12_image n m) := by
  obtain ⟨y, ey, hy⟩ := X_kcopy (n := n) (t := 14) (o := 1) (x := x) (by decide) h.t.1 h.k.1.2.1 hn
  obtain ⟨m', em, hm1, hm2⟩ := M_carryAll (n := n) (md := 1) hn (Or.inr rfl) (wr (wr m 0 16 0) 0 28 1)
  have hm3 : (∀ i j, pos i j < 133 → m' 16 (pos i j) = wr (wr m 0 16 0) 0 28 1 i j) ∧ (∀ i j, i ≠ 16 → ¬ (i = 0 ∧ 29 ≤ j ∧ j ≤ 31) → m' i j = wr (wr m 0 16 0) 0 28 1 i j) := by
    rcases hm2 with ⟨-, a, b⟩ | ⟨a, -⟩
    · exact ⟨a, b⟩
    · exact absurd a (by decide)
  obtain ⟨a1, a2⟩ := hm3
  have am : ∀ i j, i ≠ 16 → ¬ (i = 0 ∧ 28 ≤ j ∧ j ≤ 31) → ¬ (i = 0 ∧ j = 16) → m' i j = m i j := by
    intro i j h1 h2 h3
    rw [a2 i j h1 (by omega), wr_ne (by omega), wr_ne (by omega)]
  have sa : SA m (im m') := by
    intro i j hp
    rw [im_pos m' hp, a1 i j hp]
    have e28 : ¬ (i = 0 ∧ j = 28) := by rintro ⟨rfl, rfl⟩; exact absurd hp (by decide)
    have e16 : ¬ (i = 0 ∧ j = 16) := by rintro ⟨rfl, rfl⟩; exact absurd hp (by decide)
    rw [wr_ne (by omega), wr_ne (by omega)]
  have y3 : ∀ i j, (i < 14 ∨ 27 ≤ i) → ¬ (i = 0 ∧ j = 3) → wr y 0 3 1 i j = x i j := by
    intro i j h1 h2
    rw [wr_ne (by omega)]
    exact hy.1 i j h1
  refine ⟨m 0 1, wr y 0 3 1, m', ?_, ?_, ?_⟩
  · unfold F_X11_image
    refine E_bnd ey (E_some ?_ rfl)
    rw [wr_nr (by decide), hy.1 1 1 (by decide)]
    exact h.k.1.1.2.1
  · unfold F_X12_image
    exact E_bnd em (E_some (am 0 1 (by decide) (by decide) (by decide)) rfl)
  · have xm := XK_mv h.k.1 h.k.2 h.t.1 hy sa
    have xm2 : XK (wr y 0 3 1) 14 (im m') := XK_fr xm (fun i j h1 h2 => wr_nr (by omega)) AG.rf
    refine ⟨CPk_fr h.k (AG_of fun i j hk => y3 i j ?_ ?_) (AG_of fun i j hk => am i j ?_ ?_ ?_), Or.inr ⟨wr_eq, ?_, xm2, WFs_SA h.k.2 sa⟩, ⟨xm2.2.1, XT_A h.t.2 (fun i j h1 h2 => y3 i j (by omega) (by omega))⟩, CPl_fr h.l (AG_of fun i j hk => y3 i j ?_ ?_) (AG_of fun i j hk => am i j ?_ ?_ ?_), CPr_fr h.r (AG_of fun i j hk => y3 i j ?_ ?_) (AG_of fun i j hk => am i j ?_ ?_ ?_), CPe_fr h.e (AG_of fun i j hk => y3 i j ?_ ?_) (AG_of fun i j hk => am i j ?_ ?_ ?_), CPf_fr h.f (AG_of fun i j hk => y3 i j ?_ ?_) (AG_of fun i j hk => am i j ?_ ?_ ?_), CPs_fr h.s (AG_of fun i j hk => y3 i j ?_ ?_)⟩
    case refine_6 =>
      rw [a2 0 28 (by decide) (by decide), wr_eq]
    all_goals
      simp only [kXk, kMk, kXl, kMl, kXr, kMr, kXe, kMe, kXf, kMf, kXs, Bool.or_eq_true, Bool.and_eq_true, decide_eq_true_eq] at hk
      (try (split at hk <;> simp only [Bool.or_eq_true, Bool.and_eq_true, decide_eq_true_eq] at hk))
      all_goals omega
theorem op_restore (h : CP c x m) (hc : c ≤ 1000) (hn : 10000 ≤ n) : SIM c (F_X11_restore n x) (F_X12_restore n m) := by
  have h28 : wr m 0 16 0 0 28 = m 0 28 := rfl
  unfold F_X11_restore F_X12_restore
  rcases h.i with ⟨i1, i2⟩ | ⟨i1, i2, i3, i4⟩
  · refine SIM_ref h (r := -3) (by decide) ?_ ?_
    · rw [if_pos i1]
      refine E_bnd (X_refo h.f hc (by decide) (by decide)) ?_
      rw [if_neg (by decide)]
    · rw [h28, if_pos i2]
      exact E_bnd (M_ref h hc (by decide)) rfl
  · obtain ⟨y, ey, hy⟩ := X_kcopy (n := n) (t := 1) (o := 14) (x := x) (by decide) h.k.1.2.1 h.t.1 hn
    obtain ⟨m', em, hm1, hm2⟩ := M_carryAll (n := n) (md := 0) hn (Or.inl rfl) (wr m 0 16 0)
    have hm3 : (∀ i j, pos i j < 133 → m' i j = wr m 0 16 0 16 (pos i j)) ∧ (∀ i j, 133 ≤ pos i j → ¬ (i = 0 ∧ 29 ≤ j ∧ j ≤ 31) → m' i j = wr m 0 16 0 i j) := by
      rcases hm2 with ⟨a, -⟩ | ⟨-, a, b⟩
      · exact absurd a (by decide)
      · exact ⟨a, b⟩
    obtain ⟨a1, a2⟩ := hm3
    have am : ∀ i j, 133 ≤ pos i j → ¬ (i = 0 ∧ 29 ≤ j ∧ j ≤ 33) → ¬ (i = 0 ∧ j = 16) → wr m' 0 33 0 i j = m i j := by
      intro i j h1 h2 h3
      rw [wr_ne (by omega), a2 i j h1 (by omega), wr_ne (by omega)]
    have sa : SA (im m) (wr m' 0 33 0) := by
      intro i j hp
      have e33 : ¬ (i = 0 ∧ j = 33) := by rintro ⟨rfl, rfl⟩; exact absurd hp (by decide)
      rw [im_pos m hp, wr_ne (by omega), a1 i j hp, wr_nr (by decide)]
    have hT : TB y 47 8 1 := TB_fr h.e.1 (hy.1 _ _ (by decide)) (hy.1 _ _ (by decide)) (hy.1 _ _ (by decide))
    have er := X_reset (n := n) (v := 0) hT hn (l := 0) (by decide) (a := 0) rfl
    rw [Nat.zero_mul, rsT_0] at er
    have y3 : ∀ i j, 14 ≤ i ∨ i = 0 → ¬ (i = 47 ∧ j = 3) → wr y 47 3 ((0 : Nat) : Int) i j = x i j := by
      intro i j h1 h2
      rw [wr_ne (by omega)]
      exact hy.1 i j (by omega)
    have xm := XK_mv i3 i4 h.k.1.2.1 hy sa
    have xm2 : XK (wr y 47 3 ((0 : Nat) : Int)) 1 (wr m' 0 33 0) := XK_fr xm (fun i j h1 h2 => wr_nr (by omega)) AG.rf
    refine ⟨wr m' 0 33 0 0 1, wr y 47 3 ((0 : Nat) : Int), wr m' 0 33 0, ?_, ?_, ?_⟩
    · rw [if_neg (by omega)]
      refine E_bnd (X_noto rfl) ?_
      rw [if_pos rfl]
      exact E_bnd ey (E_bnd er (E_some xm2.1.2.1 rfl))
    · rw [h28, if_neg (by omega)]
      exact E_bnd em rfl
    · have pm : ∀ j, 133 ≤ pos 16 j := fun j => by rw [pos16]; decide
      refine ⟨⟨xm2, WFs_SA i4 sa⟩, CPi_fr h.i (AG_of fun i j hk => y3 i j ?_ ?_) (AG_of fun i j hk => am i j ?_ ?_ ?_), CPt_fr h.t (AG_of fun i j hk => y3 i j ?_ ?_), CPl_fr h.l (AG_of fun i j hk => y3 i j ?_ ?_) (AG_of fun i j hk => am i j ?_ ?_ ?_), CPr_fr h.r (AG_of fun i j hk => y3 i j ?_ ?_) (AG_of fun i j hk => am i j ?_ ?_ ?_), ⟨TB_sz hT (wr_nk (by decide)) (wr_nk (by decide)) (by rw [wr_eq]; decide), (by rw [wr_eq, wr_eq]; rfl), fun j hj => (by rw [wr_eq] at hj; omega)⟩, CPf_fr h.f (AG_of fun i j hk => y3 i j ?_ ?_) (AG_of fun i j hk => am i j ?_ ?_ ?_), CPs_fr h.s (AG_of fun i j hk => y3 i j ?_ ?_)⟩
      all_goals
        simp only [kXi, kMi, kXt, kXl, kMl, kXr, kMr, kXf, kMf, kXs, Bool.or_eq_true, Bool.and_eq_true, decide_eq_true_eq] at hk
        first
        | omega
        | exact pos_big (by omega)
end ZOP19
