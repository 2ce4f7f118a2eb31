/-! THE REFERENCE'S spare image: the array 15 -/
def CC5 (md : Int) (m : ZMem) (K : Nat) (y : ZMem) : Prop :=
  (y 0 29 = (K : Int) ∧ y 0 30 = md ∧ y 0 31 = 15) ∧
  ((md = 1 ∧ (∀ i j, pos i j < K → y 15 (pos i j) = m i j) ∧ (∀ i j, i ≠ 15 → ¬ (i = 0 ∧ 29 ≤ j ∧ j ≤ 31) → y i j = m i j)) ∨
   (md = 0 ∧ (∀ i j, pos i j < K → y i j = m 15 (pos i j)) ∧ (∀ i j, K ≤ pos i j → ¬ (i = 0 ∧ 29 ≤ j ∧ j ≤ 31) → y i j = m i j)))
section ZBOK
variable {x s m y : ZMem} {c n : Nat} {md : Int}
theorem pos15 (j : Nat) : pos 15 j = 1000 := rfl
theorem cc5_step {K r k : Nat} (h : CC5 md m K y) (hp : pos r k = K) (hK : K < 136) : ∃ v y1, F_X12_carry n (y r k) y = some (v, y1) ∧ CC5 md m (K + 1) (wr y1 r k v) := by
  obtain ⟨⟨h1, h2, h3⟩, h4⟩ := h
  have hr16 : r ≠ 15 := by rintro rfl; rw [pos15] at hp; omega
  have hr0 : ¬ (r = 0 ∧ 29 ≤ k ∧ k ≤ 31) := by rintro ⟨rfl, e⟩; rw [pos29 e] at hp; omega
  have z16 : zlen LM 15 = 136 := rfl
  rcases h4 with ⟨hm, g1, g2⟩ | ⟨hm, g1, g2⟩
  · have ev : y r k = m r k := g2 r k hr16 hr0
    refine ⟨y r k, wr (wr y 15 K (y r k)) 0 29 ((K : Int) + 1), ?_, ⟨?_, ?_, ?_⟩, Or.inl ⟨hm, ?_, ?_⟩⟩
    · unfold F_X12_carry
      rw [h2, hm, if_neg (by decide), h3, h1, show (15 : Int).toNat = 15 from rfl, Int.toNat_natCast]
      simp (disch := decide) only [wr_nr, wr_nk, wr_eq, h1, h3, show (15 : Int).toNat = 15 from rfl, z16]
      rw [show ((K : Int) + 1 - 1).toNat = K by omega, wr_eq]
      exact E_chk (by decide) (E_chk (by omega) (E_chk (by omega) (E_chk (by decide) (E_chk (by omega) (E_chk (by omega) rfl)))))
    · rw [wr_ne (by omega), wr_eq]
      omega
    · rw [wr_ne (by omega), wr_nk (by decide), wr_nr (by decide)]
      exact h2
    · rw [wr_ne (by omega), wr_nk (by decide), wr_nr (by decide)]
      exact h3
    · intro i j hij
      rw [wr_ne (by omega), wr_nr (by decide)]
      by_cases e : pos i j = K
      · obtain ⟨rfl, rfl⟩ := pos_inj (i := i) (j := j) (r := r) (c := k) (by omega) (by omega)
        rw [e, wr_eq]
        exact ev
      · rw [wr_nk (by omega)]
        exact g1 i j (by omega)
    · intro i j hi hj
      by_cases e : i = r ∧ j = k
      · rw [e.1, e.2, wr_eq]
        exact ev
      · rw [wr_ne (by omega), wr_ne (by omega), wr_nr hi]
        exact g2 i j hi hj
  · refine ⟨y 15 K, wr y 0 29 ((K : Int) + 1), ?_, ⟨?_, ?_, ?_⟩, Or.inr ⟨hm, ?_, ?_⟩⟩
    · unfold F_X12_carry
      rw [h2, hm, if_pos rfl]
      simp (disch := decide) only [wr_nr, wr_nk, wr_eq, h1, h3, show (15 : Int).toNat = 15 from rfl, z16]
      rw [show ((K : Int) + 1 - 1).toNat = K by omega]
      exact E_chk (by omega) (E_chk (by decide) (E_chk (by omega) (E_chk (by omega) rfl)))
    · rw [wr_ne (by omega), wr_eq]
      omega
    · rw [wr_ne (by omega), wr_nk (by decide)]
      exact h2
    · rw [wr_ne (by omega), wr_nk (by decide)]
      exact h3
    · intro i j hij
      have e16 : y 15 K = m 15 K := g2 15 K (by rw [pos15]; omega) (by omega)
      by_cases e : pos i j = K
      · obtain ⟨rfl, rfl⟩ := pos_inj (i := i) (j := j) (r := r) (c := k) (by omega) (by omega)
        rw [e, wr_eq]
        exact e16
      · have e0 : ¬ (i = 0 ∧ j = 29) := by rintro ⟨rfl, rfl⟩; rw [pos29 (by decide)] at hij; omega
        have e1 : ¬ (i = r ∧ j = k) := by rintro ⟨rfl, rfl⟩; exact e hp
        rw [wr_ne (by omega), wr_ne (by omega)]
        exact g1 i j (by omega)
    · intro i j hi hj
      have e1 : ¬ (i = r ∧ j = k) := by rintro ⟨rfl, rfl⟩; omega
      rw [wr_ne (by omega), wr_ne (by omega)]
      exact g2 i j (by omega) hj
def RS5 (md : Int) (m : ZMem) (o : ZR) : Prop := ∃ y, o = some (0, y) ∧ CC5 md m 133 y
theorem RS5_bnd {o : ZR} {f : Int → ZMem → ZR} {v : Int} {y1 : ZMem} (h : o = some (v, y1)) (k : RS5 md m (f v y1)) : RS5 md m (bnd o f) := by rw [h]; exact k
theorem RS5_chk {P : Prop} [Decidable P] {o : ZR} (h : P) (k : RS5 md m o) : RS5 md m (chk P o) := by rw [chk_pos h]; exact k
theorem cc5_eq {K K' : Nat} (h : CC5 md m K y) (e : K = K') : CC5 md m K' y := e ▸ h
theorem ca5_9 : ∀ (d p q : Nat) (y : ZMem), p + d = 3 → CC5 md m (130 + p) y → d < q → RS5 md m (L_X12_carryAll_385 n 15 q (p : Int) y) := by
  intro d
  induction d with
  | zero =>
    intro p q y h1 h2 hq
    obtain ⟨q, rfl⟩ : ∃ z, q = z + 1 := ⟨q - 1, by omega⟩
    show RS5 md m (B_X12_carryAll_385 n 15 (L_X12_carryAll_385 n 15 q) (p : Int) y)
    unfold B_X12_carryAll_385
    rw [if_pos (by omega)]
    exact ⟨y, rfl, cc5_eq h2 (by omega)⟩
  | succ d ih =>
    intro p q y h1 h2 hq
    obtain ⟨q, rfl⟩ : ∃ z, q = z + 1 := ⟨q - 1, by omega⟩
    show RS5 md m (B_X12_carryAll_385 n 15 (L_X12_carryAll_385 n 15 q) (p : Int) y)
    unfold B_X12_carryAll_385
    simp only [zM1, zM2, zM3, zM4, zM5, zM6, zM7, zM8, zM9, zM10, zM11, zM12, zM13, zM14, zM15, zM16, zM17, zM18, zM19, zM20, zM21, zM22, zM23, zM24, zM25, zM26, zM27, zM28, zM29, Int.toNat_natCast]
    rw [if_neg (by omega)]
    obtain ⟨v, y1, e, g⟩ := cc5_step (n := n) h2 (pos_9 (j := p) (by omega)) (by omega)
    refine RS5_chk (by omega) (RS5_bnd e (RS5_chk (by omega) (RS5_chk (by omega) ?_)))
    rw [cast1]
    exact ih (p + 1) q _ (by omega) (cc5_eq g (by omega)) (by omega)
theorem ca5_8 (hn : 10000 ≤ n) : ∀ (d p q : Nat) (y : ZMem), p + d = 30 → CC5 md m (100 + p) y → d < q → RS5 md m (L_X12_carryAll_355 n 15 q (p : Int) y) := by
  intro d
  induction d with
  | zero =>
    intro p q y h1 h2 hq
    obtain ⟨q, rfl⟩ : ∃ z, q = z + 1 := ⟨q - 1, by omega⟩
    show RS5 md m (B_X12_carryAll_355 n 15 (L_X12_carryAll_355 n 15 q) (p : Int) y)
    unfold B_X12_carryAll_355
    rw [if_pos (by omega)]
    exact ca5_9 3 0 n y (by decide) (cc5_eq h2 (by omega)) (by omega)
  | succ d ih =>
    intro p q y h1 h2 hq
    obtain ⟨q, rfl⟩ : ∃ z, q = z + 1 := ⟨q - 1, by omega⟩
    show RS5 md m (B_X12_carryAll_355 n 15 (L_X12_carryAll_355 n 15 q) (p : Int) y)
    unfold B_X12_carryAll_355
    simp only [zM1, zM2, zM3, zM4, zM5, zM6, zM7, zM8, zM9, zM10, zM11, zM12, zM13, zM14, zM15, zM16, zM17, zM18, zM19, zM20, zM21, zM22, zM23, zM24, zM25, zM26, zM27, zM28, zM29, Int.toNat_natCast]
    rw [if_neg (by omega)]
    obtain ⟨v, y1, e, g⟩ := cc5_step (n := n) h2 (pos_8 (j := p) (by omega)) (by omega)
    refine RS5_chk (by omega) (RS5_bnd e (RS5_chk (by omega) (RS5_chk (by omega) ?_)))
    rw [cast1]
    exact ih (p + 1) q _ (by omega) (cc5_eq g (by omega)) (by omega)
theorem ca5_6 (hn : 10000 ≤ n) : ∀ (d p q : Nat) (y : ZMem), p + d = 5 → CC5 md m (90 + 2 * p) y → d < q → RS5 md m (L_X12_carryAll_310 n 15 q (p : Int) y) := by
  intro d
  induction d with
  | zero =>
    intro p q y h1 h2 hq
    obtain ⟨q, rfl⟩ : ∃ z, q = z + 1 := ⟨q - 1, by omega⟩
    show RS5 md m (B_X12_carryAll_310 n 15 (L_X12_carryAll_310 n 15 q) (p : Int) y)
    unfold B_X12_carryAll_310
    rw [if_pos (by omega)]
    exact ca5_8 hn 30 0 n y (by decide) (cc5_eq h2 (by omega)) (by omega)
  | succ d ih =>
    intro p q y h1 h2 hq
    obtain ⟨q, rfl⟩ : ∃ z, q = z + 1 := ⟨q - 1, by omega⟩
    show RS5 md m (B_X12_carryAll_310 n 15 (L_X12_carryAll_310 n 15 q) (p : Int) y)
    unfold B_X12_carryAll_310
    simp only [zM1, zM2, zM3, zM4, zM5, zM6, zM7, zM8, zM9, zM10, zM11, zM12, zM13, zM14, zM15, zM16, zM17, zM18, zM19, zM20, zM21, zM22, zM23, zM24, zM25, zM26, zM27, zM28, zM29, Int.toNat_natCast]
    rw [if_neg (by omega)]
    obtain ⟨v, y1, e, g⟩ := cc5_step (n := n) h2 (pos_6 (j := p) (by omega)) (by omega)
    obtain ⟨v2, y2, e2, g2⟩ := cc5_step (n := n) g ((pos_7 (j := p) (by omega)).trans (by omega)) (by omega)
    refine RS5_chk (by omega) (RS5_bnd e (RS5_chk (by omega) (RS5_chk (by omega) (RS5_bnd e2 (RS5_chk (by omega) (RS5_chk (by omega) ?_))))))
    rw [cast1]
    exact ih (p + 1) q _ (by omega) (cc5_eq g2 (by omega)) (by omega)
theorem ca5_28 (hn : 10000 ≤ n) : ∀ (d p q : Nat) (y : ZMem), p + d = 20 → CC5 md m (70 + p) y → d < q → RS5 md m (L_X12_carryAll_280 n 15 q (p : Int) y) := by
  intro d
  induction d with
  | zero =>
    intro p q y h1 h2 hq
    obtain ⟨q, rfl⟩ : ∃ z, q = z + 1 := ⟨q - 1, by omega⟩
    show RS5 md m (B_X12_carryAll_280 n 15 (L_X12_carryAll_280 n 15 q) (p : Int) y)
    unfold B_X12_carryAll_280
    rw [if_pos (by omega)]
    exact ca5_6 hn 5 0 n y (by decide) (cc5_eq h2 (by omega)) (by omega)
  | succ d ih =>
    intro p q y h1 h2 hq
    obtain ⟨q, rfl⟩ : ∃ z, q = z + 1 := ⟨q - 1, by omega⟩
    show RS5 md m (B_X12_carryAll_280 n 15 (L_X12_carryAll_280 n 15 q) (p : Int) y)
    unfold B_X12_carryAll_280
    simp only [zM1, zM2, zM3, zM4, zM5, zM6, zM7, zM8, zM9, zM10, zM11, zM12, zM13, zM14, zM15, zM16, zM17, zM18, zM19, zM20, zM21, zM22, zM23, zM24, zM25, zM26, zM27, zM28, zM29, Int.toNat_natCast]
    rw [if_neg (by omega)]
    obtain ⟨v, y1, e, g⟩ := cc5_step (n := n) h2 (pos_28 (j := p) (by omega)) (by omega)
    refine RS5_chk (by omega) (RS5_bnd e (RS5_chk (by omega) (RS5_chk (by omega) ?_)))
    rw [cast1]
    exact ih (p + 1) q _ (by omega) (cc5_eq g (by omega)) (by omega)
theorem ca5_23 (hn : 10000 ≤ n) : ∀ (d p q : Nat) (y : ZMem), p + d = 5 → CC5 md m (65 + p) y → d < q → RS5 md m (L_X12_carryAll_251 n 15 q (p : Int) y) := by
  intro d
  induction d with
  | zero =>
    intro p q y h1 h2 hq
    obtain ⟨q, rfl⟩ : ∃ z, q = z + 1 := ⟨q - 1, by omega⟩
    show RS5 md m (B_X12_carryAll_251 n 15 (L_X12_carryAll_251 n 15 q) (p : Int) y)
    unfold B_X12_carryAll_251
    rw [if_pos (by omega)]
    exact ca5_28 hn 20 0 n y (by decide) (cc5_eq h2 (by omega)) (by omega)
  | succ d ih =>
    intro p q y h1 h2 hq
    obtain ⟨q, rfl⟩ : ∃ z, q = z + 1 := ⟨q - 1, by omega⟩
    show RS5 md m (B_X12_carryAll_251 n 15 (L_X12_carryAll_251 n 15 q) (p : Int) y)
    unfold B_X12_carryAll_251
    simp only [zM1, zM2, zM3, zM4, zM5, zM6, zM7, zM8, zM9, zM10, zM11, zM12, zM13, zM14, zM15, zM16, zM17, zM18, zM19, zM20, zM21, zM22, zM23, zM24, zM25, zM26, zM27, zM28, zM29, Int.toNat_natCast]
    rw [if_neg (by omega)]
    obtain ⟨v, y1, e, g⟩ := cc5_step (n := n) h2 (pos_23 (j := p) (by omega)) (by omega)
    refine RS5_chk (by omega) (RS5_bnd e (RS5_chk (by omega) (RS5_chk (by omega) ?_)))
    rw [cast1]
    exact ih (p + 1) q _ (by omega) (cc5_eq g (by omega)) (by omega)
theorem ca5_1 (hn : 10000 ≤ n) : ∀ (d p q : Nat) (y : ZMem), p + d = 8 → CC5 md m (7 + 7 * p) y → d < q → RS5 md m (L_X12_carryAll_101 n 15 q (p : Int) y) := by
  intro d
  induction d with
  | zero =>
    intro p q y h1 h2 hq
    obtain ⟨q, rfl⟩ : ∃ z, q = z + 1 := ⟨q - 1, by omega⟩
    show RS5 md m (B_X12_carryAll_101 n 15 (L_X12_carryAll_101 n 15 q) (p : Int) y)
    unfold B_X12_carryAll_101
    rw [if_pos (by omega)]
    obtain ⟨v, y1, e, g⟩ := cc5_step (n := n) (r := 0) (k := 41) h2 (by show 63 = _; omega) (by omega)
    obtain ⟨v2, y2, e2, g2⟩ := cc5_step (n := n) (r := 0) (k := 47) g (by show 64 = _; omega) (by omega)
    refine RS5_bnd e (RS5_bnd e2 ?_)
    exact ca5_23 hn 5 0 n _ (by decide) (cc5_eq g2 (by omega)) (by omega)
  | succ d ih =>
    intro p q y h1 h2 hq
    obtain ⟨q, rfl⟩ : ∃ z, q = z + 1 := ⟨q - 1, by omega⟩
    show RS5 md m (B_X12_carryAll_101 n 15 (L_X12_carryAll_101 n 15 q) (p : Int) y)
    unfold B_X12_carryAll_101
    simp only [zM1, zM2, zM3, zM4, zM5, zM6, zM7, zM8, zM9, zM10, zM11, zM12, zM13, zM14, zM15, zM16, zM17, zM18, zM19, zM20, zM21, zM22, zM23, zM24, zM25, zM26, zM27, zM28, zM29, Int.toNat_natCast]
    rw [if_neg (by omega)]
    obtain ⟨v1, y1, e1, g1⟩ := cc5_step (n := n) h2 ((pos_p (i := 1) (j := p) (by decide) (by decide) (by omega)).trans (by omega)) (by omega)
    obtain ⟨v2, y2, e2, g2⟩ := cc5_step (n := n) g1 ((pos_p (i := 2) (j := p) (by decide) (by decide) (by omega)).trans (by omega)) (by omega)
    obtain ⟨v3, y3, e3, g3⟩ := cc5_step (n := n) g2 ((pos_p (i := 3) (j := p) (by decide) (by decide) (by omega)).trans (by omega)) (by omega)
    obtain ⟨v4, y4, e4, g4⟩ := cc5_step (n := n) g3 ((pos_p (i := 4) (j := p) (by decide) (by decide) (by omega)).trans (by omega)) (by omega)
    obtain ⟨v5, y5, e5, g5⟩ := cc5_step (n := n) g4 ((pos_p (i := 5) (j := p) (by decide) (by decide) (by omega)).trans (by omega)) (by omega)
    obtain ⟨v6, y6, e6, g6⟩ := cc5_step (n := n) g5 ((pos_21 (j := p) (by omega)).trans (by omega)) (by omega)
    obtain ⟨v7, y7, e7, g7⟩ := cc5_step (n := n) g6 ((pos_22 (j := p) (by omega)).trans (by omega)) (by omega)
    refine RS5_chk (by omega) (RS5_bnd e1 (RS5_chk (by omega) (RS5_chk (by omega) (RS5_bnd e2 (RS5_chk (by omega) (RS5_chk (by omega) (RS5_bnd e3 (RS5_chk (by omega) (RS5_chk (by omega) (RS5_bnd e4 (RS5_chk (by omega) (RS5_chk (by omega) (RS5_bnd e5 (RS5_chk (by omega) (RS5_chk (by omega) (RS5_bnd e6 (RS5_chk (by omega) (RS5_chk (by omega) (RS5_bnd e7 (RS5_chk (by omega) (RS5_chk (by omega) ?_)))))))))))))))))))))
    rw [cast1]
    exact ih (p + 1) q _ (by omega) (cc5_eq g7 (by omega)) (by omega)
theorem M_carryAll5 (hn : 10000 ≤ n) (hmd : md = 0 ∨ md = 1) (m : ZMem) : RS5 md m (F_X12_carryAll n 15 md m) := by
  have h0 : CC5 md m 0 (wr (wr (wr m 0 31 (15 : Int)) 0 30 md) 0 29 0) := by
    refine ⟨⟨wr_eq, ?_, ?_⟩, ?_⟩
    · rw [wr_nk (by decide), wr_eq]
    · rw [wr_nk (by decide), wr_nk (by decide), wr_eq]
    · have g : ∀ i j, ¬ (i = 0 ∧ 29 ≤ j ∧ j ≤ 31) → wr (wr (wr m 0 31 (15 : Int)) 0 30 md) 0 29 0 i j = m i j := by
        intro i j hij
        rw [wr_ne (by omega), wr_ne (by omega), wr_ne (by omega)]
      rcases hmd with e | e
      · exact Or.inr ⟨e, fun i j hij => by omega, fun i j _ hj => g i j hj⟩
      · exact Or.inl ⟨e, fun i j hij => by omega, fun i j _ hj => g i j hj⟩
  unfold F_X12_carryAll
  refine RS5_chk hmd ?_
  obtain ⟨v1, y1, e1, g1⟩ := cc5_step (n := n) (r := 0) (k := 0) h0 rfl (by decide)
  obtain ⟨v2, y2, e2, g2⟩ := cc5_step (n := n) (r := 0) (k := 1) g1 rfl (by decide)
  obtain ⟨v3, y3, e3, g3⟩ := cc5_step (n := n) (r := 0) (k := 2) g2 rfl (by decide)
  obtain ⟨v4, y4, e4, g4⟩ := cc5_step (n := n) (r := 0) (k := 3) g3 rfl (by decide)
  obtain ⟨v5, y5, e5, g5⟩ := cc5_step (n := n) (r := 0) (k := 4) g4 rfl (by decide)
  obtain ⟨v6, y6, e6, g6⟩ := cc5_step (n := n) (r := 0) (k := 5) g5 rfl (by decide)
  obtain ⟨v7, y7, e7, g7⟩ := cc5_step (n := n) (r := 0) (k := 6) g6 rfl (by decide)
  exact RS5_bnd e1 (RS5_bnd e2 (RS5_bnd e3 (RS5_bnd e4 (RS5_bnd e5 (RS5_bnd e6 (RS5_bnd e7 (ca5_1 hn 8 0 n _ (by decide) g7 (by omega))))))))

end ZBOK
