/-! OPERATIONS 5: guests (the oldest of eight is dropped) -/
/-- row i, its first k cells moved one down -/
def shR (m : ZMem) (i k : Nat) : ZMem := fun a b => if a = i ∧ b < k then m i (b + 1) else m a b
theorem shR_0 (m : ZMem) (i : Nat) : shR m i 0 = m := by
  funext a b
  unfold shR
  rw [if_neg (by omega)]
theorem shR_at (m : ZMem) (i k b : Nat) (h : k ≤ b) : shR m i k i b = m i b := by
  unfold shR
  rw [if_neg (by omega)]
theorem shR_lt (m : ZMem) (i k b : Nat) (h : b < k) : shR m i k i b = m i (b + 1) := by
  unfold shR
  rw [if_pos ⟨rfl, h⟩]
theorem shR_nr (m : ZMem) (i k a b : Nat) (h : a ≠ i) : shR m i k a b = m a b := by
  unfold shR
  rw [if_neg (by omega)]
theorem shR_s (m : ZMem) (i k : Nat) : wr (shR m i k) i k (shR m i k i (k + 1)) = shR m i (k + 1) := by
  rw [shR_at _ _ _ _ (by omega)]
  funext a b
  unfold wr shR
  by_cases h1 : a = i
  · subst h1
    by_cases h2 : b = k
    · subst h2
      rw [if_pos ⟨rfl, rfl⟩, if_pos ⟨rfl, by omega⟩]
    · rw [if_neg (by omega)]
      by_cases h3 : b < k
      · rw [if_pos ⟨rfl, h3⟩, if_pos ⟨rfl, by omega⟩]
      · rw [if_neg (by omega), if_neg (by omega)]
  · rw [if_neg (by omega), if_neg (by omega), if_neg (by omega)]
theorem AG.sh {keep : Nat → Nat → Bool} {m m' : ZMem} {i k : Nat} (h : AG keep m m') (hk : ∀ j, keep i j = false) : AG keep m (shR m' i k) := by
  intro a b hab
  rw [shR_nr]
  · exact h a b hab
  · rintro rfl
    rw [hk] at hab
    cases hab
section ZOP5
variable {x s m : ZMem} {c n : Nat}
theorem X_dropFirst {t R : Nat} (h : TB x t R 1) (ht : t ≠ t + 1) (hn : 10000 ≤ n) {K : Nat} (hK : x t 3 = ((K + 1 : Nat) : Int)) (hR : K + 1 ≤ R) (hR2 : R ≤ 5000) : F_X9_dropFirst n t x = some (0, wr (shR x (t + 1) K) t 3 (K : Int)) := by
  obtain ⟨h1, h2, h3, h4⟩ := h
  have tb : ∀ k, TB (shR x (t + 1) k) t R 1 := fun k => TB_fr ⟨h1, h2, h3, h4⟩ (shR_nr _ _ _ _ _ ht) (shR_nr _ _ _ _ _ ht) (shR_nr _ _ _ _ _ ht)
  have e3 : ∀ k, shR x (t + 1) k t 3 = ((K + 1 : Nat) : Int) := fun k => by rw [shR_nr _ _ _ _ _ ht]; exact hK
  have e2 : ∀ k, shR x (t + 1) k t 2 = 1 := fun k => by rw [shR_nr _ _ _ _ _ ht]; exact h2
  have key := loop_run (L := fun q (z : Int × ZMem) => L_X9_dropFirst_2 n t q z.1 z.2) K (fun k => (((k + 1 : Nat) : Int), shR x (t + 1) k)) (some (0, wr (shR x (t + 1) K) t 3 (K : Int))) ?_ ?_ n (by omega)
  · rw [shR_0] at key
    exact key
  · intro k q hk
    show B_X9_dropFirst_2 n t (L_X9_dropFirst_2 n t q) ((k + 1 : Nat) : Int) (shR x (t + 1) k) = L_X9_dropFirst_2 n t q ((k + 1 + 1 : Nat) : Int) (shR x (t + 1) (k + 1))
    unfold B_X9_dropFirst_2
    rw [e3, if_neg (by omega)]
    obtain ⟨p, hp⟩ : ∃ p, n = p + 2 := ⟨n - 2, by omega⟩
    have g : ∀ p, L_X9_dropFirst_12 n t (L_X9_dropFirst_2 n t q) (p + 2) ((k + 1 : Nat) : Int) 0 (shR x (t + 1) k) = L_X9_dropFirst_2 n t q ((k + 1 + 1 : Nat) : Int) (shR x (t + 1) (k + 1)) := by
      intro p
      show B_X9_dropFirst_12 n t (L_X9_dropFirst_2 n t q) (L_X9_dropFirst_12 n t (L_X9_dropFirst_2 n t q) (p + 1)) ((k + 1 : Nat) : Int) 0 (shR x (t + 1) k) = _
      unfold B_X9_dropFirst_12
      rw [e2, if_neg (by decide), show ((k + 1 : Nat) : Int) - 1 = (k : Int) by omega]
      have pt := X_put0 (n := n) (i := k) (v := shR x (t + 1) k (t + 1) (k + 1)) (tb k) (by rw [e3]; omega)
      rw [shR_s] at pt
      refine E_chk (by omega) (E_bnd (X_at0 (i := k + 1) (tb k) (by rw [e3]; omega)) (E_bnd pt (E_chk (by omega) ?_)))
      show B_X9_dropFirst_12 n t (L_X9_dropFirst_2 n t q) (L_X9_dropFirst_12 n t (L_X9_dropFirst_2 n t q) p) ((k + 1 : Nat) : Int) 1 (shR x (t + 1) (k + 1)) = _
      unfold B_X9_dropFirst_12
      rw [e2, if_pos (by decide)]
      refine E_chk (by omega) ?_
      rw [cast1]
    have g2 := g p
    rw [← hp] at g2
    exact g2
  · intro q
    show B_X9_dropFirst_2 n t (L_X9_dropFirst_2 n t q) ((K + 1 : Nat) : Int) (shR x (t + 1) K) = _
    unfold B_X9_dropFirst_2
    rw [e3, if_pos (by omega)]
    refine E_bnd (X_dropLast (by rw [e3]; omega)) (E_some rfl ?_)
    rw [e3, show max (((K + 1 : Nat) : Int) - 1) 0 = (K : Int) by omega]
theorem M_keep8 (hn : 10000 ≤ n) (h8 : s 0 33 = 8) : F_X12_keepGuests n s = some (0, wr (wr (wr (shR s 17 7) 0 33 7) 17 7 (s 0 1)) 0 33 8) := by
  unfold F_X12_keepGuests
  rw [if_pos h8]
  have z : ∀ k j, shR s 17 k 0 j = s 0 j := fun k j => shR_nr _ _ _ _ _ (by decide)
  have key := loop_run (L := fun q (z : Int × ZMem) => L_X12_keepGuests_11 n q z.1 z.2) 7 (fun k => (((k + 1 : Nat) : Int), shR s 17 k)) (some (0, wr (wr (wr (shR s 17 7) 0 33 7) 17 7 (s 0 1)) 0 33 8)) ?_ ?_ n (by omega)
  · rw [shR_0] at key
    exact key
  · intro k q hk
    show B_X12_keepGuests_11 n (L_X12_keepGuests_11 n q) ((k + 1 : Nat) : Int) (shR s 17 k) = L_X12_keepGuests_11 n q ((k + 1 + 1 : Nat) : Int) (shR s 17 (k + 1))
    unfold B_X12_keepGuests_11
    rw [if_neg (by omega), show ((k + 1 : Nat) : Int) - 1 = (k : Int) by omega]
    simp only [zM17, Int.toNat_natCast, shR_s]
    refine E_chk (by omega) (E_chk (by omega) (E_chk (by omega) (E_chk (by omega) ?_)))
    rw [cast1]
  · intro q
    show B_X12_keepGuests_11 n (L_X12_keepGuests_11 n q) ((7 + 1 : Nat) : Int) (shR s 17 7) = _
    unfold B_X12_keepGuests_11
    rw [if_pos (by decide), z, h8]
    simp (disch := decide) only [wr_nr, wr_nk, wr_eq, zM17, z]
    exact E_chk (by omega) (E_chk (by omega) (E_chk (by omega) rfl))
end ZOP5
