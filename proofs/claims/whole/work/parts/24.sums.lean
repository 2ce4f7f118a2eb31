/-! LOOPS -/
theorem loop_run {σ : Type} (L : Nat → σ → ZR) (K : Nat) (st : Nat → σ) (res : ZR) (hs : ∀ k q, k < K → L (q + 1) (st k) = L q (st (k + 1))) (he : ∀ q, L (q + 1) (st K) = res) (n : Nat) (hn : K < n) : L n (st 0) = res := by
  have key : ∀ d k q, k + d = K → d < q → L q (st k) = res := by
    intro d
    induction d with
    | zero =>
      intro k q hk hq
      obtain ⟨q, rfl⟩ : ∃ q', q = q' + 1 := ⟨q - 1, by omega⟩
      rw [show k = K by omega]
      exact he q
    | succ d ih =>
      intro k q hk hq
      obtain ⟨q, rfl⟩ : ∃ q', q = q' + 1 := ⟨q - 1, by omega⟩
      rw [hs k q (by omega)]
      exact ih (k + 1) q (by omega) (by omega)
  exact key K 0 n (by omega) hn
theorem loop_all {σ : Type} (L : Nat → σ → ZR) (K : Nat) (f : Nat → Bool) (st : Nat → σ) (r1 r0 : ZR) (hs : ∀ k q, k < K → f k = true → L (q + 1) (st k) = L q (st (k + 1))) (hx : ∀ k q, k < K → f k = false → L (q + 1) (st k) = r0) (he : ∀ q, L (q + 1) (st K) = r1) (n : Nat) (hn : K < n) : L n (st 0) = if allS f K = true then r1 else r0 := by
  have key : ∀ d k q, k + d = K → d < q → allS f k = true → L q (st k) = if allS f K = true then r1 else r0 := by
    intro d
    induction d with
    | zero =>
      intro k q hk hq ha
      obtain ⟨q, rfl⟩ : ∃ q', q = q' + 1 := ⟨q - 1, by omega⟩
      have e : k = K := by omega
      subst e
      rw [if_pos ha]
      exact he q
    | succ d ih =>
      intro k q hk hq ha
      obtain ⟨q, rfl⟩ : ∃ q', q = q' + 1 := ⟨q - 1, by omega⟩
      cases hf : f k with
      | true =>
        rw [hs k q (by omega) hf]
        exact ih (k + 1) q (by omega) (by omega) (by simp [allS, ha, hf])
      | false =>
        rw [hx k q (by omega) hf, if_neg]
        rw [allS_no (by omega : k < K) hf]
        decide
  exact key K 0 n (by omega) hn rfl
theorem np_cast {s : ZMem} (hw : WFs s) : s 0 2 = ((s 0 2).toNat : Int) := (Int.toNat_of_nonneg hw.np.1).symm
theorem np_lt {s : ZMem} (hw : WFs s) {k : Nat} (h : k < (s 0 2).toNat) : (k : Int) < s 0 2 := by have := np_cast hw; omega
theorem np_le {s : ZMem} (hw : WFs s) : (s 0 2).toNat ≤ 8 := by have := hw.np; omega
section ZSUM
variable {n : Nat} {x s : ZMem}
def allOffS (s : ZMem) (g : Int) : Int := sumS (fun p => offS s p (s 4 p * g) (s 0 0)) (s 0 2).toNat
/-- tight: how far off in guests' numbers -/
theorem near2 {a b : Int} (ha : 0 ≤ a) (hb : 1 ≤ b) : -b ≤ 2 * (nearS a b * b) - 2 * a ∧ 2 * (nearS a b * b) - 2 * a ≤ b := by
  unfold nearS
  have h1 := Int.mul_ediv_self_le (x := 2 * a + b - 1) (k := 2 * b) (by omega)
  have h2 := Int.lt_mul_ediv_self_add (x := 2 * a + b - 1) (k := 2 * b) (by omega)
  have e : 2 * b * ((2 * a + b - 1) / (2 * b)) = 2 * ((2 * a + b - 1) / (2 * b) * b) := by rw [Int.mul_assoc, Int.mul_comm b]
  omega
theorem up2 {a b : Int} (ha : 0 ≤ a) (hb : 1 ≤ b) : 0 ≤ upS a b * b - a ∧ upS a b * b - a ≤ b - 1 := by
  unfold upS
  have h1 := Int.mul_ediv_self_le (x := a + b - 1) (k := b) (by omega)
  have h2 := Int.lt_mul_ediv_self_add (x := a + b - 1) (k := b) (by omega)
  have e : b * ((a + b - 1) / b) = (a + b - 1) / b * b := Int.mul_comm _ _
  omega
theorem offA_tight (hw : WFs s) {p : Nat} (hp : (p : Int) < s 0 2) {a b : Int} (ha : 0 ≤ a ∧ a ≤ 2400) (hb : 1 ≤ b ∧ b ≤ 24) : 0 ≤ offA s p a b ∧ offA s p a b ≤ 28800 := by
  obtain ⟨h1, h2, h3, h4, -⟩ := hw.pt p hp
  have bs := mul_bd1 hb.1 hb.2 h2.1 h2.2
  have f1 := near2 (a := 12 * a) (b := b) (by omega) hb.1
  have f2 := near2 (a := a) (b := b) (by omega) hb.1
  have f3 := near2 (a := 12 * a) (b := b * s 2 p) (by omega) bs.1
  have f4 := up2 (a := a) (b := b * s 2 p) (by omega) bs.1
  have f5 := mul_bd (a := 12 * s 4 p) (b := b) (A := 1188) (B := 24) (by omega) (by omega) (by omega) hb.2
  have fw : -288 ≤ wholeS a b * b - 12 * a ∧ wholeS a b * b - 12 * a ≤ 288 := by
    unfold wholeS
    split
    · have : 12 * nearS a b * b = 12 * (nearS a b * b) := Int.mul_assoc _ _ _
      omega
    · rename_i hn
      have := (nearS_bd (a := a) (b := b) (by omega) (by omega)).1
      have e0 : nearS a b = 0 := by omega
      rw [e0] at f2
      omega
  unfold offA
  refine zabs_bd (B := 28800) ?_
  unfold takS
  split
  · omega
  split
  · omega
  split
  · have : s 2 p * nearS (12 * a) (b * s 2 p) * b = nearS (12 * a) (b * s 2 p) * (b * s 2 p) := by rw [Int.mul_comm (s 2 p), Int.mul_assoc, Int.mul_comm (s 2 p) b]
    omega
  split
  · have : 12 * s 2 p * upS a (b * s 2 p) * b = 12 * (upS a (b * s 2 p) * (b * s 2 p)) := by
      rw [Int.mul_assoc 12, Int.mul_assoc 12, Int.mul_comm (s 2 p), Int.mul_assoc, Int.mul_comm (s 2 p) b]
    omega
  split
  · omega
  split <;> omega
theorem offS_eq (s : ZMem) (p : Nat) (a b : Int) : offS s p a b = offA s p a b * s 3 p := rfl
theorem offS_tight (hw : WFs s) {p : Nat} (hp : (p : Int) < s 0 2) {g : Int} (hg : 1 ≤ g ∧ g ≤ 24) : 0 ≤ offS s p (s 4 p * g) (s 0 0) ∧ offS s p (s 4 p * g) (s 0 0) ≤ 259200 := by
  obtain ⟨h1, h2, h3, h4, -⟩ := hw.pt p hp
  have a1 := ag_bd hw hp (g := g) (B := 24) (by omega)
  have a2 := offA_tight hw hp (a := s 4 p * g) (b := s 0 0) (by omega) hw.f
  rw [offS_eq]
  have := mul_bd a2.1 a2.2 h3.1 h3.2
  omega
theorem allOff_bd (hw : WFs s) {g : Int} (hg : 1 ≤ g ∧ g ≤ 24) : 0 ≤ allOffS s g ∧ allOffS s g ≤ 2073600 := by
  have := sumS_bd (f := fun p => offS s p (s 4 p * g) (s 0 0)) (B := 259200) (by decide) (s 0 2).toNat (fun i hi => offS_tight hw (np_lt hw hi) hg)
  have h8 := np_le hw
  unfold allOffS
  omega
theorem X_allOff (h : XK x 1 s) (hw : WFs s) (hn : 10000 ≤ n) {g : Int} (hg : 1 ≤ g ∧ g ≤ 24) : F_X3_allOff n g x = some (allOffS s g, x) := by
  have h8 := np_le hw
  refine loop_run (L := fun q (z : Int × Int × ZMem) => L_X3_allOff_4 n q g z.1 z.2.1 z.2.2) (s 0 2).toNat (fun k => (sumS (fun p => offS s p (s 4 p * g) (s 0 0)) k, (k : Int), x)) _ ?_ ?_ n (by omega)
  · intro k q hk
    have a1 := ag_bd hw (np_lt hw hk) (g := g) (B := 24) (by omega)
    have b0 := sumS_bd (f := fun p => offS s p (s 4 p * g) (s 0 0)) (B := 259200) (by decide) k (fun i hi => offS_tight hw (np_lt hw (by omega)) hg)
    have b1 := offS_tight hw (np_lt hw hk) hg
    have hk2 := np_lt hw hk
    show B_X3_allOff_4 n (L_X3_allOff_4 n q) g _ (k : Int) x = L_X3_allOff_4 n q g _ _ x
    unfold B_X3_allOff_4
    refine E_bnd (X_size n 2 x) ?_
    rw [h.s2, if_neg (by omega), h.fm]
    refine E_bnd (X_offAtCost h hw hk2 (by omega) hw.f) (E_chk (by omega) (E_chk (by omega) ?_))
    rw [cast1]
    rfl
  · intro q
    show B_X3_allOff_4 n (L_X3_allOff_4 n q) g _ ((s 0 2).toNat : Int) x = _
    unfold B_X3_allOff_4
    refine E_bnd (X_size n 2 x) ?_
    rw [h.s2, if_pos (by have := np_cast hw; omega)]
    rfl
theorem M_offOf (hw : WFs s) (hn : 10000 ≤ n) {g : Int} (hg : 1 ≤ g ∧ g ≤ 24) : F_X12_offOf n g s = some (allOffS s g, s) := by
  have h8 := np_le hw
  refine loop_run (L := fun q (z : Int × Int × ZMem) => L_X12_offOf_4 n q g z.1 z.2.1 z.2.2) (s 0 2).toNat (fun k => (sumS (fun p => offS s p (s 4 p * g) (s 0 0)) k, (k : Int), s)) _ ?_ ?_ n (by omega)
  · intro k q hk
    have a1 := ag_bd hw (np_lt hw hk) (g := g) (B := 24) (by omega)
    have b0 := sumS_bd (f := fun p => offS s p (s 4 p * g) (s 0 0)) (B := 259200) (by decide) k (fun i hi => offS_tight hw (np_lt hw (by omega)) hg)
    have b1 := offS_tight hw (np_lt hw hk) hg
    have hk2 := np_lt hw hk
    show B_X12_offOf_4 n (L_X12_offOf_4 n q) g _ (k : Int) s = L_X12_offOf_4 n q g _ _ s
    unfold B_X12_offOf_4
    simp only [zM4, Int.toNat_natCast]
    rw [if_neg (by omega)]
    refine E_chk (by omega) (E_chk (by omega) (E_bnd (M_offBy hw hk2 (by omega) hw.f) (E_chk (by omega) (E_chk (by omega) ?_))))
    rw [cast1]
    rfl
  · intro q
    show B_X12_offOf_4 n (L_X12_offOf_4 n q) g _ ((s 0 2).toNat : Int) s = _
    unfold B_X12_offOf_4
    rw [if_pos (by have := np_cast hw; omega)]
    rfl
def greatS (s : ZMem) (g : Int) : Int := maxS (fun p => offS s p (s 4 p * g) 24) (s 0 2).toNat
theorem great_bd (hw : WFs s) {g : Int} (hg : 1 ≤ g ∧ g ≤ 240) : 0 ≤ greatS s g ∧ greatS s g ≤ 63000000 :=
  maxS_bd (by decide) _ (fun i hi => offS_bd hw (np_lt hw hi) (by have := ag_bd hw (np_lt hw hi) (g := g) (B := 240) (by omega); omega) (by decide))
theorem X_greatest (h : XK x 1 s) (hw : WFs s) (hn : 10000 ≤ n) {g : Int} (hg : 1 ≤ g ∧ g ≤ 240) : F_X3_greatestOff n g 24 x = some (greatS s g, x) := by
  have h8 := np_le hw
  refine loop_run (L := fun q (z : Int × Int × ZMem) => L_X3_greatestOff_5 n q g 24 z.1 z.2.1 z.2.2) (s 0 2).toNat (fun k => (maxS (fun p => offS s p (s 4 p * g) 24) k, (k : Int), x)) _ ?_ ?_ n (by omega)
  · intro k q hk
    have a1 := ag_bd hw (np_lt hw hk) (g := g) (B := 240) (by omega)
    have hk2 := np_lt hw hk
    show B_X3_greatestOff_5 n (L_X3_greatestOff_5 n q) g 24 _ (k : Int) x = L_X3_greatestOff_5 n q g 24 _ _ x
    unfold B_X3_greatestOff_5
    refine E_bnd (X_size n 2 x) ?_
    rw [h.s2, if_neg (by omega)]
    refine E_bnd (X_offAtCost h hw hk2 (by omega) (by decide)) (E_chk (by omega) ?_)
    rw [cast1]
    rfl
  · intro q
    show B_X3_greatestOff_5 n (L_X3_greatestOff_5 n q) g 24 _ ((s 0 2).toNat : Int) x = _
    unfold B_X3_greatestOff_5
    refine E_bnd (X_size n 2 x) ?_
    rw [h.s2, if_pos (by have := np_cast hw; omega)]
    rfl
theorem M_greatest (hw : WFs s) (hn : 10000 ≤ n) {g : Int} (hg : 1 ≤ g ∧ g ≤ 240) : F_X12_greatestOff n g s = some (greatS s g, s) := by
  have h8 := np_le hw
  refine loop_run (L := fun q (z : Int × Int × ZMem) => L_X12_greatestOff_4 n q g z.1 z.2.1 z.2.2) (s 0 2).toNat (fun k => (maxS (fun p => offS s p (s 4 p * g) 24) k, (k : Int), s)) _ ?_ ?_ n (by omega)
  · intro k q hk
    have a1 := ag_bd hw (np_lt hw hk) (g := g) (B := 240) (by omega)
    have hk2 := np_lt hw hk
    show B_X12_greatestOff_4 n (L_X12_greatestOff_4 n q) g _ (k : Int) s = L_X12_greatestOff_4 n q g (max (maxS (fun p => offS s p (s 4 p * g) 24) k) (offS s k (s 4 k * g) 24)) ((k + 1 : Nat) : Int) s
    unfold B_X12_greatestOff_4
    simp only [zM4, Int.toNat_natCast]
    rw [if_neg (by omega)]
    refine E_chk (by omega) (E_chk (by omega) (E_bnd (M_offBy hw hk2 (by omega) (by decide)) (E_ite (fun hc => E_chk (by omega) ?_) (fun hc => E_chk (by omega) ?_))))
    · rw [cast1, Int.max_eq_left hc]
    · rw [cast1, Int.max_eq_right (by omega)]
  · intro q
    show B_X12_greatestOff_4 n (L_X12_greatestOff_4 n q) g _ ((s 0 2).toNat : Int) s = _
    unfold B_X12_greatestOff_4
    rw [if_pos (by have := np_cast hw; omega)]
    rfl
/-- the house has enough of a part for g -/
def feedB (s : ZMem) (g : Int) (p : Nat) : Bool := decide (takS s p (s 4 p * g) (s 0 0) ≤ 12 * s 5 p)
def feedS (s : ZMem) (g : Int) : Bool := allS (feedB s g) (s 0 2).toNat
theorem X_feeds (h : XK x 1 s) (hw : WFs s) (hn : 10000 ≤ n) {g : Int} (hg : 1 ≤ g ∧ g ≤ 24) : F_X3_feeds n g x = some (b01 (feedS s g), x) := by
  have h8 := np_le hw
  have key := loop_all (L := fun q (z : Int × ZMem) => L_X3_feeds_2 n q g z.1 z.2) (s 0 2).toNat (feedB s g) (fun k => ((k : Int), x)) (some (1, x)) (some (0, x)) ?_ ?_ ?_ n (by omega)
  · refine Eq.trans key ?_
    unfold feedS b01
    split <;> rfl
  all_goals
    first
    | (intro k q hk hf
       have hk2 := np_lt hw hk
       have hpt := hw.pt k hk2
       show B_X3_feeds_2 n (L_X3_feeds_2 n q) g (k : Int) x = _
       unfold B_X3_feeds_2
       refine E_bnd (X_size n 2 x) ?_
       rw [h.s2, if_neg (by omega)]
       refine E_bnd (X_p4 h hk2) (E_chk (by omega) (E_bnd (X_takenFor h hw hk2 hg) ?_))
       simp only [feedB, decide_eq_true_eq, decide_eq_false_iff_not] at hf
       first
       | (rw [if_pos hf]
          refine E_chk (by omega) ?_
          rw [cast1])
       | rw [if_neg hf])
    | (intro q
       show B_X3_feeds_2 n (L_X3_feeds_2 n q) g _ x = _
       unfold B_X3_feeds_2
       refine E_bnd (X_size n 2 x) ?_
       rw [h.s2, if_pos (by have := np_cast hw; omega)])
theorem M_enough (hw : WFs s) (hn : 10000 ≤ n) {g : Int} (hg : 1 ≤ g ∧ g ≤ 24) : F_X12_isEnough n g s = some (b01 (feedS s g), s) := by
  have h8 := np_le hw
  refine loop_run (L := fun q (z : Int × Int × ZMem) => L_X12_isEnough_4 n q g z.1 z.2.1 z.2.2) (s 0 2).toNat (fun k => (b01 (allS (feedB s g) k), (k : Int), s)) _ ?_ ?_ n (by omega)
  · intro k q hk
    have hk2 := np_lt hw hk
    have hpt := hw.pt k hk2
    show B_X12_isEnough_4 n (L_X12_isEnough_4 n q) g _ (k : Int) s = L_X12_isEnough_4 n q g (b01 (allS (feedB s g) k && feedB s g k)) ((k + 1 : Nat) : Int) s
    unfold B_X12_isEnough_4
    simp only [zM5, Int.toNat_natCast]
    rw [if_neg (by omega)]
    cases ha : allS (feedB s g) k with
    | false =>
      rw [b01_f, if_pos rfl]
      refine E_chk (by omega) ?_
      rw [cast1]
      rfl
    | true =>
      rw [b01_t, if_neg (by decide)]
      refine E_chk (by omega) (E_chk (by omega) (E_bnd (M_takenFor hw hk2 hg) (E_ite (fun hc => E_chk (by omega) ?_) (fun hc => E_chk (by omega) ?_))))
      · rw [cast1, show feedB s g k = false by simp only [feedB, decide_eq_false_iff_not]; omega]
        rfl
      · rw [cast1, show feedB s g k = true by simp only [feedB, decide_eq_true_eq]; omega]
        rfl
  · intro q
    show B_X12_isEnough_4 n (L_X12_isEnough_4 n q) g _ ((s 0 2).toNat : Int) s = _
    unfold B_X12_isEnough_4
    rw [if_pos (by have := np_cast hw; omega)]
    refine E_chk ?_ rfl
    unfold b01
    split
    · exact Or.inr rfl
    · exact Or.inl rfl
end ZSUM
