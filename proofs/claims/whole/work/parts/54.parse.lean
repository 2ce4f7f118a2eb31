/-! THE PARSE of a book: what is read, and how the class reads it -/
def ltr (S : Nat) (A : Nat → Int) (p : Nat) : Int := if p < S then A p else 0
/-- one sign of a form at p: whether it is there, where one stands then, what it tells -/
def rdR (S : Nat) (A : Nat → Int) (g : Int) (p : Nat) : Bool × Nat × Int :=
  if g = 49 then (if 48 ≤ ltr S A p ∧ ltr S A p ≤ 57 then (true, p + 1, ltr S A p - 48) else (false, p, 0))
  else if g = 50 then (if 48 ≤ ltr S A p ∧ ltr S A p ≤ 57 then (if 48 ≤ ltr S A (p + 1) ∧ ltr S A (p + 1) ≤ 57 then (true, p + 2, 10 * (ltr S A p - 48) + (ltr S A (p + 1) - 48)) else (true, p + 1, ltr S A p - 48)) else (false, p, 0))
  else if g = 51 then (if 48 ≤ ltr S A p ∧ ltr S A p ≤ 57 then (if 48 ≤ ltr S A (p + 1) ∧ ltr S A (p + 1) ≤ 57 then (true, p + 2, 10 * (ltr S A p - 48) + (ltr S A (p + 1) - 48)) else (false, p + 1, 0)) else (false, p, 0))
  else if g = 79 then (if ltr S A p = 111 then (true, p + 1, 0) else if ltr S A p = 113 then (true, p + 1, 1) else (false, p, 0))
  else (if ltr S A p = g then (true, p + 1, 0) else (false, p, 0))
def stepM (S : Nat) (A : Nat → Int) (g : Int) (st : Bool × Nat) : Bool × Nat := if st.1 = true then ((rdR S A g st.2).1, (rdR S A g st.2).2.1) else (false, st.2)
def stq (S : Nat) (A : Nat → Int) (sg : Nat → Int) (p : Nat) : Nat → Bool × Nat
  | 0 => (true, p)
  | i + 1 => stepM S A (sg i) (stq S A sg p i)
def hv (g : Int) : Nat := if g = 49 then 1 else if g = 50 then 1 else if g = 51 then 1 else if g = 79 then 1 else 0
def cntv (sg : Nat → Int) : Nat → Nat
  | 0 => 0
  | i + 1 => cntv sg i + hv (sg i)
/-- what the t-th number told is; jm: which sign tells it -/
def tv (S : Nat) (A : Nat → Int) (sg : Nat → Int) (jm : Nat → Nat) (p : Nat) (t : Nat) : Int := (rdR S A (sg (jm t)) (stq S A sg p (jm t)).2).2.2
theorem rd_le {S : Nat} {A : Nat → Int} (g : Int) (p : Nat) : p ≤ (rdR S A g p).2.1 ∧ (rdR S A g p).2.1 ≤ p + 2 := by
  unfold rdR
  repeat' split
  all_goals
    dsimp only
    omega
theorem rd_in {S : Nat} {A : Nat → Int} {g : Int} (hg : g ≠ 0) {p : Nat} (hp : p ≤ S) : (rdR S A g p).2.1 ≤ S := by
  have a : ∀ q, ¬ q < S → ltr S A q = 0 := fun q hq => by unfold ltr; rw [if_neg hq]
  have b : ∀ q, ltr S A q ≠ 0 → q < S := fun q hq => by
    by_cases e : q < S
    · exact e
    · exact absurd (a q e) hq
  unfold rdR
  repeat' split
  all_goals
    dsimp only
    first
    | exact hp
    | (have := b p (by omega); have := b (p + 1) (by omega); omega)
    | (have := b p (by omega); omega)
theorem rd_go {S : Nat} {A : Nat → Int} {g : Int} {p : Nat} (h : (rdR S A g p).1 = true) : p + 1 ≤ (rdR S A g p).2.1 := by
  revert h
  unfold rdR
  repeat' split
  all_goals
    dsimp only
    intro h
    first
    | omega
    | cases h
def kT (i j : Nat) : Bool := decide (i ≠ 44) && !(decide (i = 43) && decide (j = 3)) && !(decide (i = 40) && decide (j = 2))
/-- the letters, and room for what is told -/
def LB (S : Nat) (A : Nat → Int) (y : ZMem) : Prop := TB y 41 96 1 ∧ y 41 3 = (S : Int) ∧ (∀ j, j < S → y 42 j = A j ∧ 0 ≤ A j ∧ A j ≤ 255)
/-- place p, k numbers told -/
def XR (y0 : ZMem) (p k : Nat) (y : ZMem) : Prop := AG kT y0 y ∧ TB y 43 5 1 ∧ y 40 2 = (p : Int) ∧ y 43 3 = (k : Int)
section ZPAR
variable {y y0 : ZMem} {n S : Nat} {A : Nat → Int}
theorem LB_ag (h : LB S A y0) (hA : AG kT y0 y) : LB S A y := by
  obtain ⟨h1, h2, h3⟩ := h
  refine ⟨TB_fr h1 (hA _ _ rfl) (hA _ _ rfl) (hA _ _ rfl), by rw [hA 41 3 rfl]; exact h2, fun j hj => ?_⟩
  rw [hA 42 j rfl]
  exact h3 j hj
theorem X_ltr (h : LB S A y) (p : Nat) : F_X9_at n 41 (p : Int) 0 y = some (ltr S A p, y) := by
  obtain ⟨h1, h2, h3⟩ := h
  unfold ltr
  by_cases e : p < S
  · rw [if_pos e, ← (h3 p e).1]
    exact X_at0 h1 (by omega)
  · rw [if_neg e]
    exact X_at_out (Or.inr (by omega))
theorem ltr_bd (h : LB S A y) (p : Nat) : 0 ≤ ltr S A p ∧ ltr S A p ≤ 255 := by
  unfold ltr
  split
  · rename_i e
    exact (h.2.2 p e).2
  · decide
theorem X_tell (hn : 10000 ≤ n) {p k : Nat} (h : XR y0 p k y) (hk : k < 5) (v : Int) : F_X9_add n 43 v y = some ((k : Int), addT y 43 1 v) ∧ XR y0 p (k + 1) (addT y 43 1 v) ∧ addT y 43 1 v 44 k = v ∧ ∀ j, j < k → addT y 43 1 v 44 j = y 44 j := by
  obtain ⟨h1, h2, h3, h4⟩ := h
  have e := X_add (n := n) (v := v) h2 hn (by omega)
  rw [h4] at e
  refine ⟨e, ⟨h1.addT (fun _ => rfl) rfl, TB_add h2 (by omega), ?_, by rw [addT_sz, h4]; omega⟩, ?_, fun j hj => ?_⟩
  · unfold addT
    rw [wr_nr (by decide)]
    simp only [adT]
    rw [if_neg (fun z => absurd z.1 (by decide))]
    exact h3
  · have := addT1_get y 43 k v
    rw [h4, Int.toNat_natCast, if_pos rfl] at this
    exact this
  · have := addT1_get y 43 j v
    rw [h4, Int.toNat_natCast, if_neg (by omega)] at this
    exact this
theorem XR_place {p k p' : Nat} (h : XR y0 p k y) : XR y0 p' k (wr y 40 2 (p' : Int)) := ⟨h.1.wr rfl, TB_fr h.2.1 (wr_nr (by decide)) (wr_nr (by decide)) (wr_nr (by decide)), wr_eq, by rw [wr_nr (by decide)]; exact h.2.2.2⟩
/-- what a sign leaves behind -/
def SGN (S : Nat) (A : Nat → Int) (y0 y : ZMem) (g : Int) (p k : Nat) (o : ZR) : Prop := ∃ y', o = some (b01 (rdR S A g p).1, y') ∧ AG kT y0 y' ∧ y' 40 2 = ((rdR S A g p).2.1 : Int) ∧ TB y' 43 5 1 ∧ ((rdR S A g p).1 = true → y' 43 3 = ((k + hv g : Nat) : Int) ∧ (hv g = 1 → y' 44 k = (rdR S A g p).2.2) ∧ ∀ j, j < k → y' 44 j = y 44 j)
/-- a number told at the end of reading -/
theorem num_end (hn : 10000 ≤ n) {p k : Nat} (h : XR y0 p k y) (hk : k < 5) {few c : Int} {v : Int} {ok : Bool} (hok : ok = decide (¬ c < few)) {yb : ZMem} (hyb : ∀ j, y 44 j = yb 44 j) : ∃ y', bnd (F_X9_add n 43 v y) (fun v7 m8 => if c < few then some (0, m8) else some (1, m8)) = some (b01 ok, y') ∧ AG kT y0 y' ∧ y' 40 2 = (p : Int) ∧ TB y' 43 5 1 ∧ (ok = true → y' 43 3 = ((k + 1 : Nat) : Int) ∧ y' 44 k = v ∧ ∀ j, j < k → y' 44 j = yb 44 j) := by
  obtain ⟨e, hX, h1, h2⟩ := X_tell hn h hk v
  refine ⟨addT y 43 1 v, ?_, hX.1, hX.2.2.1, hX.2.1, fun _ => ⟨hX.2.2.2, h1, fun j hj => by rw [h2 j hj]; exact hyb j⟩⟩
  rw [E_bnd e rfl, hok]
  by_cases z : c < few
  · rw [if_pos z, show decide (¬ c < few) = false by rw [decide_eq_false_iff_not]; exact fun q => q z]
    rfl
  · rw [if_neg z, show decide (¬ c < few) = true by rw [decide_eq_true_eq]; exact z]
    rfl
/-- numberRead: the digit at p, then perhaps one more -/
theorem X_num (hL : LB S A y0) (hn : 10000 ≤ n) {p k : Nat} (h : XR y0 p k y) (hk : k < 5) (hp : p ≤ 200) {few most : Int} (hfm : (few = 1 ∧ most = 1) ∨ (few = 1 ∧ most = 2) ∨ (few = 2 ∧ most = 2)) {g : Int} (hg : g = if most = 1 then 49 else if few = 1 then 50 else 51) : SGN S A y0 y g p k (F_X1_numberRead n few most y) := by
  have hLy := LB_ag hL h.1
  have b0 := ltr_bd hL p
  have b1 := ltr_bd hL (p + 1)
  have hv1 : hv g = 1 := by
    rw [hg]
    rcases hfm with ⟨rfl, rfl⟩ | ⟨rfl, rfl⟩ | ⟨rfl, rfl⟩ <;> rfl
  obtain ⟨q, rfl⟩ : ∃ q, n = q + 3 := ⟨n - 3, by omega⟩
  have hy2 : y 40 2 = (p : Int) := h.2.2.1
  have hA1 : XR y0 (p + 1) k (wr y 40 2 ((p + 1 : Nat) : Int)) := XR_place h
  have hA2 : XR y0 (p + 2) k (wr (wr y 40 2 ((p + 1 : Nat) : Int)) 40 2 ((p + 2 : Nat) : Int)) := XR_place hA1
  have w44 : ∀ j, wr y 40 2 ((p + 1 : Nat) : Int) 44 j = y 44 j := fun j => wr_nr (by decide)
  have w44' : ∀ j, wr (wr y 40 2 ((p + 1 : Nat) : Int)) 40 2 ((p + 2 : Nat) : Int) 44 j = y 44 j := fun j => by rw [wr_nr (by decide), wr_nr (by decide)]
  -- the three ends
  have endN : ∀ {y1 : ZMem} {p1 : Nat} {c v : Int}, XR y0 p1 k y1 → (∀ j, y1 44 j = y 44 j) → (rdR S A g p).1 = decide (¬ c < few) → (rdR S A g p).2.1 = p1 → ((rdR S A g p).1 = true → (rdR S A g p).2.2 = v) → SGN S A y0 y g p k (bnd (F_X9_add (q + 3) 43 v y1) (fun v7 m8 => if c < few then some (0, m8) else some (1, m8))) := by
    intro y1 p1 c v hX hy r1 r2 r3
    obtain ⟨y', e, g1, g2, g3, g4⟩ := num_end (v := v) hn hX hk r1 hy
    refine ⟨y', e, g1, by rw [r2]; exact g2, g3, fun hok => ?_⟩
    obtain ⟨a, b, d⟩ := g4 hok
    rw [hv1]
    exact ⟨a, fun _ => by rw [b, r3 hok], d⟩
  have eL : F_X1_numberRead (q + 3) few most y = B_X1_numberRead_19 (q + 3) (L_X1_numberRead_19 (q + 3) (q + 2)) few most 0 0 (ltr S A p) y := by
    unfold F_X1_numberRead
    rw [hy2, E_bnd (X_ltr hLy p) rfl]
    rfl
  rw [eL]
  unfold B_X1_numberRead_19
  rw [if_neg (by rcases hfm with ⟨-, rfl⟩ | ⟨-, rfl⟩ | ⟨-, rfl⟩ <;> decide)]
  by_cases d0 : 48 ≤ ltr S A p ∧ ltr S A p ≤ 57
  · rw [if_neg (by omega), if_neg (by omega), chk_pos (by omega), chk_pos (by omega), chk_pos (by omega), chk_pos (by decide), hy2, chk_pos (by omega), cast1, wr_eq]
    rw [E_bnd (X_ltr (LB_ag hL hA1.1) (p + 1)) rfl]
    rw [show 10 * (0 : Int) + ltr S A p - 48 = ltr S A p - 48 by omega, show (0 : Int) + 1 = 1 from rfl]
    show SGN S A y0 y g p k (B_X1_numberRead_19 (q + 3) (L_X1_numberRead_19 (q + 3) (q + 1)) few most (ltr S A p - 48) 1 (ltr S A (p + 1)) (wr y 40 2 ((p + 1 : Nat) : Int)))
    unfold B_X1_numberRead_19
    rcases hfm with ⟨rfl, rfl⟩ | ⟨rfl, rfl⟩ | ⟨rfl, rfl⟩
    · -- one digit
      have hg' : g = 49 := hg
      subst hg'
      have r : rdR S A 49 p = (true, p + 1, ltr S A p - 48) := by unfold rdR; rw [if_pos rfl, if_pos d0]
      rw [if_pos (by decide)]
      exact endN hA1 w44 (by rw [r]; rfl) (by rw [r]) (by rw [r]; exact fun _ => rfl)
    · have hg' : g = 50 := hg
      subst hg'
      rw [if_neg (by decide)]
      by_cases d1 : 48 ≤ ltr S A (p + 1) ∧ ltr S A (p + 1) ≤ 57
      · have r : rdR S A 50 p = (true, p + 2, 10 * (ltr S A p - 48) + (ltr S A (p + 1) - 48)) := by unfold rdR; rw [if_neg (by decide), if_pos rfl, if_pos d0, if_pos d1]
        rw [if_neg (by omega), if_neg (by omega), chk_pos (by omega), chk_pos (by omega), chk_pos (by omega), chk_pos (by decide), wr_eq, chk_pos (by omega), show ((p + 1 : Nat) : Int) + 1 = ((p + 2 : Nat) : Int) by omega, wr_eq, E_bnd (X_ltr (LB_ag hL hA2.1) (p + 2)) rfl]
        show SGN S A y0 y 50 p k (B_X1_numberRead_19 (q + 3) (L_X1_numberRead_19 (q + 3) q) 1 2 _ 2 (ltr S A (p + 2)) _)
        unfold B_X1_numberRead_19
        rw [if_pos (by decide)]
        exact endN hA2 w44' (by rw [r]; rfl) (by rw [r]) (by rw [r]; exact fun _ => by show 10 * (ltr S A p - 48) + (ltr S A (p + 1) - 48) = _; omega)
      · have r : rdR S A 50 p = (true, p + 1, ltr S A p - 48) := by unfold rdR; rw [if_neg (by decide), if_pos rfl, if_pos d0, if_neg d1]
        have ee : SGN S A y0 y 50 p k (bnd (F_X9_add (q + 3) 43 (ltr S A p - 48) (wr y 40 2 ((p + 1 : Nat) : Int))) (fun v7 m8 => if (1 : Int) < 1 then some (0, m8) else some (1, m8))) := endN hA1 w44 (by rw [r]; rfl) (by rw [r]) (by rw [r]; exact fun _ => rfl)
        by_cases z : ltr S A (p + 1) < 48
        · rw [if_pos z]
          exact ee
        · rw [if_neg z, if_pos (by omega)]
          exact ee
    · have hg' : g = 51 := hg
      subst hg'
      rw [if_neg (by decide)]
      by_cases d1 : 48 ≤ ltr S A (p + 1) ∧ ltr S A (p + 1) ≤ 57
      · have r : rdR S A 51 p = (true, p + 2, 10 * (ltr S A p - 48) + (ltr S A (p + 1) - 48)) := by unfold rdR; rw [if_neg (by decide), if_neg (by decide), if_pos rfl, if_pos d0, if_pos d1]
        rw [if_neg (by omega), if_neg (by omega), chk_pos (by omega), chk_pos (by omega), chk_pos (by omega), chk_pos (by decide), wr_eq, chk_pos (by omega), show ((p + 1 : Nat) : Int) + 1 = ((p + 2 : Nat) : Int) by omega, wr_eq, E_bnd (X_ltr (LB_ag hL hA2.1) (p + 2)) rfl]
        show SGN S A y0 y 51 p k (B_X1_numberRead_19 (q + 3) (L_X1_numberRead_19 (q + 3) q) 2 2 _ 2 (ltr S A (p + 2)) _)
        unfold B_X1_numberRead_19
        rw [if_pos (by decide)]
        exact endN hA2 w44' (by rw [r]; rfl) (by rw [r]) (by rw [r]; exact fun _ => by show 10 * (ltr S A p - 48) + (ltr S A (p + 1) - 48) = _; omega)
      · have r : rdR S A 51 p = (false, p + 1, 0) := by unfold rdR; rw [if_neg (by decide), if_neg (by decide), if_pos rfl, if_pos d0, if_neg d1]
        have ee : SGN S A y0 y 51 p k (bnd (F_X9_add (q + 3) 43 (ltr S A p - 48) (wr y 40 2 ((p + 1 : Nat) : Int))) (fun v7 m8 => if (1 : Int) < 2 then some (0, m8) else some (1, m8))) := endN hA1 w44 (by rw [r]; rfl) (by rw [r]) (by rw [r]; exact fun z => by cases z)
        by_cases z : ltr S A (p + 1) < 48
        · rw [if_pos z]
          exact ee
        · rw [if_neg z, if_pos (by omega)]
          exact ee
  · have r : rdR S A g p = (false, p, 0) := by
      have hg3 : g = 49 ∨ g = 50 ∨ g = 51 := by
        rw [hg]
        rcases hfm with ⟨rfl, rfl⟩ | ⟨rfl, rfl⟩ | ⟨rfl, rfl⟩
        · exact Or.inl rfl
        · exact Or.inr (Or.inl rfl)
        · exact Or.inr (Or.inr rfl)
      unfold rdR
      rcases hg3 with z | z | z
      · rw [if_pos z, if_neg d0]
      · rw [if_neg (by omega), if_pos z, if_neg d0]
      · rw [if_neg (by omega), if_neg (by omega), if_pos z, if_neg d0]
    have few1 : (0 : Int) < few := by rcases hfm with ⟨rfl, -⟩ | ⟨rfl, -⟩ | ⟨rfl, -⟩ <;> decide
    have ee : SGN S A y0 y g p k (bnd (F_X9_add (q + 3) 43 0 y) (fun v7 m8 => if (0 : Int) < few then some (0, m8) else some (1, m8))) := endN h (fun _ => rfl) (by rw [r, decide_eq_false (fun z => z few1)]) (by rw [r]) (by rw [r]; exact fun z => by cases z)
    by_cases z : ltr S A p < 48
    · rw [if_pos z]
      exact ee
    · rw [if_neg z, if_pos (by omega)]
      exact ee
theorem X_shape (hL : LB S A y0) (hn : 10000 ≤ n) {p k : Nat} (h : XR y0 p k y) (hk : k < 5) (hp : p ≤ 200) : SGN S A y0 y 79 p k (F_X1_shapeRead n y) := by
  have hLy := LB_ag hL h.1
  have hy2 : y 40 2 = (p : Int) := h.2.2.1
  have fin : ∀ v : Int, rdR S A 79 p = (true, p + 1, v) → SGN S A y0 y 79 p k (bnd (F_X9_add n 43 v y) (fun v9 m10 => chk (R32 ((m10 40 2) + 1)) (some (1, (wr m10 40 2 ((m10 40 2) + 1)))))) := by
    intro v r
    obtain ⟨e, hX, h1, h2⟩ := X_tell hn h hk v
    have hX2 : XR y0 (p + 1) (k + 1) (wr (addT y 43 1 v) 40 2 ((p + 1 : Nat) : Int)) := XR_place hX
    refine ⟨wr (addT y 43 1 v) 40 2 ((p + 1 : Nat) : Int), ?_, hX2.1, by rw [r]; exact hX2.2.2.1, hX2.2.1, fun _ => ⟨hX2.2.2.2, fun _ => ?_, fun j hj => ?_⟩⟩
    · rw [E_bnd e rfl, hX.2.2.1, chk_pos (by omega), cast1, r]
      rfl
    · rw [r, wr_nr (by decide)]
      exact h1
    · rw [wr_nr (by decide)]
      exact h2 j hj
  unfold F_X1_shapeRead
  rw [hy2, E_bnd (X_ltr hLy p) rfl]
  by_cases c1 : ltr S A p = 111
  · rw [if_pos c1]
    unfold B_X1_shapeRead_27
    rw [if_neg (by omega)]
    exact fin 0 (by unfold rdR; rw [if_neg (by decide), if_neg (by decide), if_neg (by decide), if_pos rfl, if_pos c1])
  · rw [if_neg c1]
    by_cases c2 : ltr S A p = 113
    · rw [if_pos c2]
      unfold B_X1_shapeRead_27
      rw [if_pos c2]
      exact fin 1 (by unfold rdR; rw [if_neg (by decide), if_neg (by decide), if_neg (by decide), if_pos rfl, if_neg c1, if_pos c2])
    · rw [if_neg c2]
      have r : rdR S A 79 p = (false, p, 0) := by unfold rdR; rw [if_neg (by decide), if_neg (by decide), if_neg (by decide), if_pos rfl, if_neg c1, if_neg c2]
      exact ⟨y, by rw [r]; rfl, h.1, by rw [r]; exact hy2, h.2.1, by rw [r]; exact fun z => by cases z⟩
theorem X_sign (hL : LB S A y0) (hn : 10000 ≤ n) {p k : Nat} (h : XR y0 p k y) (hp : p ≤ 200) (g : Int) (hk : hv g = 1 → k < 5) : SGN S A y0 y g p k (F_X1_signRead n g y) := by
  have hLy := LB_ag hL h.1
  have hy2 : y 40 2 = (p : Int) := h.2.2.1
  unfold F_X1_signRead
  by_cases g1 : g = 49
  · subst g1
    rw [if_pos rfl, bnd_id]
    exact X_num hL hn h (hk rfl) hp (Or.inl ⟨rfl, rfl⟩) rfl
  rw [if_neg g1]
  by_cases g2 : g = 50
  · subst g2
    rw [if_pos rfl, bnd_id]
    exact X_num hL hn h (hk rfl) hp (Or.inr (Or.inl ⟨rfl, rfl⟩)) rfl
  rw [if_neg g2]
  by_cases g3 : g = 51
  · subst g3
    rw [if_pos rfl, bnd_id]
    exact X_num hL hn h (hk rfl) hp (Or.inr (Or.inr ⟨rfl, rfl⟩)) rfl
  rw [if_neg g3]
  by_cases g4 : g = 79
  · subst g4
    rw [if_pos rfl, bnd_id]
    exact X_shape hL hn h (hk rfl) hp
  rw [if_neg g4, hy2, E_bnd (X_ltr hLy p) rfl]
  have hv0 : hv g = 0 := by unfold hv; rw [if_neg g1, if_neg g2, if_neg g3, if_neg g4]
  by_cases c1 : ltr S A p = g
  · have r : rdR S A g p = (true, p + 1, 0) := by unfold rdR; rw [if_neg g1, if_neg g2, if_neg g3, if_neg g4, if_pos c1]
    have hX : XR y0 (p + 1) k (wr y 40 2 ((p + 1 : Nat) : Int)) := XR_place h
    rw [if_pos c1, hy2, chk_pos (by omega), cast1]
    refine ⟨wr y 40 2 ((p + 1 : Nat) : Int), by rw [r]; rfl, hX.1, by rw [r]; exact hX.2.2.1, hX.2.1, fun _ => ⟨by rw [hv0]; exact hX.2.2.2, ?_, fun j _ => wr_nr (by decide)⟩⟩
    intro z
    rw [hv0] at z
    cases z
  · have r : rdR S A g p = (false, p, 0) := by unfold rdR; rw [if_neg g1, if_neg g2, if_neg g3, if_neg g4, if_neg c1]
    rw [if_neg c1]
    exact ⟨y, by rw [r]; rfl, h.1, by rw [r]; exact hy2, h.2.1, by rw [r]; exact fun z => by cases z⟩
end ZPAR
