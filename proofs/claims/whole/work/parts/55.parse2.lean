/-! THE PARSE, second: a statement, on both sides -/
def sgF (f : Nat) : Nat → Int := fun i => zsc f i
def lnF (f : Nat) : Nat := (zsl f).toNat
def jmF (f : Nat) (t : Nat) : Nat := if f = 2 ∧ t = 1 then 3 else t + 1
def fId (a : Int) : Nat := if a = 99 then 5 else if a = 102 then 0 else if a = 104 then 2 else if a = 112 then 1 else if a = 115 then 4 else if a = 116 then 3 else 6
theorem fId_lt (a : Int) : fId a < 7 := by
  unfold fId
  repeat' split
  all_goals decide
def fck (f i : Nat) : Bool := (!(decide (i < lnF f))) || ((!(decide (sgF f i = 0))) && decide (0 ≤ sgF f i) && decide (sgF f i ≤ 255) && ((!(decide (hv (sgF f i) = 1))) || (decide (cntv (sgF f) i < 5) && decide (jmF f (cntv (sgF f) i) = i))))
theorem fck_ok : ∀ f, f < 7 → ∀ i, i < 7 → fck f i = true := by decide +kernel
theorem frm_ok (f : Nat) (hf : f < 7) (i : Nat) (hi : i < 7) (hl : i < lnF f) : (sgF f i ≠ 0 ∧ (0 ≤ sgF f i ∧ sgF f i ≤ 255)) ∧ (hv (sgF f i) = 1 → cntv (sgF f) i < 5 ∧ jmF f (cntv (sgF f) i) = i) := by
  have h := fck_ok f hf i hi
  unfold fck at h
  simp only [hl, decide_true, Bool.not_true, Bool.false_or, Bool.and_eq_true, Bool.not_eq_true', decide_eq_false_iff_not, decide_eq_true_eq, Bool.or_eq_true] at h
  obtain ⟨⟨⟨a, b⟩, c⟩, d⟩ := h
  refine ⟨⟨a, b, c⟩, fun z => ?_⟩
  rcases d with d | d
  · exact absurd z d
  · exact d
theorem ln_bd : ∀ f, f < 7 → lnF f ≤ 7 ∧ zsl f = (lnF f : Int) ∧ (lnF f = 0 ↔ f = 6) := by decide +kernel
section ZPA2
variable {y y0 m m0 : ZMem} {n S : Nat} {A : Nat → Int} {sg : Nat → Int} {jm : Nat → Nat} {p : Nat}
theorem stq_fail {i : Nat} (h : (stq S A sg p i).1 = false) : ∀ d, stq S A sg p (i + d) = stq S A sg p i := by
  intro d
  induction d with
  | zero => rfl
  | succ d ih =>
    show stepM S A (sg (i + d)) (stq S A sg p (i + d)) = _
    rw [ih]
    unfold stepM
    rw [h, if_neg (by decide)]
    exact Prod.ext h.symm rfl
theorem stq_le : ∀ i, p ≤ (stq S A sg p i).2 ∧ (stq S A sg p i).2 ≤ p + 2 * i := by
  intro i
  induction i with
  | zero => exact ⟨Nat.le_refl _, Nat.le_refl _⟩
  | succ i ih =>
    have r := rd_le (S := S) (A := A) (sg i) (stq S A sg p i).2
    show p ≤ (stepM S A (sg i) (stq S A sg p i)).2 ∧ (stepM S A (sg i) (stq S A sg p i)).2 ≤ p + 2 * (i + 1)
    unfold stepM
    split
    · show p ≤ (rdR S A (sg i) (stq S A sg p i).2).2.1 ∧ (rdR S A (sg i) (stq S A sg p i).2).2.1 ≤ _
      omega
    · show p ≤ (stq S A sg p i).2 ∧ (stq S A sg p i).2 ≤ _
      omega
theorem stq_in (hp : p ≤ S) : ∀ i, (∀ j, j < i → sg j ≠ 0) → (stq S A sg p i).2 ≤ S := by
  intro i
  induction i with
  | zero => exact fun _ => hp
  | succ i ih =>
    intro h
    have r := rd_in (S := S) (A := A) (h i (by omega)) (ih fun j hj => h j (by omega))
    show (stepM S A (sg i) (stq S A sg p i)).2 ≤ S
    unfold stepM
    split
    · exact r
    · exact ih fun j hj => h j (by omega)
theorem stq_step {i : Nat} (h : (stq S A sg p i).1 = true) : stq S A sg p (i + 1) = ((rdR S A (sg i) (stq S A sg p i).2).1, (rdR S A (sg i) (stq S A sg p i).2).2.1) := by
  show stepM S A (sg i) (stq S A sg p i) = _
  unfold stepM
  rw [if_pos h]
theorem stq_okd {i : Nat} (h : (stq S A sg p (i + 1)).1 = true) : (stq S A sg p i).1 = true ∧ (rdR S A (sg i) (stq S A sg p i).2).1 = true := by
  have h2 : (stepM S A (sg i) (stq S A sg p i)).1 = true := h
  unfold stepM at h2
  by_cases e : (stq S A sg p i).1 = true
  · rw [if_pos e] at h2
    exact ⟨e, h2⟩
  · rw [if_neg e] at h2
    cases h2
theorem stq_go : ∀ i, (stq S A sg p i).1 = true → p + i ≤ (stq S A sg p i).2 := by
  intro i
  induction i with
  | zero => exact fun _ => Nat.le_refl _
  | succ i ih =>
    intro h
    obtain ⟨h1, h2⟩ := stq_okd h
    have := ih h1
    have := rd_go h2
    rw [stq_step h1]
    show p + (i + 1) ≤ (rdR S A (sg i) (stq S A sg p i).2).2.1
    omega
/-- the class reads a form to its end -/
theorem X_form (hL : LB S A y0) (hn : 10000 ≤ n) {f : Nat} (hf : f < 7) (hp : p ≤ 100) : ∀ (d i : Nat) (y : ZMem) (q : Nat), i + d = lnF f → (stq S A (sgF f) p i).1 = true → XR y0 (stq S A (sgF f) p i).2 (cntv (sgF f) i) y → (∀ t, t < cntv (sgF f) i → y 44 t = tv S A (sgF f) (jmF f) p t) → d < q → ∃ y', L_X1_statementRead_27 n q f (i : Int) y = some (b01 ((stq S A (sgF f) p (lnF f)).1 && decide (f ≠ 6)), y') ∧ AG kT y0 y' ∧ TB y' 43 5 1 ∧ y' 40 2 = ((stq S A (sgF f) p (lnF f)).2 : Int) ∧ ((stq S A (sgF f) p (lnF f)).1 = true → y' 43 3 = (cntv (sgF f) (lnF f) : Int) ∧ ∀ t, t < cntv (sgF f) (lnF f) → y' 44 t = tv S A (sgF f) (jmF f) p t) := by
  intro d
  obtain ⟨l1, l2, l3⟩ := ln_bd f hf
  induction d with
  | zero =>
    intro i y q h1 hok hX ht hq
    obtain ⟨q, rfl⟩ : ∃ z, q = z + 1 := ⟨q - 1, by omega⟩
    have ei : i = lnF f := by omega
    subst ei
    refine ⟨y, ?_, hX.1, hX.2.1, hX.2.2.1, fun _ => ⟨hX.2.2.2, ht⟩⟩
    show B_X1_statementRead_27 n (L_X1_statementRead_27 n q) f (lnF f : Int) y = _
    unfold B_X1_statementRead_27 F_J0_length_8abf5 F_J0_isEmpty_aae02
    rw [chk_pos hf, bnd_some, if_pos (by omega), chk_pos hf, bnd_some, hok]
    by_cases e : f = 6
    · rw [show zsl f = 0 by have := l3.2 e; omega, if_pos rfl, if_neg (by decide), show decide (f ≠ 6) = false by rw [decide_eq_false_iff_not]; exact fun z => z e]
      rfl
    · rw [if_neg (show ¬ zsl f = 0 by intro z; exact e (l3.1 (by omega))), if_pos rfl, show decide (f ≠ 6) = true by rw [decide_eq_true_eq]; exact e]
      rfl
  | succ d ih =>
    intro i y q h1 hok hX ht hq
    obtain ⟨q, rfl⟩ : ∃ z, q = z + 1 := ⟨q - 1, by omega⟩
    obtain ⟨⟨g0, g1⟩, g2⟩ := frm_ok f hf i (by omega) (by omega)
    have le := stq_le (S := S) (A := A) (sg := sgF f) (p := p) i
    obtain ⟨y1, e1, a1, a2, a3, a4⟩ := X_sign (y := y) hL hn hX (by omega) (sgF f i) (fun z => (g2 z).1)
    have f6 : f ≠ 6 := by intro z; have := l3.2 z; omega
    show ∃ y', B_X1_statementRead_27 n (L_X1_statementRead_27 n q) f (i : Int) y = some (b01 ((stq S A (sgF f) p (lnF f)).1 && decide (f ≠ 6)), y') ∧ AG kT y0 y' ∧ TB y' 43 5 1 ∧ y' 40 2 = ((stq S A (sgF f) p (lnF f)).2 : Int) ∧ ((stq S A (sgF f) p (lnF f)).1 = true → y' 43 3 = (cntv (sgF f) (lnF f) : Int) ∧ ∀ t, t < cntv (sgF f) (lnF f) → y' 44 t = tv S A (sgF f) (jmF f) p t)
    unfold B_X1_statementRead_27 F_J0_length_8abf5 F_J0_charAt_5068e
    rw [chk_pos hf, bnd_some, if_neg (by omega), chk_pos hf, chk_pos (by omega), bnd_some, Int.toNat_natCast, show zsc f i = sgF f i from rfl, E_bnd e1 rfl]
    have st := stq_step hok
    cases hr : (rdR S A (sgF f i) (stq S A (sgF f) p i).2).1 with
    | false =>
      rw [b01_f, if_pos rfl]
      rw [hr] at st
      have sf := stq_fail (S := S) (A := A) (sg := sgF f) (p := p) (i := i + 1) (by rw [st]) (lnF f - (i + 1))
      rw [show i + 1 + (lnF f - (i + 1)) = lnF f by omega, st] at sf
      rw [sf]
      exact ⟨y1, rfl, a1, a3, a2, fun z => by cases z⟩
    | true =>
      rw [b01_t, if_neg (by decide), chk_pos (by omega), cast1]
      rw [hr] at st
      obtain ⟨b1, b2, b3⟩ := a4 hr
      have c1 : cntv (sgF f) (i + 1) = cntv (sgF f) i + hv (sgF f i) := rfl
      refine ih (i + 1) y1 q (by omega) (by rw [st]) ⟨a1, a3, by rw [st]; exact a2, by rw [c1]; exact b1⟩ (fun t htt => ?_) (by omega)
      rw [c1] at htt
      by_cases e : t < cntv (sgF f) i
      · rw [b3 t e]
        exact ht t e
      · have hv1 : hv (sgF f i) = 1 := by
          have : hv (sgF f i) = 0 ∨ hv (sgF f i) = 1 := by
            unfold hv
            repeat' split
            all_goals first | exact Or.inl rfl | exact Or.inr rfl
          omega
        have et : t = cntv (sgF f) i := by omega
        rw [et, b2 hv1]
        unfold tv
        rw [(g2 hv1).2]
theorem X_formOf (a : Int) (y : ZMem) : F_X1_formOf n a y = some (((fId a : Nat) : Int), y) := by
  unfold F_X1_formOf
  repeat (refine E_ite (fun e => by subst e; rfl) (fun _ => ?_))
  unfold fId
  rw [if_neg (by omega), if_neg (by omega), if_neg (by omega), if_neg (by omega), if_neg (by omega), if_neg (by omega)]
/-- the end of the statement at p, and whether it is one -/
def stOk (S : Nat) (A : Nat → Int) (p : Nat) : Bool := (stq S A (sgF (fId (ltr S A p))) p (lnF (fId (ltr S A p)))).1 && decide (fId (ltr S A p) ≠ 6)
def stEnd (S : Nat) (A : Nat → Int) (p : Nat) : Nat := (stq S A (sgF (fId (ltr S A p))) p (lnF (fId (ltr S A p)))).2
def stV (S : Nat) (A : Nat → Int) (p : Nat) (t : Nat) : Int := tv S A (sgF (fId (ltr S A p))) (jmF (fId (ltr S A p))) p t
def stN (S : Nat) (A : Nat → Int) (p : Nat) : Nat := cntv (sgF (fId (ltr S A p))) (lnF (fId (ltr S A p)))
theorem X_statement (hL : LB S A y) (hn : 10000 ≤ n) (hT : TB y 43 5 1) (hp : p ≤ 100) (hy : y 40 2 = (p : Int)) : ∃ y', F_X1_statementRead n y = some (b01 (stOk S A p), y') ∧ AG kT y y' ∧ TB y' 43 5 1 ∧ y' 40 2 = (stEnd S A p : Int) ∧ (stOk S A p = true → y' 43 3 = (stN S A p : Int) ∧ ∀ t, t < stN S A p → y' 44 t = stV S A p t) := by
  have er := X_reset (n := n) (v := 0) hT hn (l := 0) (by decide) (a := 0) rfl
  rw [Nat.zero_mul, rsT_0] at er
  have er' : F_X9_reset n 43 0 0 y = some (0, wr y 43 3 0) := er
  have hA : AG kT y (wr y 43 3 0) := AG.rf.wr rfl
  have hp' : wr y 43 3 0 40 2 = (p : Int) := by rw [wr_nr (by decide)]; exact hy
  have hX : XR y p 0 (wr y 43 3 0) := ⟨hA, TB_sz hT (wr_nk (by decide)) (wr_nk (by decide)) (by rw [wr_eq]; decide), hp', wr_eq⟩
  obtain ⟨y', e, a1, a2, a3, a4⟩ := X_form hL hn (f := fId (ltr S A p)) (fId_lt _) hp (lnF (fId (ltr S A p))) 0 (wr y 43 3 0) n (by omega) rfl hX (fun t ht => by exact absurd ht (Nat.not_lt_zero t)) (by have := (ln_bd _ (fId_lt (ltr S A p))).1; omega)
  refine ⟨y', ?_, a1, a2, a3, fun h => a4 (by unfold stOk at h; simp only [Bool.and_eq_true] at h; exact h.1)⟩
  unfold F_X1_statementRead
  rw [E_bnd er' rfl, hp', E_bnd (X_ltr (LB_ag hL hA) p) rfl, E_bnd (X_formOf _ _) rfl, Int.toNat_natCast]
  exact e
/-! the reference's side -/
def LMm (S : Nat) (A : Nat → Int) (m : ZMem) : Prop := m 0 19 = (S : Int) ∧ S ≤ 96 ∧ ∀ j, j < S → m 11 j = A j ∧ 0 ≤ A j ∧ A j ≤ 255
def MST (m : ZMem) (st : Bool × Nat) : Prop := m 0 21 = (if st.1 = true then 0 else 1) ∧ m 0 20 = (st.2 : Int)
def kD (i j : Nat) : Bool := !(decide (i = 0) && (decide (j = 20) || decide (j = 21)))
def RD (S : Nat) (A : Nat → Int) (m : ZMem) (g : Int) (st : Bool × Nat) (o : ZR) : Prop := ∃ v m', o = some (v, m') ∧ AG kD m m' ∧ MST m' (stepM S A g st) ∧ (0 ≤ v ∧ v ≤ 99) ∧ ((stepM S A g st).1 = true → v = (rdR S A g st.2).2.2)
theorem LMm_ag {m' : ZMem} (h : LMm S A m) (hA : AG kD m m') : LMm S A m' := ⟨by rw [hA 0 19 rfl]; exact h.1, h.2.1, fun j hj => by rw [hA 11 j rfl]; exact h.2.2 j hj⟩
theorem M_here (h : LMm S A m) (hp : m 0 20 = (p : Int)) : F_X12_here n m = some (if p < S then A p else -1, m) := by
  obtain ⟨h1, h2, h3⟩ := h
  unfold F_X12_here
  rw [h1, hp]
  by_cases e : p < S
  · rw [if_neg (by omega), if_pos e, zM11, chk_pos (by omega), Int.toNat_natCast, (h3 p e).1]
  · rw [if_pos (by omega), if_neg e]
/-- here, against the letter -/
theorem here_ltr (h : LMm S A m) : (if p < S then A p else -1) = ltr S A p ∨ ((if p < S then A p else (-1 : Int)) = -1 ∧ ltr S A p = 0) := by
  unfold ltr
  by_cases e : p < S
  · rw [if_pos e, if_pos e]
    exact Or.inl rfl
  · rw [if_neg e, if_neg e]
    exact Or.inr ⟨rfl, rfl⟩
theorem step_f {g : Int} : stepM S A g (false, p) = (false, p) := rfl
theorem step_t {g : Int} : stepM S A g (true, p) = ((rdR S A g p).1, (rdR S A g p).2.1) := rfl
theorem M_digit (h : LMm S A m) {ok : Bool} (hs : MST m (ok, p)) (hp : p ≤ S) : RD S A m 49 (ok, p) (F_X12_readDigit n m) := by
  obtain ⟨h1, h2⟩ := hs
  have hA1 : ∀ v, AG kD m (wr m 0 21 v) := fun v => AG.rf.wr rfl
  have e20 : ∀ v, wr m 0 21 v 0 20 = (p : Int) := fun v => by rw [wr_nk (by decide)]; exact h2
  unfold F_X12_readDigit
  cases ok with
  | false =>
    have h1' : m 0 21 = 1 := h1
    rw [h1', if_neg (by decide), wr_eq, if_neg (by decide)]
    exact ⟨0, _, rfl, hA1 1, by rw [step_f]; exact ⟨wr_eq, e20 1⟩, by decide, by rw [step_f]; exact fun z => by cases z⟩
  | true =>
    have h1' : m 0 21 = 0 := h1
    rw [h1', if_pos rfl, E_bnd (M_here h h2) rfl]
    have hh := here_ltr (p := p) h
    by_cases d0 : 48 ≤ ltr S A p ∧ ltr S A p ≤ 57
    · have r : rdR S A 49 p = (true, p + 1, ltr S A p - 48) := by unfold rdR; rw [if_pos rfl, if_pos d0]
      have hlt : p < S := by
        by_cases e : p < S
        · exact e
        · unfold ltr at d0
          rw [if_neg e] at d0
          omega
      have hA : A p = ltr S A p := by unfold ltr; rw [if_pos hlt]
      have sz := h.2.1
      rw [E_bnd (M_in_t (show 48 ≤ (if p < S then A p else -1) ∧ (if p < S then A p else -1) ≤ 57 by rw [if_pos hlt, hA]; exact d0)) rfl, if_neg (by decide), wr_eq, if_pos rfl, e20, chk_pos (by omega), wr_eq]
      have e11 : wr (wr m 0 21 0) 0 20 ((p : Int) + 1) 11 p = A p := by rw [wr_nr (by decide), wr_nr (by decide)]; exact (h.2.2 p hlt).1
      rw [show ((p : Int) + 1 - 1).toNat = p by omega, e11, zM11, chk_pos (by omega), chk_pos (by omega), chk_pos (by omega)]
      refine ⟨A p - 48, wr (wr m 0 21 0) 0 20 ((p : Int) + 1), rfl, (hA1 0).wr rfl, ?_, by omega, fun _ => by rw [r]; show A p - 48 = ltr S A p - 48; rw [hA]⟩
      rw [step_t, r]
      exact ⟨by rw [wr_nk (by decide), wr_eq]; rfl, by rw [wr_eq]; exact cast1 p⟩
    · have r : rdR S A 49 p = (false, p, 0) := by unfold rdR; rw [if_pos rfl, if_neg d0]
      rw [E_bnd (M_in_f (show ¬ (48 ≤ (if p < S then A p else -1) ∧ (if p < S then A p else -1) ≤ 57) by omega)) rfl, if_pos rfl, wr_eq, if_neg (by decide)]
      exact ⟨0, _, rfl, hA1 1, by rw [step_t, r]; exact ⟨wr_eq, e20 1⟩, by decide, by rw [step_t, r]; exact fun z => by cases z⟩
theorem AG_kD {a b c : ZMem} (h : AG kD a b) (h' : AG kD b c) : AG kD a c := h.tr h'
/-- one more digit behind a first one -/
theorem M_more {ok : Bool} {v1 : Int} {m1 : ZMem} (h : LMm S A m) (a1 : AG kD m m1) (s1 : MST m1 (stepM S A 49 (ok, p))) (b1 : 0 ≤ v1 ∧ v1 ≤ 99) (c1 : (stepM S A 49 (ok, p)).1 = true → v1 = (rdR S A 49 p).2.2) (hp : p ≤ S) : True := trivial
theorem r49_t (d : 48 ≤ ltr S A p ∧ ltr S A p ≤ 57) : rdR S A 49 p = (true, p + 1, ltr S A p - 48) := by unfold rdR; rw [if_pos rfl, if_pos d]
theorem r49_f (d : ¬ (48 ≤ ltr S A p ∧ ltr S A p ≤ 57)) : rdR S A 49 p = (false, p, 0) := by unfold rdR; rw [if_pos rfl, if_neg d]
theorem M_digit_t (h : LMm S A m) (hs : MST m (true, p)) (hp : p ≤ S) (d : 48 ≤ ltr S A p ∧ ltr S A p ≤ 57) : ∃ m', F_X12_readDigit n m = some (ltr S A p - 48, m') ∧ AG kD m m' ∧ MST m' (true, p + 1) := by
  obtain ⟨v, m', e, a, s, b, c⟩ := M_digit (n := n) h hs hp
  rw [step_t, r49_t d] at s c
  rw [c rfl] at e
  exact ⟨m', e, a, s⟩
theorem M_digit_f (h : LMm S A m) (hs : MST m (true, p)) (hp : p ≤ S) (d : ¬ (48 ≤ ltr S A p ∧ ltr S A p ≤ 57)) : ∃ v m', F_X12_readDigit n m = some (v, m') ∧ AG kD m m' ∧ MST m' (false, p) ∧ 0 ≤ v ∧ v ≤ 9 := by
  obtain ⟨h1, h2⟩ := hs
  have h1' : m 0 21 = 0 := h1
  have hh := here_ltr (p := p) h
  refine ⟨0, wr m 0 21 1, ?_, AG.rf.wr rfl, ⟨wr_eq, by rw [wr_nk (by decide)]; exact h2⟩, by decide, by decide⟩
  unfold F_X12_readDigit
  rw [h1', if_pos rfl, E_bnd (M_here h h2) rfl, E_bnd (M_in_f (show ¬ (48 ≤ (if p < S then A p else -1) ∧ (if p < S then A p else -1) ≤ 57) by omega)) rfl, if_pos rfl, wr_eq, if_neg (by decide)]
theorem M_digit_n (hs : MST m (false, p)) : F_X12_readDigit n m = some (0, wr m 0 21 1) := by
  obtain ⟨h1, h2⟩ := hs
  have h1' : m 0 21 = 1 := h1
  unfold F_X12_readDigit
  rw [h1', if_neg (by decide), wr_eq, if_neg (by decide)]
theorem MST_n (hs : MST m (false, p)) : MST (wr m 0 21 1) (false, p) := ⟨wr_eq, by rw [wr_nk (by decide)]; exact hs.2⟩
theorem M_two (h : LMm S A m) {ok : Bool} (hs : MST m (ok, p)) (hp : p ≤ S) : RD S A m 51 (ok, p) (F_X12_readTwo n m) := by
  unfold F_X12_readTwo
  cases ok with
  | false =>
    have s1 := MST_n hs
    rw [E_bnd (M_digit_n hs) rfl, chk_pos (by decide), E_bnd (M_digit_n s1) rfl, chk_pos (by decide)]
    exact ⟨_, _, rfl, (AG.rf.wr rfl).wr rfl, by rw [step_f]; exact MST_n s1, by decide, by rw [step_f]; exact fun z => by cases z⟩
  | true =>
    by_cases d0 : 48 ≤ ltr S A p ∧ ltr S A p ≤ 57
    · obtain ⟨m1, e1, a1, s1⟩ := M_digit_t (n := n) h hs hp d0
      have hlt : p < S := by
        by_cases e : p < S
        · exact e
        · unfold ltr at d0
          rw [if_neg e] at d0
          omega
      rw [E_bnd e1 rfl, chk_pos (by omega)]
      by_cases d1 : 48 ≤ ltr S A (p + 1) ∧ ltr S A (p + 1) ≤ 57
      · obtain ⟨m2, e2, a2, s2⟩ := M_digit_t (n := n) (LMm_ag h a1) s1 (by omega) d1
        have r : rdR S A 51 p = (true, p + 2, 10 * (ltr S A p - 48) + (ltr S A (p + 1) - 48)) := by unfold rdR; rw [if_neg (by decide), if_neg (by decide), if_pos rfl, if_pos d0, if_pos d1]
        rw [E_bnd e2 rfl, chk_pos (by omega)]
        exact ⟨_, m2, rfl, a1.tr a2, by rw [step_t, r]; exact s2, by omega, by rw [step_t, r]; exact fun _ => rfl⟩
      · obtain ⟨v, m2, e2, a2, s2, b1, b2⟩ := M_digit_f (n := n) (LMm_ag h a1) s1 (by omega) d1
        have r : rdR S A 51 p = (false, p + 1, 0) := by unfold rdR; rw [if_neg (by decide), if_neg (by decide), if_pos rfl, if_pos d0, if_neg d1]
        rw [E_bnd e2 rfl, chk_pos (by omega)]
        exact ⟨_, m2, rfl, a1.tr a2, by rw [step_t, r]; exact s2, by omega, by rw [step_t, r]; exact fun z => by cases z⟩
    · obtain ⟨v, m1, e1, a1, s1, b1, b2⟩ := M_digit_f (n := n) h hs hp d0
      have r : rdR S A 51 p = (false, p, 0) := by unfold rdR; rw [if_neg (by decide), if_neg (by decide), if_pos rfl, if_neg d0]
      rw [E_bnd e1 rfl, chk_pos (by omega), E_bnd (M_digit_n s1) rfl, chk_pos (by omega)]
      exact ⟨_, _, rfl, a1.tr (AG.rf.wr rfl), by rw [step_t, r]; exact MST_n s1, by omega, by rw [step_t, r]; exact fun z => by cases z⟩
theorem M_oneTwo (h : LMm S A m) {ok : Bool} (hs : MST m (ok, p)) (hp : p ≤ S) : RD S A m 50 (ok, p) (F_X12_readOneOrTwo n m) := by
  unfold F_X12_readOneOrTwo
  cases ok with
  | false =>
    have s1 := MST_n hs
    rw [E_bnd (M_digit_n hs) rfl, wr_eq, if_neg (by decide)]
    exact ⟨_, _, rfl, AG.rf.wr rfl, by rw [step_f]; exact s1, by decide, by rw [step_f]; exact fun z => by cases z⟩
  | true =>
    by_cases d0 : 48 ≤ ltr S A p ∧ ltr S A p ≤ 57
    · obtain ⟨m1, e1, a1, s1⟩ := M_digit_t (n := n) h hs hp d0
      have hlt : p < S := by
        by_cases e : p < S
        · exact e
        · unfold ltr at d0
          rw [if_neg e] at d0
          omega
      have h1' : m1 0 21 = 0 := s1.1
      have hh := here_ltr (p := p + 1) h
      rw [E_bnd e1 rfl, h1', if_pos rfl, E_bnd (M_here (LMm_ag h a1) s1.2) rfl]
      by_cases d1 : 48 ≤ ltr S A (p + 1) ∧ ltr S A (p + 1) ≤ 57
      · obtain ⟨m2, e2, a2, s2⟩ := M_digit_t (n := n) (LMm_ag h a1) s1 (by omega) d1
        have r : rdR S A 50 p = (true, p + 2, 10 * (ltr S A p - 48) + (ltr S A (p + 1) - 48)) := by unfold rdR; rw [if_neg (by decide), if_pos rfl, if_pos d0, if_pos d1]
        rw [E_bnd (M_in_t (show 48 ≤ (if p + 1 < S then A (p + 1) else -1) ∧ (if p + 1 < S then A (p + 1) else -1) ≤ 57 by omega)) rfl, if_neg (by decide), chk_pos (by omega), E_bnd e2 rfl, chk_pos (by omega)]
        exact ⟨_, m2, rfl, a1.tr a2, by rw [step_t, r]; exact s2, by omega, by rw [step_t, r]; exact fun _ => rfl⟩
      · have r : rdR S A 50 p = (true, p + 1, ltr S A p - 48) := by unfold rdR; rw [if_neg (by decide), if_pos rfl, if_pos d0, if_neg d1]
        rw [E_bnd (M_in_f (show ¬ (48 ≤ (if p + 1 < S then A (p + 1) else -1) ∧ (if p + 1 < S then A (p + 1) else -1) ≤ 57) by omega)) rfl, if_pos rfl]
        exact ⟨_, m1, rfl, a1, by rw [step_t, r]; exact s1, by omega, by rw [step_t, r]; exact fun _ => rfl⟩
    · obtain ⟨v, m1, e1, a1, s1, b1, b2⟩ := M_digit_f (n := n) h hs hp d0
      have h1' : m1 0 21 = 1 := s1.1
      have r : rdR S A 50 p = (false, p, 0) := by unfold rdR; rw [if_neg (by decide), if_pos rfl, if_neg d0]
      rw [E_bnd e1 rfl, h1', if_neg (by decide)]
      exact ⟨_, m1, rfl, a1, by rw [step_t, r]; exact s1, by omega, by rw [step_t, r]; exact fun z => by cases z⟩
theorem M_shape (h : LMm S A m) {ok : Bool} (hs : MST m (ok, p)) (hp : p ≤ 200) : RD S A m 79 (ok, p) (F_X12_readShape n m) := by
  have hh := here_ltr (p := p) h
  have h2 : m 0 20 = (p : Int) := hs.2
  have e20 : ∀ v, wr m 0 21 v 0 20 = (p : Int) := fun v => by rw [wr_nk (by decide)]; exact h2
  have fin : ∀ (l : Int), (l = 113 → ltr S A p = 113) → (ltr S A p = 111 ∨ ltr S A p = 113 → l = ltr S A p) → ok = true → (ltr S A p = 111 ∨ ltr S A p = 113) → RD S A m 79 (ok, p) (B_X12_readShape_30 n l 0 m) := by
    intro l hl hl2 hok hlt
    subst hok
    unfold B_X12_readShape_30
    rw [chk_pos (Or.inl rfl), wr_eq, if_pos rfl, e20, chk_pos (by omega)]
    have s2 : MST (wr (wr m 0 21 0) 0 20 ((p : Int) + 1)) (true, p + 1) := ⟨by rw [wr_nk (by decide), wr_eq]; rfl, by rw [wr_eq]; exact cast1 p⟩
    have a2 : AG kD m (wr (wr m 0 21 0) 0 20 ((p : Int) + 1)) := (AG.rf.wr rfl).wr rfl
    by_cases z : l = 113
    · have r : rdR S A 79 p = (true, p + 1, 1) := by unfold rdR; rw [if_neg (by decide), if_neg (by decide), if_neg (by decide), if_pos rfl, if_neg (by have := hl z; omega), if_pos (hl z)]
      rw [if_pos z]
      exact ⟨1, _, rfl, a2, by rw [step_t, r]; exact s2, by decide, by rw [step_t, r]; exact fun _ => rfl⟩
    · have r : rdR S A 79 p = (true, p + 1, 0) := by unfold rdR; rw [if_neg (by decide), if_neg (by decide), if_neg (by decide), if_pos rfl, if_pos (by have := hl2 hlt; omega)]
      rw [if_neg z]
      exact ⟨0, _, rfl, a2, by rw [step_t, r]; exact s2, by decide, by rw [step_t, r]; exact fun _ => rfl⟩
  have bad : ∀ (l : Int), stepM S A 79 (ok, p) = (false, p) → RD S A m 79 (ok, p) (B_X12_readShape_30 n l 1 m) := by
    intro l hst
    unfold B_X12_readShape_30
    rw [chk_pos (Or.inr rfl), wr_eq, if_neg (by decide), e20, chk_pos (by omega), Int.add_zero]
    have s2 : MST (wr (wr m 0 21 1) 0 20 (p : Int)) (false, p) := ⟨by rw [wr_nk (by decide), wr_eq]; rfl, wr_eq⟩
    have a2 : AG kD m (wr (wr m 0 21 1) 0 20 (p : Int)) := (AG.rf.wr rfl).wr rfl
    by_cases z : l = 113
    · rw [if_pos z]
      exact ⟨1, _, rfl, a2, by rw [hst]; exact s2, by decide, by rw [hst]; exact fun z => by cases z⟩
    · rw [if_neg z]
      exact ⟨0, _, rfl, a2, by rw [hst]; exact s2, by decide, by rw [hst]; exact fun z => by cases z⟩
  unfold F_X12_readShape
  rw [E_bnd (M_here h h2) rfl]
  cases ok with
  | false =>
    have h1' : m 0 21 = 1 := hs.1
    rw [h1', if_neg (by decide)]
    exact bad _ step_f
  | true =>
    have h1' : m 0 21 = 0 := hs.1
    rw [h1', if_pos rfl]
    by_cases c1 : (if p < S then A p else (-1 : Int)) = 111
    · rw [if_pos c1]
      exact fin _ (by omega) (by omega) rfl (by omega)
    · rw [if_neg c1]
      by_cases c2 : (if p < S then A p else (-1 : Int)) = 113
      · rw [if_pos c2]
        exact fin _ (by omega) (by omega) rfl (by omega)
      · rw [if_neg c2]
        have r : rdR S A 79 p = (false, p, 0) := by unfold rdR; rw [if_neg (by decide), if_neg (by decide), if_neg (by decide), if_pos rfl, if_neg (by omega), if_neg (by omega)]
        exact bad _ (by rw [step_t, r])
/-- take, of a sign that is itself -/
theorem M_take (h : LMm S A m) {ok : Bool} (hs : MST m (ok, p)) (hp : p ≤ 200) {g : Int} (hg : 0 < g) (hn : g ≠ 49 ∧ g ≠ 50 ∧ g ≠ 51 ∧ g ≠ 79) : ∃ m', F_X12_take n g m = some (0, m') ∧ AG kD m m' ∧ MST m' (stepM S A g (ok, p)) := by
  have hh := here_ltr (p := p) h
  have h2 : m 0 20 = (p : Int) := hs.2
  have e20 : ∀ v, wr m 0 21 v 0 20 = (p : Int) := fun v => by rw [wr_nk (by decide)]; exact h2
  have sf : MST (wr (wr m 0 21 1) 0 20 (p : Int)) (false, p) := ⟨by rw [wr_nk (by decide), wr_eq]; rfl, wr_eq⟩
  have af : AG kD m (wr (wr m 0 21 1) 0 20 (p : Int)) := (AG.rf.wr rfl).wr rfl
  unfold F_X12_take
  cases ok with
  | false =>
    have h1' : m 0 21 = 1 := hs.1
    rw [h1', if_neg (by decide), wr_eq, if_neg (by decide), e20, chk_pos (by omega), Int.add_zero]
    exact ⟨_, rfl, af, by rw [step_f]; exact sf⟩
  | true =>
    have h1' : m 0 21 = 0 := hs.1
    rw [h1', if_pos rfl, E_bnd (M_here h h2) rfl]
    by_cases c1 : (if p < S then A p else (-1 : Int)) = g
    · have r : rdR S A g p = (true, p + 1, 0) := by unfold rdR; rw [if_neg hn.1, if_neg hn.2.1, if_neg hn.2.2.1, if_neg hn.2.2.2, if_pos (by omega)]
      rw [if_pos c1, wr_eq, if_pos rfl, e20, chk_pos (by omega)]
      exact ⟨_, rfl, (AG.rf.wr rfl).wr rfl, by rw [step_t, r]; exact ⟨by rw [wr_nk (by decide), wr_eq]; rfl, by rw [wr_eq]; exact cast1 p⟩⟩
    · have r : rdR S A g p = (false, p, 0) := by unfold rdR; rw [if_neg hn.1, if_neg hn.2.1, if_neg hn.2.2.1, if_neg hn.2.2.2, if_neg (by omega)]
      rw [if_neg c1, wr_eq, if_neg (by decide), e20, chk_pos (by omega), Int.add_zero]
      exact ⟨_, rfl, af, by rw [step_t, r]; exact sf⟩
end ZPA2
