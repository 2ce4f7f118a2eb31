/-! THE PARSE, third: the reference reads a statement -/
def kS (i j : Nat) : Bool := decide (i ≠ 12) && decide (i ≠ 13) && decide (i ≠ 14) && !(decide (i = 0) && (decide (j = 20) || decide (j = 21) || decide (j = 22)))
def kQ (c : Nat) (i j : Nat) : Bool := !(decide (i = 14) && decide (5 * c ≤ j)) && !(decide (i = 0) && (decide (j = 20) || decide (j = 21)))
def MS (S : Nat) (A : Nat → Int) (W : ZMem) (c : Nat) (sg : Nat → Int) (jm : Nat → Nat) (p i k : Nat) (m : ZMem) : Prop := AG (kQ c) W m ∧ MST m (stq S A sg p i) ∧ ((stq S A sg p i).1 = true → ∀ t, t < k → m 14 (5 * c + t) = tv S A sg jm p t)
theorem rd_v {S : Nat} {A : Nat → Int} (g : Int) (p : Nat) : 0 ≤ (rdR S A g p).2.2 ∧ (rdR S A g p).2.2 ≤ 99 := by
  unfold rdR
  repeat' split
  all_goals
    dsimp only
    omega
theorem rd_v1 {S : Nat} {A : Nat → Int} (p : Nat) : (rdR S A 49 p).2.2 ≤ 9 := by
  unfold rdR
  rw [if_pos rfl]
  split <;> dsimp only <;> omega
theorem rd_vO {S : Nat} {A : Nat → Int} (p : Nat) : (rdR S A 79 p).2.2 = 0 ∨ (rdR S A 79 p).2.2 = 1 := by
  unfold rdR
  rw [if_neg (by decide), if_neg (by decide), if_neg (by decide), if_pos rfl]
  split
  · exact Or.inl rfl
  · split
    · exact Or.inr rfl
    · exact Or.inl rfl
def cBR (n : Nat) (x3 : Int) (m : ZMem) : ZR := bnd (F_X12_readTwo n m) (fun v53 m54 => chk (0 ≤ (x3 : Int) ∧ x3 < zlen LM 14) (chk (R32 (x3 + 1)) (bnd (F_X12_readTwo n (wr m54 14 (x3 : Int).toNat v53)) (fun v58 m59 => chk (0 ≤ ((x3 + 1) : Int) ∧ (x3 + 1) < zlen LM 14) (chk (R32 (x3 + 2)) (bnd (F_X12_readTwo n (wr m59 14 ((x3 + 1) : Int).toNat v58)) (fun v63 m64 => chk (0 ≤ ((x3 + 2) : Int) ∧ (x3 + 2) < zlen LM 14) (bnd (F_X12_take n 59 (wr m64 14 ((x3 + 2) : Int).toNat v63)) (fun v67 m68 => chk (R32 ((m68 0 22) + 1)) (some (0, (wr m68 0 22 ((m68 0 22) + 1)))))))))))))
section ZPA3
variable {m W : ZMem} {n S c p : Nat} {A : Nat → Int} {sg : Nat → Int} {jm : Nat → Nat}
theorem B100_c (n : Nat) (x2 x3 s0 s1 : Int) (m : ZMem) (h : x2 ≠ 102 ∧ x2 ≠ 104 ∧ x2 ≠ 112 ∧ x2 ≠ 115 ∧ x2 ≠ 116) : B_X12_readStatement_100 n x2 x3 s0 s1 m = chk (R32 (s1 + s0)) (cBR n x3 (wr m 0 20 (s1 + s0))) := by
  unfold B_X12_readStatement_100
  refine congrArg (chk _) ?_
  repeat
    refine E_ite (fun e => ?_) (fun _ => ?_)
    · first
      | rfl
      | (exfalso; omega)
  rfl
theorem LMm_q (h : LMm S A W) (hA : AG (kQ c) W m) : LMm S A m := ⟨by rw [hA 0 19 rfl]; exact h.1, h.2.1, fun j hj => by rw [hA 11 j rfl]; exact h.2.2 j hj⟩
theorem kD_kQ {m' : ZMem} (h : AG (kQ c) W m) (h' : AG kD m m') : AG (kQ c) W m' := h.tr (h'.sub (by
  intro i j hij
  simp only [kQ, kD, Bool.and_eq_true, Bool.not_eq_true', Bool.and_eq_false_iff, Bool.or_eq_false_iff, decide_eq_false_iff_not] at hij ⊢
  exact hij.2))
theorem ms_v {i k : Nat} (hM : MS S A W c sg jm p i k m) {g : Int} (hg : sg i = g) (hj : jm k = i) {o : ZR} (hR : RD S A m g (stq S A sg p i) o) : ∃ v m', o = some (v, m') ∧ MS S A W c sg jm p (i + 1) (k + 1) (wr m' 14 (5 * c + k) v) := by
  obtain ⟨h1, h2, h3⟩ := hM
  obtain ⟨v, m', e, a, s, -, r⟩ := hR
  have es : stepM S A g (stq S A sg p i) = stq S A sg p (i + 1) := by rw [← hg]; rfl
  rw [es] at s r
  refine ⟨v, m', e, (kD_kQ h1 a).wr (by simp [kQ]), ⟨by rw [wr_nr (by decide)]; exact s.1, by rw [wr_nr (by decide)]; exact s.2⟩, fun hok t ht => ?_⟩
  by_cases et : t = k
  · subst et
    rw [wr_eq, r hok]
    unfold tv
    rw [hj, hg]
  · rw [wr_nk (by omega), a 14 _ rfl]
    exact h3 (stq_okd hok).1 t (by omega)
theorem ms_t (hW : LMm S A W) {i k : Nat} (hM : MS S A W c sg jm p i k m) {g : Int} (hg : sg i = g) (hg0 : 0 < g) (hn : g ≠ 49 ∧ g ≠ 50 ∧ g ≠ 51 ∧ g ≠ 79) (hp : (stq S A sg p i).2 ≤ 200) : ∃ m', F_X12_take n g m = some (0, m') ∧ MS S A W c sg jm p (i + 1) k m' := by
  obtain ⟨h1, h2, h3⟩ := hM
  obtain ⟨m', e, a, s⟩ := M_take (n := n) (ok := (stq S A sg p i).1) (p := (stq S A sg p i).2) (LMm_q hW h1) h2 hp hg0 hn
  have es : stepM S A g (stq S A sg p i) = stq S A sg p (i + 1) := by rw [← hg]; rfl
  refine ⟨m', e, kD_kQ h1 a, by rw [← es]; exact s, fun hok t ht => ?_⟩
  rw [a 14 _ rfl]
  exact h3 (stq_okd hok).1 t ht
theorem ms_49 (hW : LMm S A W) {i k : Nat} (hM : MS S A W c sg jm p i k m) (hg : sg i = 49) (hj : jm k = i) (hi : (stq S A sg p i).2 ≤ S) : ∃ v m', F_X12_readDigit n m = some (v, m') ∧ MS S A W c sg jm p (i + 1) (k + 1) (wr m' 14 (5 * c + k) v) :=
  ms_v hM hg hj (M_digit (n := n) (ok := (stq S A sg p i).1) (p := (stq S A sg p i).2) (LMm_q hW hM.1) hM.2.1 hi)
theorem ms_50 (hW : LMm S A W) {i k : Nat} (hM : MS S A W c sg jm p i k m) (hg : sg i = 50) (hj : jm k = i) (hi : (stq S A sg p i).2 ≤ S) : ∃ v m', F_X12_readOneOrTwo n m = some (v, m') ∧ MS S A W c sg jm p (i + 1) (k + 1) (wr m' 14 (5 * c + k) v) :=
  ms_v hM hg hj (M_oneTwo (n := n) (ok := (stq S A sg p i).1) (p := (stq S A sg p i).2) (LMm_q hW hM.1) hM.2.1 hi)
theorem ms_51 (hW : LMm S A W) {i k : Nat} (hM : MS S A W c sg jm p i k m) (hg : sg i = 51) (hj : jm k = i) (hi : (stq S A sg p i).2 ≤ S) : ∃ v m', F_X12_readTwo n m = some (v, m') ∧ MS S A W c sg jm p (i + 1) (k + 1) (wr m' 14 (5 * c + k) v) :=
  ms_v hM hg hj (M_two (n := n) (ok := (stq S A sg p i).1) (p := (stq S A sg p i).2) (LMm_q hW hM.1) hM.2.1 hi)
theorem ms_79 (hW : LMm S A W) {i k : Nat} (hM : MS S A W c sg jm p i k m) (hg : sg i = 79) (hj : jm k = i) (hi : (stq S A sg p i).2 ≤ S) : ∃ v m', F_X12_readShape n m = some (v, m') ∧ MS S A W c sg jm p (i + 1) (k + 1) (wr m' 14 (5 * c + k) v) :=
  ms_v hM hg hj (M_shape (n := n) (ok := (stq S A sg p i).1) (p := (stq S A sg p i).2) (LMm_q hW hM.1) hM.2.1 (by have := hW.2.1; omega))
theorem ms_tk (hW : LMm S A W) {i k : Nat} (hM : MS S A W c sg jm p i k m) {g : Int} (hg : sg i = g) (hg0 : 0 < g) (hn : g ≠ 49 ∧ g ≠ 50 ∧ g ≠ 51 ∧ g ≠ 79) (hi : (stq S A sg p i).2 ≤ S) : ∃ m', F_X12_take n g m = some (0, m') ∧ MS S A W c sg jm p (i + 1) k m' := ms_t hW hM hg hg0 hn (by have := hW.2.1; omega)
/-- the result of a statement -/
def MRS (S : Nat) (A : Nat → Int) (m : ZMem) (c p : Nat) (o : ZR) : Prop := ∃ m', o = some (0, m') ∧ AG kS m m' ∧ MST m' (stOk S A p, stEnd S A p) ∧ m' 0 22 = (c : Int) + 1 ∧ m' 12 c = (p : Int) ∧ (stOk S A p = true → m' 13 c = ltr S A p ∧ ∀ t, t < stN S A p → m' 14 (5 * c + t) = stV S A p t) ∧ (∀ j, j ≠ c → m' 12 j = m 12 j ∧ m' 13 j = m 13 j) ∧ (∀ j, j < 5 * c → m' 14 j = m 14 j)
/-- from the end of a form -/
theorem ms_end {f : Nat} (hf : fId (ltr S A p) = f) (h6 : f ≠ 6) (hc : m 0 22 = (c : Int)) (hc2 : c < 49) {l : Int} (hl : l = ltr S A p) (hWd : ∀ i j, (i = 0 ∧ (j = 20 ∨ j = 21)) ∨ W i j = wr (wr m 12 c (p : Int)) 13 c l i j) {m' : ZMem} (hM : MS S A W c (sgF f) (jmF f) p (lnF f) (cntv (sgF f) (lnF f)) m') : MRS S A m c p (chk (R32 ((m' 0 22) + 1)) (some (0, (wr m' 0 22 ((m' 0 22) + 1))))) := by
  obtain ⟨h1, h2, h3⟩ := hM
  have w : ∀ i j, ¬ (i = 0 ∧ (j = 20 ∨ j = 21)) → ¬ (i = 14 ∧ 5 * c ≤ j) → m' i j = wr (wr m 12 c (p : Int)) 13 c l i j := by
    intro i j z1 z2
    have := h1 i j (by simp only [kQ, Bool.and_eq_true, Bool.not_eq_true', Bool.and_eq_false_iff, Bool.or_eq_false_iff, decide_eq_false_iff_not]; omega)
    rw [this]
    rcases hWd i j with q | q
    · exact absurd q z1
    · exact q
  have e22 : m' 0 22 = (c : Int) := by rw [w 0 22 (by decide) (by omega), wr_nr (by decide), wr_nr (by decide)]; exact hc
  have ok : stOk S A p = (stq S A (sgF f) p (lnF f)).1 := by
    unfold stOk
    rw [hf, show decide (f ≠ 6) = true by rw [decide_eq_true_eq]; exact h6, Bool.and_true]
  have en : stEnd S A p = (stq S A (sgF f) p (lnF f)).2 := by unfold stEnd; rw [hf]
  rw [e22, chk_pos (by omega)]
  refine ⟨_, rfl, fun i j hij => ?_, ⟨?_, ?_⟩, wr_eq, ?_, fun hok => ⟨?_, fun t ht => ?_⟩, fun j hj => ⟨?_, ?_⟩, fun j hj => ?_⟩
  · simp only [kS, Bool.and_eq_true, decide_eq_true_eq, Bool.not_eq_true', Bool.and_eq_false_iff, Bool.or_eq_false_iff, decide_eq_false_iff_not] at hij
    rw [wr_ne (by omega), w i j (by omega) (by omega), wr_nr (by omega), wr_nr (by omega)]
  · rw [wr_nk (by decide), ok]
    exact h2.1
  · rw [wr_nk (by decide), en]
    exact h2.2
  · rw [wr_nr (by decide), w 12 c (by omega) (by omega), wr_nr (by decide), wr_eq]
  · rw [wr_nr (by decide), w 13 c (by omega) (by omega), wr_eq, hl]
  · rw [wr_nr (by decide)]
    unfold stN at ht
    unfold stV
    rw [hf] at ht ⊢
    exact h3 (by rw [← ok]; exact hok) t ht
  · rw [wr_nr (by decide), w 12 j (by omega) (by omega), wr_nr (by decide), wr_nk hj]
  · rw [wr_nr (by decide), w 13 j (by omega) (by omega), wr_nk hj, wr_nr (by decide)]
  · rw [wr_nr (by decide), w 14 j (by omega) (by omega), wr_nr (by decide), wr_nr (by decide)]
theorem many_loop (hW : LMm S A W) (hc2 : c < 49) {K : Nat} (hK : K ≤ 5) (hsg : ∀ t, t < K → sg (t + 1) = 49 ∧ jm t = t + 1) (hin : ∀ i, i ≤ K + 1 → (stq S A sg p i).2 ≤ S) : ∀ (d t : Nat) (m : ZMem) (q : Nat), t + d = K → MS S A W c sg jm p (t + 1) t m → d < q → ∃ m', L_X12_readMany_2 n q (5 * (c : Int)) (K : Int) (t : Int) m = some (0, m') ∧ MS S A W c sg jm p (K + 1) K m' := by
  intro d
  induction d with
  | zero =>
    intro t m q h1 hM hq
    obtain ⟨q, rfl⟩ : ∃ z, q = z + 1 := ⟨q - 1, by omega⟩
    refine ⟨m, ?_, by rw [show K = t by omega]; exact hM⟩
    show B_X12_readMany_2 n (L_X12_readMany_2 n q) (5 * (c : Int)) (K : Int) (t : Int) m = _
    unfold B_X12_readMany_2
    rw [if_pos (by omega)]
  | succ d ih =>
    intro t m q h1 hM hq
    obtain ⟨q, rfl⟩ : ∃ z, q = z + 1 := ⟨q - 1, by omega⟩
    obtain ⟨s1, s2⟩ := hsg t (by omega)
    obtain ⟨v, m', e, hM'⟩ := ms_v hM s1 s2 (M_digit (n := n) (ok := (stq S A sg p (t + 1)).1) (p := (stq S A sg p (t + 1)).2) (LMm_q hW hM.1) hM.2.1 (hin _ (by omega)))
    show ∃ m', B_X12_readMany_2 n (L_X12_readMany_2 n q) (5 * (c : Int)) (K : Int) (t : Int) m = some (0, m') ∧ MS S A W c sg jm p (K + 1) K m'
    unfold B_X12_readMany_2
    rw [if_neg (by omega), chk_pos (by omega), E_bnd e rfl, zM14, chk_pos (by omega), chk_pos (by omega), show (5 * (c : Int) + (t : Int)).toNat = 5 * c + t by omega, cast1]
    exact ih (t + 1) _ q (by omega) hM' (by omega)
theorem M_statement (h : LMm S A m) (hn : 10000 ≤ n) (hs : MST m (true, p)) (hp : p ≤ S) (hc : m 0 22 = (c : Int)) (hc2 : c < 49) : MRS S A m c p (F_X12_readStatement n m) := by
  have h21 : m 0 21 = 0 := hs.1
  have h20 : m 0 20 = (p : Int) := hs.2
  have sz := h.2.1
  have hh := here_ltr (p := p) h
  generalize hl : (if p < S then A p else (-1 : Int)) = l at hh
  have eH : F_X12_here n m = some (l, m) := by rw [← hl]; exact M_here h h20
  have b21 : ∀ v, wr (wr m 12 c (p : Int)) 13 c v 0 21 = 0 := fun v => by rw [wr_nr (by decide), wr_nr (by decide)]; exact h21
  have b20 : ∀ u, wr (wr (wr m 12 c (p : Int)) 13 c l) 0 21 u 0 20 = (p : Int) := fun u => by rw [wr_nk (by decide), wr_nr (by decide), wr_nr (by decide)]; exact h20
  -- the beginning, with a letter that begins a form
  have hb : ∀ v, (v = 102 ∨ v = 112 ∨ v = 104 ∨ v = 116 ∨ v = 115 ∨ v = 99) → l = v → F_X12_readStatement n m = B_X12_readStatement_100 n l (5 * (c : Int)) 1 (p : Int) (wr (wr (wr m 12 c (p : Int)) 13 c l) 0 21 0) := by
    intro v hv hlv
    unfold F_X12_readStatement
    rw [E_bnd eH rfl, hc, zM12, zM13, h20, chk_pos (by omega), chk_pos (by omega), chk_pos (by omega), Int.toNat_natCast, b21, if_pos rfl, b20, wr_eq]
    by_cases z1 : l = 102
    · rw [if_pos z1, if_pos rfl]
    by_cases z2 : l = 112
    · rw [if_neg z1, if_pos z2, if_pos rfl]
    by_cases z3 : l = 104
    · rw [if_neg z1, if_neg z2, if_pos z3, if_pos rfl]
    by_cases z4 : l = 116
    · rw [if_neg z1, if_neg z2, if_neg z3, if_pos z4, if_pos rfl]
    by_cases z5 : l = 115
    · rw [if_neg z1, if_neg z2, if_neg z3, if_neg z4, if_pos z5, if_pos rfl]
    by_cases z6 : l = 99
    · rw [if_neg z1, if_neg z2, if_neg z3, if_neg z4, if_neg z5, if_pos z6, if_pos rfl]
    · omega
  have known : ∀ (f : Nat) (v : Int), f < 6 → (v = 102 ∨ v = 112 ∨ v = 104 ∨ v = 116 ∨ v = 115 ∨ v = 99) → l = v → fId v = f → sgF f 0 = v → ∃ W, LMm S A W ∧ (∀ i j, (i = 0 ∧ (j = 20 ∨ j = 21)) ∨ W i j = wr (wr m 12 c (p : Int)) 13 c l i j) ∧ MS S A W c (sgF f) (jmF f) p 1 0 (wr (wr (wr (wr m 12 c (p : Int)) 13 c l) 0 21 0) 0 20 ((p : Int) + 1)) ∧ fId (ltr S A p) = f ∧ l = ltr S A p ∧ (∀ i, i ≤ lnF f → (stq S A (sgF f) p i).2 ≤ S) ∧ F_X12_readStatement n m = B_X12_readStatement_100 n l (5 * (c : Int)) 1 (p : Int) (wr (wr (wr m 12 c (p : Int)) 13 c l) 0 21 0) := by
    intro f v hf6 hv hlv hfv hsg
    have hlt : ltr S A p = v := by omega
    have r : rdR S A v p = (true, p + 1, 0) := by unfold rdR; rw [if_neg (by omega), if_neg (by omega), if_neg (by omega), if_neg (by omega), if_pos hlt]
    have s1 : stq S A (sgF f) p 1 = (true, p + 1) := by
      show stepM S A (sgF f 0) (true, p) = _
      rw [step_t, hsg, r]
    refine ⟨wr (wr (wr (wr m 12 c (p : Int)) 13 c l) 0 21 0) 0 20 ((p : Int) + 1), ⟨?_, sz, fun j hj => ?_⟩, fun i j => ?_, ⟨AG.rf, ?_, fun _ t ht => by omega⟩, by rw [hlt]; exact hfv, by omega, fun i hi => stq_in hp i (fun j hj => (frm_ok f (by omega) j (by have := (ln_bd f (by omega)).1; omega) (by omega)).1.1), hb v hv hlv⟩
    · rw [wr_nk (by decide), wr_nk (by decide), wr_nr (by decide), wr_nr (by decide)]
      exact h.1
    · rw [wr_nr (by decide), wr_nr (by decide), wr_nr (by decide), wr_nr (by decide)]
      exact h.2.2 j hj
    · by_cases e : i = 0 ∧ (j = 20 ∨ j = 21)
      · exact Or.inl e
      · refine Or.inr ?_
        rw [wr_ne (by omega), wr_ne (by omega)]
    · rw [s1]
      exact ⟨by rw [wr_nk (by decide), wr_eq]; rfl, by rw [wr_eq]; exact cast1 p⟩
  by_cases z1 : l = 102
  · obtain ⟨W, hW, hWd, hM, hf, hl2, hin, eS⟩ := known 0 102 (by decide) (by decide) z1 rfl rfl
    obtain ⟨v1, m1, e1, M1⟩ := ms_50 (n := n) hW hM rfl rfl (hin _ (by decide))
    obtain ⟨m2, e2, M2⟩ := ms_tk (n := n) hW M1 (g := 59) rfl (by decide) (by decide) (hin _ (by decide))
    rw [eS]
    unfold B_X12_readStatement_100
    rw [chk_pos (by omega), if_pos z1, E_bnd e1 rfl, zM14, chk_pos (by omega), show (5 * (c : Int)).toNat = 5 * c + 0 by omega, E_bnd e2 rfl]
    exact ms_end hf (by decide) hc hc2 hl2 hWd M2
  by_cases z2 : l = 112
  · obtain ⟨W, hW, hWd, hM, hf, hl2, hin, eS⟩ := known 1 112 (by decide) (by decide) z2 rfl rfl
    obtain ⟨m1, e1, M1⟩ := many_loop (n := n) hW hc2 (K := 3) (by decide) (fun t ht => by
      have : t = 0 ∨ t = 1 ∨ t = 2 := by omega
      rcases this with rfl | rfl | rfl <;> exact ⟨rfl, rfl⟩) (fun i hi => hin i (by show i ≤ 6; omega)) 3 0 _ n (by decide) hM (by omega)
    have e1' : F_X12_readMany n (5 * (c : Int)) 3 _ = some (0, m1) := e1
    obtain ⟨v2, m2, e2, M2⟩ := ms_50 (n := n) hW M1 rfl rfl (hin _ (by decide))
    obtain ⟨m3, e3, M3⟩ := ms_tk (n := n) hW M2 (g := 59) rfl (by decide) (by decide) (hin _ (by decide))
    rw [eS]
    unfold B_X12_readStatement_100
    rw [chk_pos (by omega), if_neg (by omega), if_neg (by omega), if_neg (by omega), if_neg (by omega), if_neg (by omega), if_neg (by omega), if_neg (by omega), if_neg (by omega), if_neg (by omega), if_neg (by omega), if_pos z2, E_bnd e1' rfl, chk_pos (by omega), E_bnd e2 rfl, zM14, chk_pos (by omega), show (5 * (c : Int) + 3).toNat = 5 * c + 3 by omega, E_bnd e3 rfl]
    exact ms_end hf (by decide) hc hc2 hl2 hWd M3
  by_cases z3 : l = 104
  · obtain ⟨W, hW, hWd, hM, hf, hl2, hin, eS⟩ := known 2 104 (by decide) (by decide) z3 rfl rfl
    obtain ⟨v1, m1, e1, M1⟩ := ms_49 (n := n) hW hM rfl rfl (hin _ (by decide))
    obtain ⟨m2, e2, M2⟩ := ms_tk (n := n) hW M1 (g := 61) rfl (by decide) (by decide) (hin _ (by decide))
    obtain ⟨v3, m3, e3, M3⟩ := ms_50 (n := n) hW M2 rfl rfl (hin _ (by decide))
    obtain ⟨m4, e4, M4⟩ := ms_tk (n := n) hW M3 (g := 59) rfl (by decide) (by decide) (hin _ (by decide))
    rw [eS]
    unfold B_X12_readStatement_100
    rw [chk_pos (by omega), if_neg (by omega), if_neg (by omega), if_pos z3, E_bnd e1 rfl, zM14, chk_pos (by omega), show (5 * (c : Int)).toNat = 5 * c + 0 by omega, E_bnd e2 rfl, chk_pos (by omega), E_bnd e3 rfl, chk_pos (by omega), show (5 * (c : Int) + 1).toNat = 5 * c + 1 by omega, E_bnd e4 rfl]
    exact ms_end hf (by decide) hc hc2 hl2 hWd M4
  by_cases z4 : l = 116
  · obtain ⟨W, hW, hWd, hM, hf, hl2, hin, eS⟩ := known 3 116 (by decide) (by decide) z4 rfl rfl
    obtain ⟨v1, m1, e1, M1⟩ := ms_79 (n := n) hW hM rfl rfl (hin _ (by decide))
    obtain ⟨v2, m2, e2, M2⟩ := ms_50 (n := n) hW M1 rfl rfl (hin _ (by decide))
    obtain ⟨m3, e3, M3⟩ := ms_tk (n := n) hW M2 (g := 59) rfl (by decide) (by decide) (hin _ (by decide))
    rw [eS]
    unfold B_X12_readStatement_100
    rw [chk_pos (by omega), if_neg (by omega), if_neg (by omega), if_neg (by omega), if_neg (by omega), if_neg (by omega), if_neg (by omega), if_neg (by omega), if_neg (by omega), if_neg (by omega), if_neg (by omega), if_neg (by omega), if_neg (by omega), if_neg (by omega), if_neg (by omega), if_pos z4, E_bnd e1 rfl, zM14, chk_pos (by omega), show (5 * (c : Int)).toNat = 5 * c + 0 by omega, chk_pos (by omega), E_bnd e2 rfl, chk_pos (by omega), show (5 * (c : Int) + 1).toNat = 5 * c + 1 by omega, E_bnd e3 rfl]
    exact ms_end hf (by decide) hc hc2 hl2 hWd M3
  by_cases z5 : l = 115
  · obtain ⟨W, hW, hWd, hM, hf, hl2, hin, eS⟩ := known 4 115 (by decide) (by decide) z5 rfl rfl
    obtain ⟨m1, e1, M1⟩ := many_loop (n := n) hW hc2 (K := 5) (by decide) (fun t ht => by
      have : t = 0 ∨ t = 1 ∨ t = 2 ∨ t = 3 ∨ t = 4 := by omega
      rcases this with rfl | rfl | rfl | rfl | rfl <;> exact ⟨rfl, rfl⟩) (fun i hi => hin i (by show i ≤ 7; omega)) 5 0 _ n (by decide) hM (by omega)
    have e1' : F_X12_readMany n (5 * (c : Int)) 5 _ = some (0, m1) := e1
    obtain ⟨m3, e3, M3⟩ := ms_tk (n := n) hW M1 (g := 59) rfl (by decide) (by decide) (hin _ (by decide))
    rw [eS]
    unfold B_X12_readStatement_100
    rw [chk_pos (by omega), if_neg (by omega), if_neg (by omega), if_neg (by omega), if_neg (by omega), if_neg (by omega), if_neg (by omega), if_neg (by omega), if_neg (by omega), if_neg (by omega), if_neg (by omega), if_neg (by omega), if_neg (by omega), if_neg (by omega), if_pos z5, E_bnd e1' rfl, E_bnd e3 rfl]
    exact ms_end hf (by decide) hc hc2 hl2 hWd M3
  by_cases z6 : l = 99
  · obtain ⟨W, hW, hWd, hM, hf, hl2, hin, eS⟩ := known 5 99 (by decide) (by decide) z6 rfl rfl
    obtain ⟨v1, m1, e1, M1⟩ := ms_51 (n := n) hW hM rfl rfl (hin _ (by decide))
    obtain ⟨v2, m2, e2, M2⟩ := ms_51 (n := n) hW M1 rfl rfl (hin _ (by decide))
    obtain ⟨v3, m3, e3, M3⟩ := ms_51 (n := n) hW M2 rfl rfl (hin _ (by decide))
    obtain ⟨m4, e4, M4⟩ := ms_tk (n := n) hW M3 (g := 59) rfl (by decide) (by decide) (hin _ (by decide))
    rw [eS, B100_c _ _ _ _ _ _ (by omega)]
    unfold cBR
    rw [chk_pos (by omega), E_bnd e1 rfl, zM14, chk_pos (by omega), show (5 * (c : Int)).toNat = 5 * c + 0 by omega, chk_pos (by omega), E_bnd e2 rfl, chk_pos (by omega), show (5 * (c : Int) + 1).toNat = 5 * c + 1 by omega, chk_pos (by omega), E_bnd e3 rfl, chk_pos (by omega), show (5 * (c : Int) + 2).toNat = 5 * c + 2 by omega, E_bnd e4 rfl]
    exact ms_end hf (by decide) hc hc2 hl2 hWd M4
  · -- no form begins so
    have f6 : fId (ltr S A p) = 6 := by
      unfold fId
      rw [if_neg (by omega), if_neg (by omega), if_neg (by omega), if_neg (by omega), if_neg (by omega), if_neg (by omega)]
    have ok6 : stOk S A p = false := by
      unfold stOk
      rw [f6]
      show (_ && decide ((6 : Nat) ≠ 6)) = false
      rw [show decide ((6 : Nat) ≠ 6) = false from rfl, Bool.and_false]
    have en6 : stEnd S A p = p := by unfold stEnd; rw [f6]; rfl
    have eS : F_X12_readStatement n m = cBR n (5 * (c : Int)) (wr (wr (wr (wr m 12 c (p : Int)) 13 c l) 0 21 1) 0 20 ((p : Int) + 0)) := by
      unfold F_X12_readStatement
      rw [E_bnd eH rfl, hc, zM12, zM13, h20, chk_pos (by omega), chk_pos (by omega), chk_pos (by omega), Int.toNat_natCast, b21, if_pos rfl, if_neg z1, if_neg z2, if_neg z3, if_neg z4, if_neg z5, if_neg z6, wr_eq, if_neg (by decide), b20, B100_c _ _ _ _ _ _ (by omega), chk_pos (by omega)]
    rw [eS, Int.add_zero]
    have sf : MST (wr (wr (wr (wr m 12 c (p : Int)) 13 c l) 0 21 1) 0 20 (p : Int)) (false, p) := ⟨by rw [wr_nk (by decide), wr_eq]; rfl, wr_eq⟩
    have lm0 : LMm S A (wr (wr (wr (wr m 12 c (p : Int)) 13 c l) 0 21 1) 0 20 (p : Int)) := ⟨by rw [wr_nk (by decide), wr_nk (by decide), wr_nr (by decide), wr_nr (by decide)]; exact h.1, sz, fun j hj => by rw [wr_nr (by decide), wr_nr (by decide), wr_nr (by decide), wr_nr (by decide)]; exact h.2.2 j hj⟩
    have w0 : ∀ i j, ¬ (i = 0 ∧ (j = 20 ∨ j = 21)) → wr (wr (wr (wr m 12 c (p : Int)) 13 c l) 0 21 1) 0 20 (p : Int) i j = wr (wr m 12 c (p : Int)) 13 c l i j := fun i j z => by rw [wr_ne (by omega), wr_ne (by omega)]
    generalize wr (wr (wr (wr m 12 c (p : Int)) 13 c l) 0 21 1) 0 20 (p : Int) = W at sf lm0 w0 ⊢
    have st14 : ∀ {m' : ZMem} {k : Nat} {v : Int}, AG (kQ c) W m' → AG (kQ c) W (wr m' 14 (5 * c + k) v) := fun h => h.wr (by simp [kQ])
    have ms14 : ∀ {m' : ZMem} {k : Nat} {v : Int}, MST m' (false, p) → MST (wr m' 14 k v) (false, p) := fun h => ⟨by rw [wr_nr (by decide)]; exact h.1, by rw [wr_nr (by decide)]; exact h.2⟩
    obtain ⟨v1, m1, e1, a1, s1, -, -⟩ := M_two (n := n) lm0 sf hp
    rw [step_f] at s1
    have q1 := st14 (k := 0) (v := v1) (kD_kQ (c := c) AG.rf a1)
    obtain ⟨v2, m2, e2, a2, s2, -, -⟩ := M_two (n := n) (LMm_q lm0 q1) (ms14 (k := 5 * c + 0) (v := v1) s1) hp
    rw [step_f] at s2
    have q2 := st14 (k := 1) (v := v2) (kD_kQ q1 a2)
    obtain ⟨v3, m3, e3, a3, s3, -, -⟩ := M_two (n := n) (LMm_q lm0 q2) (ms14 (k := 5 * c + 1) (v := v2) s2) hp
    rw [step_f] at s3
    have q3 := st14 (k := 2) (v := v3) (kD_kQ q2 a3)
    obtain ⟨m4, e4, a4, s4⟩ := M_take (n := n) (LMm_q lm0 q3) (ms14 (k := 5 * c + 2) (v := v3) s3) (by omega) (g := 59) (by decide) (by decide)
    rw [step_f] at s4
    have q4 := kD_kQ q3 a4
    unfold cBR
    rw [E_bnd e1 rfl, zM14, chk_pos (by omega), show (5 * (c : Int)).toNat = 5 * c + 0 by omega, chk_pos (by omega), E_bnd e2 rfl, chk_pos (by omega), show (5 * (c : Int) + 1).toNat = 5 * c + 1 by omega, chk_pos (by omega), E_bnd e3 rfl, chk_pos (by omega), show (5 * (c : Int) + 2).toNat = 5 * c + 2 by omega, E_bnd e4 rfl]
    have w : ∀ i j, ¬ (i = 0 ∧ (j = 20 ∨ j = 21)) → ¬ (i = 14 ∧ 5 * c ≤ j) → m4 i j = wr (wr m 12 c (p : Int)) 13 c l i j := by
      intro i j z1 z2
      rw [q4 i j (by simp only [kQ, Bool.and_eq_true, Bool.not_eq_true', Bool.and_eq_false_iff, Bool.or_eq_false_iff, decide_eq_false_iff_not]; omega)]
      exact w0 i j z1
    have e22 : m4 0 22 = (c : Int) := by rw [w 0 22 (by decide) (by omega), wr_nr (by decide), wr_nr (by decide)]; exact hc
    rw [e22, chk_pos (by omega)]
    refine ⟨_, rfl, fun i j hij => ?_, ⟨?_, ?_⟩, wr_eq, ?_, fun hok => (by rw [ok6] at hok; cases hok), fun j hj => ⟨?_, ?_⟩, fun j hj => ?_⟩
    · simp only [kS, Bool.and_eq_true, decide_eq_true_eq, Bool.not_eq_true', Bool.and_eq_false_iff, Bool.or_eq_false_iff, decide_eq_false_iff_not] at hij
      rw [wr_ne (by omega), w i j (by omega) (by omega), wr_nr (by omega), wr_nr (by omega)]
    · rw [wr_nk (by decide), ok6]
      exact s4.1
    · rw [wr_nk (by decide), en6]
      exact s4.2
    · rw [wr_nr (by decide), w 12 c (by omega) (by omega), wr_nr (by decide), wr_eq]
    · rw [wr_nr (by decide), w 12 j (by omega) (by omega), wr_nr (by decide), wr_nk hj]
    · rw [wr_nr (by decide), w 13 j (by omega) (by omega), wr_nk hj, wr_nr (by decide)]
    · rw [wr_nr (by decide), w 14 j (by omega) (by omega), wr_nr (by decide), wr_nr (by decide)]
end ZPA3
