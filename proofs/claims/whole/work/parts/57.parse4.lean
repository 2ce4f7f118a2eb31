/-! THE PARSE, fourth: the whole book, on both sides -/
def pls (S : Nat) (A : Nat → Int) : Nat → Nat
  | 0 => 0
  | c + 1 => stEnd S A (pls S A c)
theorem ln3 : ∀ f, f < 6 → 3 ≤ lnF f := by decide +kernel
theorem cnt5 : ∀ f, f < 7 → cntv (sgF f) (lnF f) ≤ 5 := by decide +kernel
def STO (S : Nat) (A : Nat → Int) (c : Nat) (m : ZMem) : Prop := ∀ c', c' < c → stOk S A (pls S A c') = true ∧ m 12 c' = (pls S A c' : Int) ∧ m 13 c' = ltr S A (pls S A c') ∧ ∀ t, t < stN S A (pls S A c') → m 14 (5 * c' + t) = stV S A (pls S A c') t
def eOK (n : Nat) (m : ZMem) : ZR := bnd (F_X12_carryAll n 15 1 (wr m 0 19 0)) (fun v14 m15 => L_X12_book_84 n n 0 m15)
section ZPA4
variable {y y0 m m0 : ZMem} {n S p : Nat} {A : Nat → Int}
theorem st_grow (h : stOk S A p = true) : p + 3 ≤ stEnd S A p := by
  unfold stOk at h
  simp only [Bool.and_eq_true, decide_eq_true_eq] at h
  have h6 := fId_lt (ltr S A p)
  have l3 := ln3 (fId (ltr S A p)) (by omega)
  have := stq_go (S := S) (A := A) (sg := sgF (fId (ltr S A p))) (p := p) (lnF (fId (ltr S A p))) h.1
  unfold stEnd
  omega
theorem st_in (h : p ≤ S) : stEnd S A p ≤ S := by
  unfold stEnd
  have h7 := fId_lt (ltr S A p)
  have l7 := (ln_bd (fId (ltr S A p)) h7).1
  exact stq_in h _ (fun j hj => (frm_ok _ h7 j (by omega) hj).1.1)
theorem stN5 : stN S A p ≤ 5 := cnt5 _ (fId_lt _)
theorem kS_L (h : LMm S A m0) (hA : AG kS m0 m) : LMm S A m := ⟨by rw [hA 0 19 rfl]; exact h.1, h.2.1, fun j hj => by rw [hA 11 j rfl]; exact h.2.2 j hj⟩
/-- how both parses end -/
def PEND (S : Nat) (A : Nat → Int) (y0 m0 : ZMem) (ox om : ZR) (n : Nat) : Prop :=
  (∃ (y' m' : ZMem) (pF : Int), ox = some (0, y') ∧ AG kT y0 y' ∧ TB y' 43 5 1 ∧ y' 40 2 = (pF : Int) ∧ (0 ≤ pF ∧ pF ≤ 200) ∧ om = some (-1000 - pF, wr m' 0 19 0) ∧ AG kS m0 m') ∨
  (∃ (y' m' : ZMem) (C : Nat), ox = some (1, y') ∧ AG kT y0 y' ∧ TB y' 43 5 1 ∧ om = eOK n m' ∧ AG kS m0 m' ∧ m' 0 22 = (C : Int) ∧ (1 ≤ C ∧ C ≤ 32) ∧ S ≤ pls S A C ∧ (∀ c, c < C → pls S A c < S ∧ 3 * c ≤ pls S A c) ∧ STO S A C m')
theorem par_loop (hL : LB S A y0) (hM0 : LMm S A m0) (hn : 10000 ≤ n) : ∀ (d c : Nat) (y m : ZMem) (q q' : Nat), S + 1 ≤ pls S A c + d → (c = 0 ∨ pls S A c < S) → 3 * c ≤ pls S A c → pls S A c ≤ S → AG kT y0 y → TB y 43 5 1 → y 40 2 = (pls S A c : Int) → AG kS m0 m → MST m (true, pls S A c) → m 0 22 = (c : Int) → STO S A c m → (∀ c', c' < c → pls S A c' < S ∧ 3 * c' ≤ pls S A c') → d + 2 < q → d + 2 < q' → PEND S A y0 m0 (L_X1_hasForm_7 n q (c : Int) y) (L_X12_book_20 n q' m) n := by
  intro d
  induction d with
  | zero =>
    intro c y m q q' h1 h2 h3 h4
    omega
  | succ d ih =>
    intro c y m q q' h1 h2 h3 h4 a1 a2 a3 b1 b2 b3 b4 b5 hq hq'
    obtain ⟨q, rfl⟩ : ∃ z, q = z + 1 := ⟨q - 1, by omega⟩
    obtain ⟨q', rfl⟩ : ∃ z, q' = z + 2 := ⟨q' - 2, by omega⟩
    have sz := hM0.2.1
    have hLy := LB_ag hL a1
    have hMm := kS_L hM0 b1
    obtain ⟨y1, e1, x1, x2, x3, x4⟩ := X_statement hLy hn a2 (p := pls S A c) (by omega) a3
    obtain ⟨m1, e2, g1, g2, g3, g4, g5, g6, g7⟩ := M_statement (n := n) hMm hn b2 h4 b3 (by omega)
    have eX : L_X1_hasForm_7 n (q + 1) (c : Int) y = bnd (some (b01 (stOk S A (pls S A c)), y1)) (fun v6 m7 => if (v6 : Int) = (0 : Int) then (some (0, m7)) else (bnd (F_X9_size n 41 m7) (fun v12 m13 => if ((m7 40 2) : Int) < (v12 : Int) then (chk (R32 ((c : Int) + 1)) (L_X1_hasForm_7 n q ((c : Int) + 1) m13)) else (some (1, m13))))) := by
      show B_X1_hasForm_7 n (L_X1_hasForm_7 n q) (c : Int) y = _
      unfold B_X1_hasForm_7
      rw [E_bnd (X_size n 41 y) rfl, hLy.2.1, if_neg (by omega), e1]
    have f0 : m 0 21 = 0 := b2.1
    have m19 : m 0 19 = (S : Int) := hMm.1
    have m20 : m 0 20 = (pls S A c : Int) := b2.2
    have eM : L_X12_book_20 n (q' + 2) m = L_X12_book_20 n (q' + 1) m1 := by
      show B_X12_book_20 n (L_X12_book_20 n (q' + 1)) m = _
      unfold B_X12_book_20
      rw [if_pos f0, b3, m19, m20]
      by_cases c0 : (c : Int) = 0
      · rw [if_pos c0, E_bnd e2 rfl]
      · rw [if_neg c0, if_neg (by omega), E_bnd e2 rfl]
    rw [eX, eM, bnd_some]
    have ag1 : AG kT y0 y1 := a1.tr x1
    have ag2 : AG kS m0 m1 := b1.tr g1
    cases hok : stOk S A (pls S A c) with
    | false =>
      rw [hok] at g2
      rw [b01_f, if_pos rfl]
      have le := st_in (S := S) (A := A) h4
      refine Or.inl ⟨y1, m1, (stEnd S A (pls S A c) : Int), rfl, ag1, x2, x3, by omega, ?_, ag2⟩
      have f1 : m1 0 21 = 1 := g2.1
      have f2 : m1 0 20 = (stEnd S A (pls S A c) : Int) := g2.2
      show B_X12_book_20 n (L_X12_book_20 n q') m1 = _
      unfold B_X12_book_20
      rw [if_neg (by omega), wr_nk (by decide), f1, if_neg (by decide), wr_nk (by decide), f2, chk_pos (by omega)]
    | true =>
      rw [hok] at g2
      rw [b01_t, if_neg (by decide), E_bnd (X_size n 41 y1) rfl, (LB_ag hL ag1).2.1, x3]
      have gr := st_grow hok
      have inn := st_in (S := S) (A := A) h4
      have pc : pls S A (c + 1) = stEnd S A (pls S A c) := rfl
      have sto : STO S A (c + 1) m1 := by
        intro c' hc'
        by_cases e : c' = c
        · subst e
          exact ⟨hok, g4, (g5 hok).1, (g5 hok).2⟩
        · obtain ⟨k1, k2, k3, k4⟩ := b4 c' (by omega)
          have n5 := stN5 (S := S) (A := A) (p := pls S A c')
          refine ⟨k1, by rw [(g6 c' e).1]; exact k2, by rw [(g6 c' e).2]; exact k3, fun t ht => ?_⟩
          rw [g7 _ (by omega)]
          exact k4 t ht
      have all5 : pls S A c < S → ∀ c', c' < c + 1 → pls S A c' < S ∧ 3 * c' ≤ pls S A c' := by
        intro hlt c' hc'
        by_cases e : c' = c
        · rw [e]; exact ⟨hlt, h3⟩
        · exact b5 c' (by omega)
      have hlt : pls S A c < S := by omega
      by_cases e : stEnd S A (pls S A c) < S
      · rw [if_pos (by omega), chk_pos (by omega), cast1]
        exact ih (c + 1) y1 m1 q (q' + 1) (by omega) (Or.inr (by omega)) (by omega) (by omega) ag1 x2 x3 ag2 g2 (by omega) sto (all5 hlt) (by omega) (by omega)
      · rw [if_neg (by omega)]
        refine Or.inr ⟨y1, m1, c + 1, rfl, ag1, x2, ?_, ag2, by omega, by omega, by omega, all5 hlt, sto⟩
        have f1 : m1 0 21 = 0 := g2.1
        have f2 : m1 0 20 = (stEnd S A (pls S A c) : Int) := g2.2
        have f3 : m1 0 19 = (S : Int) := (kS_L hM0 ag2).1
        show B_X12_book_20 n (L_X12_book_20 n q') m1 = _
        unfold B_X12_book_20
        rw [if_pos f1, g3, if_neg (by omega), f3, f2, if_pos (by omega), wr_nk (by decide), f1, if_pos rfl]
        rfl
end ZPA4
