/-! OPERATIONS 17: standIn, recipes, usedUp, dish -/
section ZOP17
variable {x s m : ZMem} {c n p : Nat}
theorem X_s6 (h : XK x 1 s) {i k : Nat} (hi : (i : Int) < s 0 4) (hk : k < 5) : F_X9_at n 6 (i : Int) (k : Int) x = some (s 8 (5 * i + k), x) := by
  obtain ⟨-, -, -, ⟨t1, t2, t3⟩, -⟩ := XK_parts h
  rw [← t3 i hi k hk]
  exact X_at t1 (by rw [t2]; exact hi) hk
theorem op_standIn (h : CP c x m) (hc : c ≤ 1000) (a w : Int) : SIM c (F_X11_standIn n a w x) (F_X12_standIn n a w m) := by
  have hw := WFs_t h.k.2
  have hk := XK_t (k := 1) h.k.1
  have h6 := hw.ns
  have hnp : wr m 0 16 0 0 4 = m 0 4 := rfl
  have es : x 6 3 = m 0 4 := h.k.1.s6
  have b1 := npS_bd (x 6 3) a
  have b3 := ncS_bd w 4
  have ex : ∀ r : Int, -6 ≤ r ∧ r ≤ -1 → refS (npS (x 6 3) a) (ncS w 4) 0 = r → F_X11_standIn n a w x = some (r, rfX x r) := by
    intro r hr e
    unfold F_X11_standIn
    refine E_bnd (X_noSuch _ _ _ _) (E_bnd (X_noChoice _ _ _ _) (E_bnd (X_ref2 h.f hc b1 b3 e (by omega)) ?_))
    rw [if_neg (by omega)]
  by_cases hp : 0 ≤ a ∧ a < m 0 4
  · by_cases h2 : 0 ≤ w ∧ w ≤ 4
    · obtain ⟨i, rfl⟩ : ∃ p : Nat, a = (p : Int) := ⟨a.toNat, by omega⟩
      obtain ⟨k, rfl⟩ : ∃ p : Nat, w = (p : Int) := ⟨w.toNat, by omega⟩
      refine SIM_tw h ?_
      unfold F_X11_standIn F_X12_standIn
      refine TW_bx (X_noSuch _ _ _ _) (TW_bx (X_noChoice _ _ _ _) (TW_bx (X_not2 (by rw [es, npS_t hp]; unfold ncS; rw [if_pos h2]; rfl) b1) (TW_x (if_pos rfl) ?_)))
      refine TW_cm (by omega) (TW_bm (M_in_t (by omega)) (TW_m (if_neg (by decide)) (TW_bm (M_in_t h2) (TW_m (if_neg (by decide)) ?_))))
      refine TW_bx (X_s6 hk hp.2 (by omega)) ?_
      simp only [zM1, zM2, zM3, zM4, zM5, zM6, zM7, zM8, zM9, zM10, zM11, zM12, zM13, zM14, zM15, zM16, zM17, zM18, zM19, zM20, zM21, zM22, zM23, zM24, zM25, zM26, zM27, zM28, zM29]
      refine TW_cm (by omega) (TW_cm (by omega) (TW_cm (by omega) (TW_some ?_)))
      rw [show (5 * (i : Int) + (k : Int)).toNat = 5 * i + k by omega]
    · refine SIM_ref h (r := -2) (by decide) (ex _ (by decide) (by rw [es, npS_t hp]; unfold ncS; rw [if_neg h2]; rfl)) ?_
      unfold F_X12_standIn
      refine E_chk (by omega) (E_bnd (M_in_t (by omega)) ?_)
      rw [if_neg (by decide)]
      refine E_bnd (M_in_f h2) ?_
      rw [if_pos rfl]
      refine E_chk (by omega) (E_bnd (M_in_t (by omega)) ?_)
      rw [if_neg (by decide)]
      exact E_bnd (M_ref h hc (by decide)) rfl
  · refine SIM_ref h (r := -1) (by decide) (ex _ (by decide) (by rw [es, npS_f hp]; rfl)) ?_
    unfold F_X12_standIn
    refine E_chk (by omega) (E_bnd (M_in_f (by omega)) ?_)
    rw [if_pos rfl]
    refine E_chk (by omega) (E_bnd (M_in_f (by omega)) ?_)
    rw [if_pos rfl]
    exact E_bnd (M_ref h hc (by decide)) rfl
/-- both recipes fit the house -/
def fitB (s : ZMem) (i k : Int) (p : Nat) : Bool := decide (s 4 p * i + s 22 p * k ≤ s 5 p * s 0 0)
def fitS (s : ZMem) (i k : Int) : Bool := allS (fitB s i k) (s 0 2).toNat
theorem fit_bds (hw : WFs s) (hp : (p : Int) < s 0 2) {i k : Int} (hi : 0 ≤ i ∧ i ≤ 24) (hk : 0 ≤ k ∧ k ≤ 24) : (0 ≤ s 4 p * i ∧ s 4 p * i ≤ 2376) ∧ (0 ≤ s 22 p * k ∧ s 22 p * k ≤ 2376) ∧ (0 ≤ s 5 p * s 0 0 ∧ s 5 p * s 0 0 ≤ 2376) := by
  have hf := hw.f
  obtain ⟨h1, h2, h3, h4, h5, h6, h7⟩ := hw.pt p hp
  have a := mul_bd (a := s 4 p) (b := i) (A := 99) (B := 24) (by omega) h4.2 hi.1 hi.2
  have b := mul_bd (a := s 22 p) (b := k) (A := 99) (B := 24) h7.1 h7.2 hk.1 hk.2
  have d := mul_bd (a := s 5 p) (b := s 0 0) (A := 99) (B := 24) h5.1 h5.2 (by omega) hf.2
  omega
theorem X_bothFit (h : XK x 1 s) (hw : WFs s) (hn : 10000 ≤ n) {i k : Int} (hi : 0 ≤ i ∧ i ≤ 24) (hk : 0 ≤ k ∧ k ≤ 24) : F_X6_bothFit n i k x = some (b01 (fitS s i k), x) := by
  have h8 := np_le hw
  have key := loop_all (L := fun q (z : Int × ZMem) => L_X6_bothFit_2 n q i k z.1 z.2) (s 0 2).toNat (fitB s i k) (fun p => ((p : Int), x)) (some (1, x)) (some (0, x)) ?_ ?_ ?_ n (by omega)
  · refine Eq.trans key ?_
    unfold fitS b01
    split <;> rfl
  all_goals
    first
    | (intro p q hp hf
       have hp2 := np_lt hw hp
       have b := fit_bds hw hp2 hi hk
       show B_X6_bothFit_2 n (L_X6_bothFit_2 n q) i k (p : Int) x = _
       unfold B_X6_bothFit_2
       refine E_bnd (X_size n 2 x) ?_
       rw [h.s2, if_neg (by omega)]
       refine E_bnd (X_p3 h hp2) (E_chk (by omega) (E_bnd (X_p6 h hp2) (E_chk (by omega) (E_chk (by omega) (E_bnd (X_p4 h hp2) ?_)))))
       rw [h.fm]
       refine E_chk (by omega) ?_
       simp only [fitB, decide_eq_true_eq, decide_eq_false_iff_not] at hf
       first
       | (rw [if_pos hf]
          refine E_chk (by omega) ?_
          rw [cast1])
       | rw [if_neg hf])
    | (intro q
       show B_X6_bothFit_2 n (L_X6_bothFit_2 n q) i k _ x = _
       unfold B_X6_bothFit_2
       refine E_bnd (X_size n 2 x) ?_
       rw [h.s2, if_pos (by have := np_cast hw; omega)])
theorem M_areBoth (hw : WFs s) (hn : 10000 ≤ n) {i k : Int} (hi : 0 ≤ i ∧ i ≤ 24) (hk : 0 ≤ k ∧ k ≤ 24) : F_X12_areBoth n i k s = some (b01 (fitS s i k), s) := by
  have h8 := np_le hw
  refine loop_run (L := fun q (z : Int × Int × ZMem) => L_X12_areBoth_5 n q i k z.1 z.2.1 z.2.2) (s 0 2).toNat (fun p => (b01 (allS (fitB s i k) p), (p : Int), s)) _ ?_ ?_ n (by omega)
  · intro p q hp
    have hp2 := np_lt hw hp
    have b := fit_bds hw hp2 hi hk
    show B_X12_areBoth_5 n (L_X12_areBoth_5 n q) i k _ (p : Int) s = L_X12_areBoth_5 n q i k (b01 (allS (fitB s i k) p && fitB s i k p)) ((p + 1 : Nat) : Int) s
    unfold B_X12_areBoth_5
    simp only [zM1, zM2, zM3, zM4, zM5, zM6, zM7, zM8, zM9, zM10, zM11, zM12, zM13, zM14, zM15, zM16, zM17, zM18, zM19, zM20, zM21, zM22, zM23, zM24, zM25, zM26, zM27, zM28, zM29, Int.toNat_natCast]
    rw [if_neg (by omega)]
    cases ha : allS (fitB s i k) p with
    | false =>
      rw [b01_f, if_pos rfl]
      refine E_chk (by omega) ?_
      rw [cast1]
      rfl
    | true =>
      rw [b01_t, if_neg (by decide)]
      refine E_chk (by omega) (E_chk (by omega) (E_chk (by omega) (E_chk (by omega) (E_chk (by omega) (E_chk (by omega) (E_chk (by omega) (E_ite (fun hc => E_chk (by omega) ?_) (fun hc => E_chk (by omega) ?_))))))))
      · rw [cast1, show fitB s i k p = false by simp only [fitB, decide_eq_false_iff_not]; omega]
        rfl
      · rw [cast1, show fitB s i k p = true by simp only [fitB, decide_eq_true_eq]; omega]
        rfl
  · intro q
    show B_X12_areBoth_5 n (L_X12_areBoth_5 n q) i k _ ((s 0 2).toNat : Int) s = _
    unfold B_X12_areBoth_5
    rw [if_pos (by have := np_cast hw; omega)]
    refine E_chk ?_ rfl
    unfold b01
    split
    · exact Or.inr rfl
    · exact Or.inl rfl
/-- the pair sought: fits, most together, then most of the first -/
def bstS (s : ZMem) (i k : Int) : Prop := fitS s i k = true ∧ (0 ≤ i ∧ i ≤ 24) ∧ (0 ≤ k ∧ k ≤ 24) ∧ ∀ i' k' : Int, 0 ≤ i' ∧ i' ≤ 24 → 0 ≤ k' ∧ k' ≤ 24 → fitS s i' k' = true → 100 * (i' + k') + i' ≤ 100 * (i + k) + i
theorem bst_uni {i k i' k' : Int} (h : bstS s i k) (h' : bstS s i' k') : i = i' ∧ k = k' := by
  obtain ⟨f1, r1, r2, g1⟩ := h
  obtain ⟨f2, r3, r4, g2⟩ := h'
  have a := g1 i' k' r3 r4 f2
  have b := g2 i k r1 r2 f1
  omega
theorem fit_00 (hw : WFs s) : fitS s 0 0 = true := by
  unfold fitS
  have : ∀ K, K ≤ (s 0 2).toNat → allS (fitB s 0 0) K = true := by
    intro K
    induction K with
    | zero => intro _; rfl
    | succ K ih =>
      intro hK
      have b := fit_bds hw (np_lt hw (k := K) (by omega)) (i := 0) (k := 0) (by decide) (by decide)
      show (allS (fitB s 0 0) K && fitB s 0 0 K) = true
      rw [ih (by omega), show fitB s 0 0 K = true by simp only [fitB, decide_eq_true_eq]; omega]
      rfl
  exact this _ (Nat.le_refl _)
def invX (s : ZMem) (a b x1 x2 : Int) : Prop := (x1 = 0 ∧ x2 = -1 ∧ ∀ i k : Int, 0 ≤ i ∧ i ≤ 24 → 0 ≤ k ∧ k ≤ 24 → (a < i ∨ (i = a ∧ b < k)) → ¬ fitS s i k = true) ∨ (∃ i k : Int, x1 = 100 * i + k ∧ x2 = i + k ∧ (0 ≤ i ∧ i ≤ 24) ∧ (0 ≤ k ∧ k ≤ 24) ∧ a ≤ i ∧ fitS s i k = true ∧ ∀ i' k' : Int, 0 ≤ i' ∧ i' ≤ 24 → 0 ≤ k' ∧ k' ≤ 24 → (a < i' ∨ (i' = a ∧ b < k')) → fitS s i' k' = true → 100 * (i' + k') + i' ≤ 100 * (i + k) + i)
def resX (s x : ZMem) (o : ZR) : Prop := ∃ i k : Int, o = some (100 * i + k, x) ∧ bstS s i k
theorem recX_in (h : XK x 1 s) (hw : WFs s) (hn : 10000 ≤ n) {a : Int} (ha : 0 ≤ a ∧ a ≤ 24) (rx : Int → Int → Int → ZMem → ZR) (hc : ∀ x1 x2, invX s a (-1) x1 x2 → resX s x (rx x1 x2 (a + (-1)) x)) : ∀ (d : Nat) (b x1 x2 : Int) (q : Nat), b + 1 = (d : Int) → b ≤ 24 → invX s a b x1 x2 → d < q → resX s x (L_X6_bothRecipes_15 n rx q x1 x2 a b x) := by
  intro d
  induction d with
  | zero =>
    intro b x1 x2 q h1 hb h2 hq
    obtain ⟨q, rfl⟩ : ∃ z, q = z + 1 := ⟨q - 1, by omega⟩
    have eb : b = -1 := by omega
    subst eb
    show resX s x (B_X6_bothRecipes_15 n rx (L_X6_bothRecipes_15 n rx q) x1 x2 a (-1) x)
    unfold B_X6_bothRecipes_15
    rw [if_pos (by decide), chk_pos (by omega)]
    exact hc x1 x2 h2
  | succ d ih =>
    intro b x1 x2 q h1 hb h2 hq
    obtain ⟨q, rfl⟩ : ∃ z, q = z + 1 := ⟨q - 1, by omega⟩
    have b0 : 0 ≤ b := by omega
    have sx : -1 ≤ x2 ∧ x2 ≤ 48 := by
      rcases h2 with ⟨-, e, -⟩ | ⟨i, k, -, e, r1, r2, -⟩ <;> omega
    show resX s x (B_X6_bothRecipes_15 n rx (L_X6_bothRecipes_15 n rx q) x1 x2 a b x)
    unfold B_X6_bothRecipes_15
    rw [if_neg (by omega), chk_pos (by omega)]
    have skip : invX s a (b + (-1)) x1 x2 → resX s x (L_X6_bothRecipes_15 n rx q x1 x2 a (b + (-1)) x) := fun hI => ih (b + (-1)) x1 x2 q (by omega) (by omega) hI (by omega)
    by_cases e : a + b ≤ x2
    · rw [if_pos e, chk_pos (by omega)]
      apply skip
      rcases h2 with ⟨-, e2, -⟩ | ⟨i, k, e1, e2, r1, r2, r3, r4, r5⟩
      · omega
      · refine Or.inr ⟨i, k, e1, e2, r1, r2, r3, r4, fun i' k' hi hk hp hf => ?_⟩
        by_cases z : i' = a ∧ k' = b
        · omega
        · exact r5 i' k' hi hk (by omega) hf
    · rw [if_neg e, E_bnd (X_bothFit h hw hn ha (show 0 ≤ b ∧ b ≤ 24 from ⟨b0, hb⟩)) rfl]
      cases hf : fitS s a b with
      | false =>
        rw [b01_f, if_pos rfl, chk_pos (by omega)]
        apply skip
        rcases h2 with ⟨e1, e2, e3⟩ | ⟨i, k, e1, e2, r1, r2, r3, r4, r5⟩
        · refine Or.inl ⟨e1, e2, fun i' k' hi hk hp hf2 => ?_⟩
          by_cases z : i' = a ∧ k' = b
          · rw [z.1, z.2, hf] at hf2
            cases hf2
          · exact e3 i' k' hi hk (by omega) hf2
        · refine Or.inr ⟨i, k, e1, e2, r1, r2, r3, r4, fun i' k' hi hk hp hf2 => ?_⟩
          by_cases z : i' = a ∧ k' = b
          · rw [z.1, z.2, hf] at hf2
            cases hf2
          · exact r5 i' k' hi hk (by omega) hf2
      | true =>
        rw [b01_t, if_neg (by decide), chk_pos (by omega), chk_pos (by omega), chk_pos (by omega), chk_pos (by omega)]
        refine ih (b + (-1)) _ _ q (by omega) (by omega) (Or.inr ⟨a, b, rfl, rfl, ha, ⟨b0, hb⟩, Int.le_refl _, hf, fun i' k' hi hk hp hf2 => ?_⟩) (by omega)
        by_cases z : i' = a ∧ k' = b
        · omega
        · rcases h2 with ⟨e1, e2, e3⟩ | ⟨i, k, e1, e2, r1, r2, r3, r4, r5⟩
          · exact absurd hf2 (e3 i' k' hi hk (by omega))
          · have := r5 i' k' hi hk (by omega) hf2
            omega
theorem recX_out (h : XK x 1 s) (hw : WFs s) (hn : 10000 ≤ n) : ∀ (d : Nat) (a x1 x2 : Int) (q : Nat), a + 1 = (d : Int) → a ≤ 24 → invX s a 24 x1 x2 → d < q → resX s x (L_X6_bothRecipes_7 n q x1 x2 a x) := by
  intro d
  induction d with
  | zero =>
    intro a x1 x2 q h1 ha h2 hq
    obtain ⟨q, rfl⟩ : ∃ z, q = z + 1 := ⟨q - 1, by omega⟩
    have eb : a = -1 := by omega
    subst eb
    show resX s x (B_X6_bothRecipes_7 n (L_X6_bothRecipes_7 n q) x1 x2 (-1) x)
    unfold B_X6_bothRecipes_7
    rw [if_pos (by decide)]
    rcases h2 with ⟨e1, e2, e3⟩ | ⟨i, k, e1, e2, r1, r2, r3, r4, r5⟩
    · exact absurd (fit_00 hw) (e3 0 0 (by decide) (by decide) (by decide))
    · exact ⟨i, k, by rw [e1], r4, r1, r2, fun i' k' hi hk hf => r5 i' k' hi hk (by omega) hf⟩
  | succ d ih =>
    intro a x1 x2 q h1 ha h2 hq
    obtain ⟨q, rfl⟩ : ∃ z, q = z + 1 := ⟨q - 1, by omega⟩
    show resX s x (B_X6_bothRecipes_7 n (L_X6_bothRecipes_7 n q) x1 x2 a x)
    unfold B_X6_bothRecipes_7
    rw [if_neg (by omega)]
    refine recX_in h hw hn (by omega) _ (fun y1 y2 hI => ?_) 25 24 x1 x2 n (by decide) (by decide) h2 (by omega)
    refine ih (a + (-1)) y1 y2 q (by omega) (by omega) ?_ (by omega)
    rcases hI with ⟨e1, e2, e3⟩ | ⟨i, k, e1, e2, r1, r2, r3, r4, r5⟩
    · exact Or.inl ⟨e1, e2, fun i' k' hi hk hp => e3 i' k' hi hk (by omega)⟩
    · exact Or.inr ⟨i, k, e1, e2, r1, r2, by omega, r4, fun i' k' hi hk hp hf => r5 i' k' hi hk (by omega) hf⟩
def invM (s : ZMem) (a b i k : Int) : Prop := (0 ≤ i ∧ i ≤ 24) ∧ (0 ≤ k ∧ k ≤ 24) ∧ i ≤ a ∧ fitS s i k = true ∧ ∀ i' k' : Int, 0 ≤ i' ∧ i' ≤ 24 → 0 ≤ k' ∧ k' ≤ 24 → (i' < a ∨ (i' = a ∧ k' < b)) → fitS s i' k' = true → 100 * (i' + k') + i' ≤ 100 * (i + k) + i
def resM (s : ZMem) (w : Int) (o : ZR) : Prop := ∃ i k : Int, o = some (if w = 0 then i else k, s) ∧ bstS s i k
theorem recM_in (hw : WFs s) (hn : 10000 ≤ n) {a w : Int} (ha : 0 ≤ a ∧ a ≤ 24) (rm : Int → Int → Int → Int → ZMem → ZR) (hc : ∀ i k, invM s a 25 i k → resM s w (rm w i k (a + 1) s)) : ∀ (d : Nat) (b i k : Int) (q : Nat), b + (d : Int) = 25 → 0 ≤ b → invM s a b i k → d < q → resM s w (L_X12_recipes_39 n rm q w i k a b s) := by
  intro d
  induction d with
  | zero =>
    intro b i k q h1 hb h2 hq
    obtain ⟨q, rfl⟩ : ∃ z, q = z + 1 := ⟨q - 1, by omega⟩
    have eb : b = 25 := by omega
    subst eb
    show resM s w (B_X12_recipes_39 n rm (L_X12_recipes_39 n rm q) w i k a 25 s)
    unfold B_X12_recipes_39
    rw [if_pos (by decide), chk_pos (by omega)]
    exact hc i k h2
  | succ d ih =>
    intro b i k q h1 hb h2 hq
    obtain ⟨q, rfl⟩ : ∃ z, q = z + 1 := ⟨q - 1, by omega⟩
    obtain ⟨r1, r2, r3, r4, r5⟩ := h2
    show resM s w (B_X12_recipes_39 n rm (L_X12_recipes_39 n rm q) w i k a b s)
    unfold B_X12_recipes_39
    rw [if_neg (by omega), E_bnd (M_areBoth hw hn ha (show 0 ≤ b ∧ b ≤ 24 by omega)) rfl]
    unfold B_X12_recipes_73
    cases hf : fitS s a b with
    | false =>
      rw [b01_f, if_pos rfl, if_pos rfl, if_pos rfl, chk_pos (by omega)]
      refine ih (b + 1) i k q (by omega) (by omega) ⟨r1, r2, r3, r4, fun i' k' hi hk hp hf2 => ?_⟩ (by omega)
      by_cases z : i' = a ∧ k' = b
      · rw [z.1, z.2, hf] at hf2
        cases hf2
      · exact r5 i' k' hi hk (by omega) hf2
    | true =>
      rw [b01_t, if_neg (by decide), chk_pos (by omega), chk_pos (by omega)]
      by_cases e : a + b < i + k
      · rw [if_pos e, if_pos rfl, if_pos rfl, chk_pos (by omega)]
        refine ih (b + 1) i k q (by omega) (by omega) ⟨r1, r2, r3, r4, fun i' k' hi hk hp hf2 => ?_⟩ (by omega)
        by_cases z : i' = a ∧ k' = b
        · omega
        · exact r5 i' k' hi hk (by omega) hf2
      · rw [if_neg e, if_neg (by decide), if_neg (by decide), chk_pos (by omega)]
        refine ih (b + 1) a b q (by omega) (by omega) ⟨ha, by omega, Int.le_refl _, hf, fun i' k' hi hk hp hf2 => ?_⟩ (by omega)
        by_cases z : i' = a ∧ k' = b
        · omega
        · have := r5 i' k' hi hk (by omega) hf2
          omega
theorem recM_out (hw : WFs s) (hn : 10000 ≤ n) {w : Int} : ∀ (d : Nat) (a i k : Int) (q : Nat), a + (d : Int) = 25 → 0 ≤ a → invM s a 0 i k → d < q → resM s w (L_X12_recipes_29 n q w i k a s) := by
  intro d
  induction d with
  | zero =>
    intro a i k q h1 ha h2 hq
    obtain ⟨q, rfl⟩ : ∃ z, q = z + 1 := ⟨q - 1, by omega⟩
    obtain ⟨r1, r2, r3, r4, r5⟩ := h2
    show resM s w (B_X12_recipes_29 n (L_X12_recipes_29 n q) w i k a s)
    unfold B_X12_recipes_29
    rw [if_pos (by omega)]
    refine ⟨i, k, ?_, r4, r1, r2, fun i' k' hi hk hf => r5 i' k' hi hk (by omega) hf⟩
    split <;> rfl
  | succ d ih =>
    intro a i k q h1 ha h2 hq
    obtain ⟨q, rfl⟩ : ∃ z, q = z + 1 := ⟨q - 1, by omega⟩
    show resM s w (B_X12_recipes_29 n (L_X12_recipes_29 n q) w i k a s)
    unfold B_X12_recipes_29
    rw [if_neg (by omega)]
    refine recM_in hw hn (by omega) _ (fun i2 k2 hI => ?_) 25 0 i k n (by decide) (by decide) h2 (by omega)
    obtain ⟨r1, r2, r3, r4, r5⟩ := hI
    exact ih (a + 1) i2 k2 q (by omega) (by omega) ⟨r1, r2, by omega, r4, fun i' k' hi hk hp hf => r5 i' k' hi hk (by omega) hf⟩ (by omega)
theorem op_recipes (h : CP c x m) (hc : c ≤ 1000) (hn : 10000 ≤ n) (w : Int) : SIM c (F_X11_recipes n w x) (F_X12_recipes n w m) := by
  have hw := WFs_t h.k.2
  have hk := XK_t (k := 1) h.k.1
  have b1 := ncS_bd w 1
  unfold F_X11_recipes F_X12_recipes
  by_cases h2 : 0 ≤ w ∧ w ≤ 1
  · have e1 : ncS w 1 = 0 := by unfold ncS; rw [if_pos h2]
    refine SIM_tw h ?_
    refine TW_bx (X_noChoice _ _ _ _) (TW_bx (X_noto e1) (TW_x (if_pos rfl) (TW_bm (M_in_t h2) (TW_m (if_neg (by decide)) ?_))))
    obtain ⟨i, k, ex, hb⟩ := recX_out (n := n) hk hw hn 25 24 0 (-1) n (by decide) (by decide) (Or.inl ⟨rfl, rfl, fun i k hi hk hp => by omega⟩) (by omega)
    obtain ⟨i', k', em, hb'⟩ := recM_out (n := n) (w := w) hw hn 25 0 0 0 n (by decide) (by decide) ⟨by decide, by decide, by decide, fit_00 hw, fun i k hi hk hp => by omega⟩ (by omega)
    obtain ⟨rfl, rfl⟩ := bst_uni hb hb'
    obtain ⟨-, r1, r2, -⟩ := hb
    refine TW_m em (TW_bx ex ?_)
    refine TW_ix (fun e => TW_cx (by omega) ?_) (fun e => TW_cx (by omega) ?_)
    · rw [if_pos e]
      exact TW_some (by omega)
    · rw [if_neg e]
      exact TW_some (by omega)
  · have e1 : ncS w 1 = -2 := by unfold ncS; rw [if_neg h2]
    refine SIM_ref h (r := -2) (by decide) ?_ ?_
    · refine E_bnd (X_noChoice _ _ _ _) ?_
      rw [e1]
      refine E_bnd (X_refo h.f hc (a := -2) (by decide) (by decide)) ?_
      rw [if_neg (by decide)]
    · refine E_bnd (M_in_f h2) ?_
      rw [if_pos rfl]
      exact E_bnd (M_ref h hc (by decide)) rfl
end ZOP17
