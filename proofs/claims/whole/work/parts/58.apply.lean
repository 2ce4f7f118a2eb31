/-! THE PARSE, fifth: what a statement does to the kitchen -/
def sh (y : ZMem) : ZMem := fun i j => y (i + 26) j
theorem sh_wr (y : ZMem) (a b : Nat) (v : Int) : sh (wr y (a + 26) b v) = wr (sh y) a b v := by
  funext i j
  show (if i + 26 = a + 26 ∧ j = b then v else y (i + 26) j) = (if i = a ∧ j = b then v else y (i + 26) j)
  by_cases e : i = a ∧ j = b
  · rw [if_pos e, if_pos ⟨by omega, e.2⟩]
  · rw [if_neg e, if_neg (by omega)]
theorem TB_sh {y : ZMem} {t R W : Nat} (h : TB y (t + 26) R W) (hz : zlen LX (t + 1) = ((R * W : Nat) : Int)) : TB (sh y) t R W := ⟨h.1, h.2.1, h.2.2.1, hz, h.2.2.2.2⟩
theorem TB_hs {y : ZMem} {t R W : Nat} (h : TB (sh y) t R W) (hz : zlen LX (t + 26 + 1) = ((R * W : Nat) : Int)) : TB y (t + 26) R W := ⟨h.1, h.2.1, h.2.2.1, hz, h.2.2.2.2⟩
theorem XK_sh {y s : ZMem} (h : XK y 27 s) : XK (sh y) 1 s := by
  obtain ⟨f, ⟨t1, t2, t3, t4, t5, t6⟩, z, h4, h5, h6, h7, h8, h9⟩ := h
  exact ⟨f, ⟨TB_sh (t := 2) t1 rfl, TB_sh (t := 4) t2 rfl, TB_sh (t := 6) t3 rfl, TB_sh (t := 8) t4 rfl, TB_sh (t := 10) t5 rfl, TB_sh (t := 12) t6 rfl⟩, z, h4, h5, h6, h7, h8, h9⟩
theorem XK_hs {y s : ZMem} (h : XK (sh y) 1 s) : XK y 27 s := by
  obtain ⟨f, ⟨t1, t2, t3, t4, t5, t6⟩, z, h4, h5, h6, h7, h8, h9⟩ := h
  exact ⟨f, ⟨TB_hs (t := 2) t1 rfl, TB_hs (t := 4) t2 rfl, TB_hs (t := 6) t3 rfl, TB_hs (t := 8) t4 rfl, TB_hs (t := 10) t5 rfl, TB_hs (t := 12) t6 rfl⟩, z, h4, h5, h6, h7, h8, h9⟩
/-- a new line in a table -/
def NR (x : ZMem) (u b W : Nat) (T : Nat → Int) (K : Nat) (x' : ZMem) : Prop := (∀ j, j < b → x' (u + 1) j = x (u + 1) j) ∧ (∀ c, c < W → x' (u + 1) (b + c) = if c < K then T c else 0) ∧ x' u 3 = x u 3 + 1 ∧ (∀ i j, i ≠ u + 1 → ¬ (i = u ∧ j = 3) → x' i j = x i j)
section ZAPP
variable {y m s : ZMem} {n K : Nat}
/-- what is told -/
def TL (K : Nat) (y : ZMem) : Prop := TB y 43 5 1 ∧ y 43 3 = (K : Int)
theorem X_told (h : TL K y) {i : Nat} (hi : i < K) : F_X9_at n 43 (i : Int) 0 y = some (y 44 i, y) := X_at0 h.1 (by rw [h.2]; omega)
theorem X_within (h : TL K y) {i : Nat} (hi : i < K) (lo hi' : Int) : F_X1_within n (i : Int) lo hi' y = some (b01 (decide (lo ≤ y 44 i ∧ y 44 i ≤ hi')), y) := by
  unfold F_X1_within
  rw [E_bnd (X_told h hi) rfl, E_bnd (X_told h hi) rfl]
  by_cases c1 : y 44 i < lo
  · rw [if_pos c1, show decide (lo ≤ y 44 i ∧ y 44 i ≤ hi') = false by rw [decide_eq_false_iff_not]; omega]
    rfl
  · rw [if_neg c1]
    by_cases c2 : hi' < y 44 i
    · rw [if_pos c2, show decide (lo ≤ y 44 i ∧ y 44 i ≤ hi') = false by rw [decide_eq_false_iff_not]; omega]
      rfl
    · rw [if_neg c2, show decide (lo ≤ y 44 i ∧ y 44 i ≤ hi') = true by rw [decide_eq_true_eq]; omega]
      rfl
theorem X_number_at (h : TL K y) {i : Nat} (hi : i < K) : F_X1_number n (i : Int) y = some (y 44 i, y) := by
  unfold F_X1_number
  exact E_bnd (X_told h hi) rfl
theorem line_run (hTL : TL K y) {u R W l : Nat} (hu : u ≠ 43 ∧ u ≠ 42 ∧ u ≠ 44) (hTB : TB y u R W) (hl : y u 3 = (l : Int)) (hlR : l < R) (hK : 1 ≤ K ∧ K ≤ W ∧ K ≤ 5) : ∀ (d k : Nat) (x' : ZMem) (q : Nat), k + d = K → 1 ≤ k → NR y u (l * W) W (y 44) k x' → TB x' u R W → d < q → ∃ x2, L_X1_lineCame_16 n u q (l : Int) (k : Int) x' = some (1, x2) ∧ NR y u (l * W) W (y 44) K x2 := by
  intro d
  induction d with
  | zero =>
    intro k x' q h1 h2 hN hT hq
    obtain ⟨q, rfl⟩ : ∃ z, q = z + 1 := ⟨q - 1, by omega⟩
    have ek : k = K := by omega
    subst ek
    refine ⟨x', ?_, hN⟩
    have e43 : x' 43 3 = (k : Int) := by rw [hN.2.2.2 43 3 (by omega) (by omega)]; exact hTL.2
    show B_X1_lineCame_16 n u (L_X1_lineCame_16 n u q) (l : Int) (k : Int) x' = _
    unfold B_X1_lineCame_16
    rw [E_bnd (X_size n 43 x') rfl, e43, if_pos (Int.le_refl _), if_neg (by omega)]
  | succ d ih =>
    intro k x' q h1 h2 hN hT hq
    obtain ⟨q, rfl⟩ : ∃ z, q = z + 1 := ⟨q - 1, by omega⟩
    have g := hN.2.2.2
    have hTL' : TL K x' := ⟨TB_fr hTL.1 (g _ _ (by omega) (by omega)) (g _ _ (by omega) (by omega)) (g _ _ (by omega) (by omega)), by rw [g 43 3 (by omega) (by omega)]; exact hTL.2⟩
    have e44 : x' 44 k = y 44 k := g 44 k (by omega) (by omega)
    have sz : x' u 3 = (l : Int) + 1 := by rw [hN.2.2.1, hl]
    have ep := X_put (n := n) (i := l) (j := k) (v := y 44 k) hT (by omega) (by omega)
    have ea : F_X9_at n 43 (k : Int) 0 x' = some (y 44 k, x') := by rw [← e44]; exact X_told hTL' (by omega)
    show ∃ x2, B_X1_lineCame_16 n u (L_X1_lineCame_16 n u q) (l : Int) (k : Int) x' = some (1, x2) ∧ NR y u (l * W) W (y 44) K x2
    unfold B_X1_lineCame_16
    rw [E_bnd (X_size n 43 x') rfl, hTL'.2, if_neg (by omega), E_bnd ea rfl, E_bnd ep rfl, chk_pos (by omega), cast1]
    refine ih (k + 1) _ q (by omega) (by omega) ⟨fun j hj => ?_, fun c hc => ?_, by rw [wr_nr (by omega)]; exact hN.2.2.1, fun i j h3 h4 => by rw [wr_nr h3]; exact g i j h3 h4⟩ (TB_fr hT (wr_nr (by omega)) (wr_nr (by omega)) (wr_nr (by omega))) (by omega)
    · rw [wr_nk (by omega)]
      exact hN.1 j hj
    · by_cases e : c = k
      · subst e
        rw [wr_eq, if_pos (by omega)]
      · rw [wr_nk (by omega), hN.2.1 c hc]
        by_cases e2 : c < k
        · rw [if_pos e2, if_pos (by omega)]
        · rw [if_neg e2, if_neg (by omega)]
theorem X_line (hTL : TL K y) (hn : 10000 ≤ n) {u R W l : Nat} (hu : u ≠ 43 ∧ u ≠ 42 ∧ u ≠ 44) (hTB : TB y u R W) (hl : y u 3 = (l : Int)) (hlR : l < R) (hK : 1 ≤ K ∧ K ≤ W ∧ K ≤ 5) : ∃ x2, F_X1_lineCame n u y = some (1, x2) ∧ NR y u (l * W) W (y 44) K x2 := by
  have e0 : F_X9_at n 43 0 0 y = some (y 44 0, y) := X_told hTL (i := 0) (by omega)
  have ea := X_add (n := n) (v := y 44 0) hTB hn (by omega)
  have ad : ∀ i j, addT y u W (y 44 0) i j = if i = u ∧ j = 3 then y u 3 + 1 else if i = u + 1 ∧ l * W ≤ j ∧ j < l * W + W then (if j = l * W then y 44 0 else 0) else y i j := by
    intro i j
    unfold addT
    rw [hl, Int.toNat_natCast]
    by_cases e : i = u ∧ j = 3
    · rw [if_pos e, e.1, e.2, wr_eq]
    · rw [if_neg e, wr_ne (by omega)]
      rfl
  have n0 : NR y u (l * W) W (y 44) 1 (addT y u W (y 44 0)) := by
    refine ⟨fun j hj => ?_, fun c hc => ?_, by rw [addT_sz], fun i j h3 h4 => ?_⟩
    · rw [ad, if_neg (by omega), if_neg (by omega)]
    · rw [ad, if_neg (by omega), if_pos ⟨rfl, by omega, by omega⟩]
      by_cases e : c < 1
      · have e0 : c = 0 := by omega
        subst e0
        rw [if_pos (by omega), if_pos (by omega)]
      · rw [if_neg (by omega), if_neg e]
    · rw [ad, if_neg h4, if_neg (fun z => h3 z.1)]
  obtain ⟨x2, e, hN⟩ := line_run (n := n) hTL hu hTB hl hlR hK (K - 1) 1 _ n (by omega) (by decide) n0 (TB_add hTB (by omega)) (by omega)
  refine ⟨x2, ?_, hN⟩
  unfold F_X1_lineCame
  rw [E_bnd e0 rfl, E_bnd ea rfl, hl]
  exact e
theorem full_run (hTL : TL K y) {u R W : Nat} (hTB : TB y u R W) (hK : K ≤ 5) : ∀ (d k q : Nat), k + d = K → d < q → L_X1_lineCame_16 n u q (-9) (k : Int) y = some (0, y) := by
  intro d
  induction d with
  | zero =>
    intro k q h1 hq
    obtain ⟨q, rfl⟩ : ∃ z, q = z + 1 := ⟨q - 1, by omega⟩
    show B_X1_lineCame_16 n u (L_X1_lineCame_16 n u q) (-9) (k : Int) y = _
    unfold B_X1_lineCame_16
    rw [E_bnd (X_size n 43 y) rfl, hTL.2, if_pos (by omega), if_pos rfl]
  | succ d ih =>
    intro k q h1 hq
    obtain ⟨q, rfl⟩ : ∃ z, q = z + 1 := ⟨q - 1, by omega⟩
    show B_X1_lineCame_16 n u (L_X1_lineCame_16 n u q) (-9) (k : Int) y = _
    unfold B_X1_lineCame_16
    rw [E_bnd (X_size n 43 y) rfl, hTL.2, if_neg (by omega), E_bnd (X_told hTL (by omega)) rfl, E_bnd (X_put_out (Or.inl (by decide))) rfl, chk_pos (by omega), cast1]
    exact ih (k + 1) q (by omega) (by omega)
theorem X_line_full (hTL : TL K y) (hn : 10000 ≤ n) {u R W : Nat} (hTB : TB y u R W) (hl : y u 3 = (R : Int)) (hK : 1 ≤ K ∧ K ≤ 5) : F_X1_lineCame n u y = some (0, y) := by
  have e0 : F_X9_at n 43 0 0 y = some (y 44 0, y) := X_told hTL (i := 0) (by omega)
  unfold F_X1_lineCame
  rw [E_bnd e0 rfl, E_bnd (X_add_full hTB hl) rfl]
  exact full_run (n := n) hTL hTB hK.2 (K - 1) 1 n (by omega) (by omega)
/-! what the kitchen's parts become -/
theorem sh_AG {u : Nat} {y' : ZMem} (h : ∀ i j, i ≠ u + 27 → ¬ (i = u + 26 ∧ j = 3) → y' i j = y i j) {kp : Nat → Nat → Bool} (h1 : ∀ j, kp (u + 1) j = false) (h2 : kp u 3 = false) : AG kp (sh y) (sh y') := by
  intro i j hij
  refine h (i + 26) j ?_ ?_
  · intro e
    have : i = u + 1 := by omega
    rw [this, h1] at hij
    cases hij
  · rintro ⟨e, rfl⟩
    have : i = u := by omega
    rw [this, h2] at hij
    cases hij
def mPart (m : ZMem) (k : Nat) (T : Nat → Int) : ZMem := wr (wr (wr (wr (wr (wr (wr (wr m 1 k (T 0)) 2 k (T 1)) 3 k (T 2)) 4 k (T 3)) 5 k 0) 21 k 0) 22 k 0) 0 2 ((k : Int) + 1)
theorem mPart_AG {m' : ZMem} {k : Nat} {T : Nat → Int} {kp : Nat → Nat → Bool} (h : AG kp m' m) (h1 : ∀ j, kp 1 j = false) (h2 : ∀ j, kp 2 j = false) (h3 : ∀ j, kp 3 j = false) (h4 : ∀ j, kp 4 j = false) (h5 : ∀ j, kp 5 j = false) (h6 : ∀ j, kp 21 j = false) (h7 : ∀ j, kp 22 j = false) (h8 : kp 0 2 = false) : AG kp m' (mPart m k T) := (((((((h.wr (h1 _)).wr (h2 _)).wr (h3 _)).wr (h4 _)).wr (h5 _)).wr (h6 _)).wr (h7 _)).wr h8
theorem XK_newPart {k : Nat} {T : Nat → Int} {y' : ZMem} (h : XK y 27 m) (hs : m 0 2 = (k : Int)) (hk : k < 8) (hN : NR y 28 (k * 7) 7 T 4 y') : XK y' 27 (mPart m k T) := by
  obtain ⟨n1, n2, n3, n4⟩ := hN
  refine XK_hs ?_
  obtain ⟨hf, hp, ht, hst, hcu, hwe, hd⟩ := XK_parts (XK_sh h)
  have ax : ∀ {kp : Nat → Nat → Bool}, (∀ j, kp 3 j = false) → kp 2 3 = false → AG kp (sh y) (sh y') := fun h1 h2 => sh_AG (u := 2) n4 h1 h2
  have am : ∀ {kp : Nat → Nat → Bool}, (∀ j, kp 1 j = false) → (∀ j, kp 2 j = false) → (∀ j, kp 3 j = false) → (∀ j, kp 4 j = false) → (∀ j, kp 5 j = false) → (∀ j, kp 21 j = false) → (∀ j, kp 22 j = false) → kp 0 2 = false → AG kp m (mPart m k T) := mPart_AG AG.rf
  refine XK_of ⟨XKf_fr hf (ax (fun _ => rfl) rfl) (am (fun _ => rfl) (fun _ => rfl) (fun _ => rfl) (fun _ => rfl) (fun _ => rfl) (fun _ => rfl) (fun _ => rfl) rfl), ?_, XKt_fr ht (ax (fun _ => rfl) rfl) (am (fun _ => rfl) (fun _ => rfl) (fun _ => rfl) (fun _ => rfl) (fun _ => rfl) (fun _ => rfl) (fun _ => rfl) rfl), XKs_fr hst (ax (fun _ => rfl) rfl) (am (fun _ => rfl) (fun _ => rfl) (fun _ => rfl) (fun _ => rfl) (fun _ => rfl) (fun _ => rfl) (fun _ => rfl) rfl), XKc_fr hcu (ax (fun _ => rfl) rfl) (am (fun _ => rfl) (fun _ => rfl) (fun _ => rfl) (fun _ => rfl) (fun _ => rfl) (fun _ => rfl) (fun _ => rfl) rfl), XKw_fr hwe (ax (fun _ => rfl) rfl) (am (fun _ => rfl) (fun _ => rfl) (fun _ => rfl) (fun _ => rfl) (fun _ => rfl) (fun _ => rfl) (fun _ => rfl) rfl), XKd_fr hd (ax (fun _ => rfl) rfl) (am (fun _ => rfl) (fun _ => rfl) (fun _ => rfl) (fun _ => rfl) (fun _ => rfl) (fun _ => rfl) (fun _ => rfl) rfl)⟩
  obtain ⟨t1, t2, t3⟩ := hp
  have e3 : sh y' 2 3 = (k : Int) + 1 := by
    show y' 28 3 = _
    rw [n3]
    have : y 28 3 = m 0 2 := t2
    omega
  have np : mPart m k T 0 2 = (k : Int) + 1 := wr_eq
  refine ⟨TB_sz t1 (n4 28 1 (by decide) (by decide)) (n4 28 2 (by decide) (by decide)) (by rw [e3]; omega), by rw [e3, np], fun p hp => ?_⟩
  rw [np] at hp
  have c : ∀ r, r ≠ 0 → mPart m k T r p = wr (wr (wr (wr (wr (wr (wr m 1 k (T 0)) 2 k (T 1)) 3 k (T 2)) 4 k (T 3)) 5 k 0) 21 k 0) 22 k 0 r p := fun r hr => wr_nr hr
  rw [c 1 (by decide), c 2 (by decide), c 3 (by decide), c 4 (by decide), c 5 (by decide), c 21 (by decide), c 22 (by decide)]
  by_cases e : p = k
  · subst e
    simp (disch := decide) only [wr_nr, wr_eq]
    have z : ∀ c, c < 7 → sh y' 3 (p * 7 + c) = if c < 4 then T c else 0 := fun c hc => n2 c hc
    rw [z 0 (by decide), z 1 (by decide), z 2 (by decide), z 3 (by decide), z 4 (by decide), z 5 (by decide), z 6 (by decide)]
    exact ⟨rfl, rfl, rfl, rfl, rfl, rfl, rfl⟩
  · have z : ∀ c, c < 7 → sh y' 3 (p * 7 + c) = sh y 3 (p * 7 + c) := fun c hc => n1 _ (by omega)
    rw [z 0 (by decide), z 1 (by decide), z 2 (by decide), z 3 (by decide), z 4 (by decide), z 5 (by decide), z 6 (by decide)]
    have w : ∀ {a : ZMem} {r r' : Nat} {v : Int}, wr a r k v r' p = a r' p := fun {_ _ _ _} => wr_nk e
    simp only [w]
    exact t3 p (by omega)
theorem WFs_newPart {k : Nat} {T : Nat → Int} (h : WFs m) (hs : m 0 2 = (k : Int)) (hk : k < 8) (h0 : 0 ≤ T 0 ∧ T 0 ≤ 5) (h1 : 1 ≤ T 1 ∧ T 1 ≤ 9) (h2 : 0 ≤ T 2 ∧ T 2 ≤ 9) (h3 : 1 ≤ T 3 ∧ T 3 ≤ 99) : WFs (mPart m k T) := by
  obtain ⟨z1, z2, z3, z4, z5, z6, z7, z8, z9, hp, ht, hst, hcu, hwe, hdi⟩ := h
  unfold WFs mPart
  simp (disch := decide) only [wr_nr, wr_nk, wr_eq]
  refine ⟨z1, z2, by omega, z4, z5, z6, z7, z8, z9, fun p hpp => ?_, ht, fun i hi => ?_, hcu, hwe, fun d hd => ?_⟩
  · by_cases e : p = k
    · subst e
      simp only [wr_eq]
      exact ⟨h0, h1, h2, h3, by decide, by decide, by decide⟩
    · simp only [wr_nk e]
      exact hp p (by omega)
  · have := hst i hi
    omega
  · have := hdi d hd
    omega
def mTin (m : ZMem) (k : Nat) (a b : Int) : ZMem := wr (wr (wr m 6 k a) 7 k b) 0 3 ((k : Int) + 1)
theorem XK_newTin {k : Nat} {T : Nat → Int} {y' : ZMem} (h : XK y 27 m) (hs : m 0 3 = (k : Int)) (hk : k < 5) (hN : NR y 30 (k * 2) 2 T 2 y') : XK y' 27 (mTin m k (T 0) (T 1)) := by
  obtain ⟨n1, n2, n3, n4⟩ := hN
  refine XK_hs ?_
  obtain ⟨hf, hp, ht, hst, hcu, hwe, hd⟩ := XK_parts (XK_sh h)
  have ax : ∀ {kp : Nat → Nat → Bool}, (∀ j, kp 5 j = false) → kp 4 3 = false → AG kp (sh y) (sh y') := fun h1 h2 => sh_AG (u := 4) n4 h1 h2
  refine XK_of ⟨XKf_fr hf (ax (fun _ => rfl) rfl) (((AG.rf.wr rfl).wr rfl).wr rfl), XKp_fr hp (ax (fun _ => rfl) rfl) (((AG.rf.wr rfl).wr rfl).wr rfl), ?_, XKs_fr hst (ax (fun _ => rfl) rfl) (((AG.rf.wr rfl).wr rfl).wr rfl), XKc_fr hcu (ax (fun _ => rfl) rfl) (((AG.rf.wr rfl).wr rfl).wr rfl), XKw_fr hwe (ax (fun _ => rfl) rfl) (((AG.rf.wr rfl).wr rfl).wr rfl), XKd_fr hd (ax (fun _ => rfl) rfl) (((AG.rf.wr rfl).wr rfl).wr rfl)⟩
  obtain ⟨t1, t2, t3⟩ := ht
  have e3 : sh y' 4 3 = (k : Int) + 1 := by
    show y' 30 3 = _
    rw [n3]
    have : y 30 3 = m 0 3 := t2
    omega
  have np : mTin m k (T 0) (T 1) 0 3 = (k : Int) + 1 := wr_eq
  refine ⟨TB_sz t1 (n4 30 1 (by decide) (by decide)) (n4 30 2 (by decide) (by decide)) (by rw [e3]; omega), by rw [e3, np], fun p hp => ?_⟩
  rw [np] at hp
  unfold mTin
  simp (disch := decide) only [wr_nr]
  by_cases e : p = k
  · subst e
    simp only [wr_eq]
    have z : ∀ c, c < 2 → sh y' 5 (p * 2 + c) = if c < 2 then T c else 0 := fun c hc => n2 c hc
    rw [z 0 (by decide), z 1 (by decide)]
    exact ⟨rfl, rfl⟩
  · have z : ∀ c, c < 2 → sh y' 5 (p * 2 + c) = sh y 5 (p * 2 + c) := fun c hc => n1 _ (by omega)
    rw [z 0 (by decide), z 1 (by decide)]
    simp only [wr_nk e]
    exact t3 p (by omega)
theorem WFs_newTin {k : Nat} {a b : Int} (h : WFs m) (hs : m 0 3 = (k : Int)) (hk : k < 5) (h0 : a = 0 ∨ a = 1) (h1 : 1 ≤ b ∧ b ≤ 30) : WFs (mTin m k a b) := by
  obtain ⟨z1, z2, z3, z4, z5, z6, z7, z8, z9, hp, ht, hst, hcu, hwe, hdi⟩ := h
  unfold WFs mTin
  simp (disch := decide) only [wr_nr, wr_nk, wr_eq]
  refine ⟨z1, z2, z3, by omega, z5, z6, z7, z8, z9, hp, fun p hpp => ?_, hst, hcu, hwe, hdi⟩
  by_cases e : p = k
  · subst e
    simp only [wr_eq]
    exact ⟨h0, h1⟩
  · simp only [wr_nk e]
    exact ht p (by omega)
theorem XK_newStand {k : Nat} {T : Nat → Int} {y' : ZMem} (h : XK y 27 m) (hs : m 0 4 = (k : Int)) (hk : k < 6) (hN : NR y 32 (k * 5) 5 T 5 y') {m' : ZMem} (hm1 : ∀ j, j < 5 * k → m' 8 j = m 8 j) (hm2 : ∀ c, c < 5 → m' 8 (5 * k + c) = T c) (hm3 : m' 0 4 = (k : Int) + 1) (hm4 : ∀ i j, i ≠ 8 → ¬ (i = 0 ∧ j = 4) → m' i j = m i j) : XK y' 27 m' := by
  obtain ⟨n1, n2, n3, n4⟩ := hN
  refine XK_hs ?_
  obtain ⟨hf, hp, ht, hst, hcu, hwe, hd⟩ := XK_parts (XK_sh h)
  have ax : ∀ {kp : Nat → Nat → Bool}, (∀ j, kp 7 j = false) → kp 6 3 = false → AG kp (sh y) (sh y') := fun h1 h2 => sh_AG (u := 6) n4 h1 h2
  have am : ∀ {kp : Nat → Nat → Bool}, (∀ j, kp 8 j = false) → kp 0 4 = false → AG kp m m' := by
    intro kp h1 h2 i j hij
    refine hm4 i j ?_ ?_
    · rintro rfl
      rw [h1] at hij
      cases hij
    · rintro ⟨rfl, rfl⟩
      rw [h2] at hij
      cases hij
  refine XK_of ⟨XKf_fr hf (ax (fun _ => rfl) rfl) (am (fun _ => rfl) rfl), XKp_fr hp (ax (fun _ => rfl) rfl) (am (fun _ => rfl) rfl), XKt_fr ht (ax (fun _ => rfl) rfl) (am (fun _ => rfl) rfl), ?_, XKc_fr hcu (ax (fun _ => rfl) rfl) (am (fun _ => rfl) rfl), XKw_fr hwe (ax (fun _ => rfl) rfl) (am (fun _ => rfl) rfl), XKd_fr hd (ax (fun _ => rfl) rfl) (am (fun _ => rfl) rfl)⟩
  obtain ⟨t1, t2, t3⟩ := hst
  have e3 : sh y' 6 3 = (k : Int) + 1 := by
    show y' 32 3 = _
    rw [n3]
    have : y 32 3 = m 0 4 := t2
    omega
  refine ⟨TB_sz t1 (n4 32 1 (by decide) (by decide)) (n4 32 2 (by decide) (by decide)) (by rw [e3]; omega), by rw [e3, hm3], fun p hp c hc => ?_⟩
  rw [hm3] at hp
  by_cases e : p = k
  · subst e
    rw [hm2 c hc]
    have := n2 c hc
    rw [if_pos hc] at this
    exact this
  · rw [hm1 _ (by omega)]
    have : sh y' 7 (p * 5 + c) = sh y 7 (p * 5 + c) := n1 _ (by omega)
    rw [this]
    exact t3 p (by omega) c hc
theorem WFs_newStand {k : Nat} {T : Nat → Int} (h : WFs m) (hs : m 0 4 = (k : Int)) (hk : k < 6) {m' : ZMem} (hm1 : ∀ j, j < 5 * k → m' 8 j = m 8 j) (hm2 : ∀ c, c < 5 → m' 8 (5 * k + c) = T c) (hm3 : m' 0 4 = (k : Int) + 1) (hm4 : ∀ i j, i ≠ 8 → ¬ (i = 0 ∧ j = 4) → m' i j = m i j) (h0 : 0 ≤ T 0 ∧ T 0 < m 0 2) (h1 : 0 ≤ T 1 ∧ T 1 < m 0 2) (h2 : 1 ≤ T 2 ∧ T 2 ≤ 9) (h3 : 1 ≤ T 3 ∧ T 3 ≤ 9) (h4 : 0 ≤ T 4 ∧ T 4 ≤ 9) : WFs m' := by
  obtain ⟨z1, z2, z3, z4, z5, z6, z7, z8, z9, hp, ht, hst, hcu, hwe, hdi⟩ := h
  have e : ∀ r, r ≠ 8 → r ≠ 0 → m' r = m r := fun r h1 h2 => funext fun j => hm4 r j h1 (fun z => h2 z.1)
  have e0 : ∀ j, j ≠ 4 → m' 0 j = m 0 j := fun j hj => hm4 0 j (by decide) (fun z => hj z.2)
  unfold WFs
  rw [e 1 (by decide) (by decide), e 2 (by decide) (by decide), e 3 (by decide) (by decide), e 4 (by decide) (by decide), e 5 (by decide) (by decide), e 21 (by decide) (by decide), e 22 (by decide) (by decide), e 6 (by decide) (by decide), e 7 (by decide) (by decide), e 9 (by decide) (by decide), e 23 (by decide) (by decide), e 28 (by decide) (by decide), e0 0 (by decide), e0 1 (by decide), e0 2 (by decide), e0 3 (by decide), e0 5 (by decide), e0 6 (by decide), e0 41 (by decide), e0 47 (by decide), hm3]
  refine ⟨z1, z2, z3, z4, by omega, z6, z7, z8, z9, hp, ht, fun i hi => ?_, hcu, hwe, hdi⟩
  by_cases e : i = k
  · subst e
    have q0 : m' 8 (5 * i) = T 0 := hm2 0 (by decide)
    rw [q0, hm2 1 (by decide), hm2 2 (by decide), hm2 3 (by decide), hm2 4 (by decide)]
    exact ⟨h0, h1, h2, h3, h4⟩
  · rw [hm1 _ (by omega), hm1 _ (by omega), hm1 _ (by omega), hm1 _ (by omega), hm1 _ (by omega)]
    exact hst i (by omega)
theorem XK_newFor {v : Int} (h : XK y 27 m) : XK (wr y 27 0 v) 27 (wr m 0 0 v) := by
  refine XK_hs ?_
  rw [show wr y 27 0 v = wr y (1 + 26) 0 v from rfl, sh_wr]
  obtain ⟨⟨f1, f2, f3, f4⟩, -⟩ := XK_parts (XK_sh h)
  exact XK_f (XK_sh h) ⟨rfl, f2, f3, f4⟩ (AG.rf.wr rfl) (AG.rf.wr rfl)
theorem WFs_newFor {v : Int} (h : WFs m) (hv : 1 ≤ v ∧ v ≤ 24) : WFs (wr m 0 0 v) := by
  obtain ⟨z1, z2, z3, z4, z5, z6, z7, z8, z9, hp, ht, hst, hcu, hwe, hdi⟩ := h
  unfold WFs
  simp (disch := decide) only [wr_nr, wr_nk, wr_eq]
  exact ⟨hv, z2, z3, z4, z5, z6, z7, z8, z9, hp, ht, hst, hcu, hwe, hdi⟩
end ZAPP
