/-! OPERATIONS 22: oven, second half -/
section ZOP22
variable {x s m y : ZMem} {c n p N W : Nat}
/-- both rows of shelves tell the same -/
def LL (x s : ZMem) (W i : Nat) (y m' : ZMem) : Prop := AG kO x y ∧ TB y 63 3 1 ∧ y 63 3 = (W : Int) ∧ AG k25 s m' ∧ (∀ h : Nat, h < W → y 64 h = m' 25 h ∧ 0 ≤ y 64 h ∧ y 64 h ≤ 99 * (i : Int)) ∧ (∀ h : Nat, W ≤ h → h < 3 → m' 25 h = 0)
theorem free_twin {i : Nat} {m' : ZMem} (hL : LL x s W i y m') (hW : 1 ≤ W ∧ W ≤ 3) (r : Int → Int → ZMem → ZR) (z : Int) : ∀ (d k a q q' : Nat), k + d = W → 1 ≤ k → a < W → d < q → d < q' → ∃ a' : Nat, a' < W ∧ L_X4_freeFirst_4 n q (a : Int) (k : Int) y = some ((a' : Int), y) ∧ ∃ q2, L_X12_inTurn_19 n r q' (W : Int) z (a : Int) (k : Int) m' = B_X12_inTurn_19 n r (L_X12_inTurn_19 n r q2) (W : Int) z (a' : Int) (W : Int) m' := by
  intro d
  obtain ⟨l1, l2, l3, l4, l5, l6⟩ := hL
  induction d with
  | zero =>
    intro k a q q' h1 h2 h3 hq hq'
    obtain ⟨q, rfl⟩ : ∃ z, q = z + 1 := ⟨q - 1, by omega⟩
    obtain ⟨q', rfl⟩ : ∃ z, q' = z + 1 := ⟨q' - 1, by omega⟩
    have e : k = W := by omega
    subst e
    refine ⟨a, h3, ?_, q', rfl⟩
    show B_X4_freeFirst_4 n (L_X4_freeFirst_4 n q) (a : Int) (k : Int) y = _
    unfold B_X4_freeFirst_4
    rw [E_bnd (X_size n 63 y) rfl, l3, if_pos (Int.le_refl _)]
  | succ d ih =>
    intro k a q q' h1 h2 h3 hq hq'
    obtain ⟨q, rfl⟩ : ∃ z, q = z + 1 := ⟨q - 1, by omega⟩
    obtain ⟨q', rfl⟩ : ∃ z, q' = z + 1 := ⟨q' - 1, by omega⟩
    show ∃ a' : Nat, a' < W ∧ B_X4_freeFirst_4 n (L_X4_freeFirst_4 n q) (a : Int) (k : Int) y = some ((a' : Int), y) ∧ ∃ q2, B_X12_inTurn_19 n r (L_X12_inTurn_19 n r q') (W : Int) z (a : Int) (k : Int) m' = B_X12_inTurn_19 n r (L_X12_inTurn_19 n r q2) (W : Int) z (a' : Int) (W : Int) m'
    have eX : B_X4_freeFirst_4 n (L_X4_freeFirst_4 n q) (a : Int) (k : Int) y = if y 64 a ≤ y 64 k then L_X4_freeFirst_4 n q (a : Int) ((k + 1 : Nat) : Int) y else L_X4_freeFirst_4 n q (k : Int) ((k + 1 : Nat) : Int) y := by
      unfold B_X4_freeFirst_4
      rw [E_bnd (X_size n 63 y) rfl, l3, if_neg (by omega), E_bnd (X_at0 (i := k) l2 (by omega)) rfl, E_bnd (X_at0 (i := a) l2 (by omega)) rfl, chk_pos (by omega), chk_pos (by omega), cast1]
    have eM : B_X12_inTurn_19 n r (L_X12_inTurn_19 n r q') (W : Int) z (a : Int) (k : Int) m' = if m' 25 a ≤ m' 25 k then L_X12_inTurn_19 n r q' (W : Int) z (a : Int) ((k + 1 : Nat) : Int) m' else L_X12_inTurn_19 n r q' (W : Int) z (k : Int) ((k + 1 : Nat) : Int) m' := by
      conv => lhs; unfold B_X12_inTurn_19
      rw [if_neg (by omega), zM25, chk_pos (by omega), chk_pos (by omega), chk_pos (by omega), chk_pos (by omega), Int.toNat_natCast, Int.toNat_natCast, cast1]
    rw [eX, eM, (l5 a h3).1, (l5 k (by omega)).1]
    by_cases e : m' 25 a ≤ m' 25 k
    · rw [if_pos e, if_pos e]
      exact ih (k + 1) a q q' (by omega) (by omega) h3 (by omega) (by omega)
    · rw [if_neg e, if_neg e]
      exact ih (k + 1) k q q' (by omega) (by omega) (by omega) (by omega) (by omega)
def TWI (x s : ZMem) (ox om : ZR) : Prop := ∃ r y' m2, ox = some (r, y') ∧ om = some (r, m2) ∧ AG kO x y' ∧ TB y' 63 3 1 ∧ AG k25 s m2
theorem max_three {f g : Nat → Int} (hW : 1 ≤ W ∧ W ≤ 3) (h1 : ∀ h, h < W → f h = g h ∧ 0 ≤ f h) (h2 : ∀ h, W ≤ h → h < 3 → g h = 0) : maxS f W = maxS g 3 := by
  have e : maxS g 3 = max (max (max 0 (g 0)) (g 1)) (g 2) := rfl
  have hc : W = 1 ∨ W = 2 ∨ W = 3 := by omega
  rcases hc with rfl | rfl | rfl
  · have a := h1 0 (by decide)
    rw [e, h2 1 (by decide) (by decide), h2 2 (by decide) (by decide)]
    show max 0 (f 0) = _
    omega
  · have a := h1 0 (by decide)
    have b := h1 1 (by decide)
    rw [e, h2 2 (by decide) (by decide)]
    show max (max 0 (f 0)) (f 1) = _
    omega
  · have a := h1 0 (by decide)
    have b := h1 1 (by decide)
    have d := h1 2 (by decide)
    rw [e]
    show max (max (max 0 (f 0)) (f 1)) (f 2) = _
    omega
theorem turn_loop (hr : CPr x s) (hW : 1 ≤ W ∧ W ≤ 3) (hn : 10000 ≤ n) : ∀ (d i : Nat) (y m' : ZMem) (q q' : Nat), i + d = (s 0 49).toNat → LL x s W i y m' → d < q → d < q' → TWI x s (L_X4_oneBehindTheOther_11 n q (i : Int) y) (L_X12_inTurn_6 n q' (W : Int) (i : Int) m') := by
  intro d
  have h8 := row_sz hr
  induction d with
  | zero =>
    intro i y m' q q' h1 hL hq hq'
    obtain ⟨q, rfl⟩ : ∃ z, q = z + 1 := ⟨q - 1, by omega⟩
    obtain ⟨q', rfl⟩ : ∃ z, q' = z + 1 := ⟨q' - 1, by omega⟩
    have hLL := hL
    obtain ⟨l1, l2, l3, l4, l5, l6⟩ := hL
    have ry := kO_r hr l1
    have e49 : m' 0 49 = s 0 49 := l4 0 49 rfl
    show TWI x s (B_X4_oneBehindTheOther_11 n (L_X4_oneBehindTheOther_11 n q) (i : Int) y) (B_X12_inTurn_6 n (L_X12_inTurn_6 n q') (W : Int) (i : Int) m')
    unfold B_X4_oneBehindTheOther_11 B_X12_inTurn_6
    rw [E_bnd (X_size n 45 y) rfl, ry.2.1, if_pos (by omega), e49, if_pos (by omega), bnd_id, bnd_id]
    refine ⟨_, y, m', X_allDone l2 l3 hW.2 hn, ?_, l1, l2, l4⟩
    rw [M_latest (by rw [← (l5 0 (by omega)).1]; exact (l5 0 (by omega)).2.1)]
    refine E_some (max_three hW (fun h hh => ⟨(l5 h hh).1, (l5 h hh).2.1⟩) l6).symm rfl
  | succ d ih =>
    intro i y m' q q' h1 hL hq hq'
    obtain ⟨q, rfl⟩ : ∃ z, q = z + 1 := ⟨q - 1, by omega⟩
    obtain ⟨q', rfl⟩ : ∃ z, q' = z + 1 := ⟨q' - 1, by omega⟩
    have hLL := hL
    obtain ⟨l1, l2, l3, l4, l5, l6⟩ := hL
    have ry := kO_r hr l1
    have e49 : m' 0 49 = s 0 49 := l4 0 49 rfl
    have hi : (i : Int) < s 0 49 := by omega
    have e29 : m' 29 i = s 29 i := l4 29 i rfl
    have rb := (hr.2.2 i hi).2
    show TWI x s (B_X4_oneBehindTheOther_11 n (L_X4_oneBehindTheOther_11 n q) (i : Int) y) (B_X12_inTurn_6 n (L_X12_inTurn_6 n q') (W : Int) (i : Int) m')
    unfold B_X4_oneBehindTheOther_11 B_X12_inTurn_6 F_X4_freeFirst
    obtain ⟨a, ha, ef, q2, em⟩ := free_twin (n := n) hLL hW (L_X12_inTurn_6 n q') (i : Int) (W - 1) 1 0 n n (by omega) (by decide) (by omega) (by omega) (by omega)
    have ef' : L_X4_freeFirst_4 n n 0 1 y = some ((a : Int), y) := ef
    have em' : L_X12_inTurn_19 n (L_X12_inTurn_6 n q') n (W : Int) (i : Int) 0 1 m' = _ := em
    have lb := (l5 a ha).2
    rw [E_bnd (X_size n 45 y) rfl, ry.2.1, if_neg (by omega), e49, if_neg (by omega), em']
    rw [E_bnd ef' rfl, E_bnd (X_rowAt ry hi) rfl, E_bnd (X_put63 (h := a) l2 (by omega) (by omega)) rfl, chk_pos (by omega)]
    conv => arg 4; unfold B_X12_inTurn_19
    rw [if_pos (Int.le_refl _), zM25, zM29, chk_pos (by omega), chk_pos (by omega), Int.toNat_natCast, Int.toNat_natCast, e29, ← (l5 a ha).1, chk_pos (by omega), chk_pos (by omega), chk_pos (by omega), cast1]
    refine ih (i + 1) _ _ q q' (by omega) ⟨l1.wr rfl, TB_fr l2 (wr_nr (by decide)) (wr_nr (by decide)) (wr_nr (by decide)), by rw [wr_nr (by decide)]; exact l3, l4.wr rfl, fun h hh => ?_, fun h hh h3 => ?_⟩ (by omega) (by omega)
    · by_cases e : h = a
      · subst e
        rw [wr_eq, wr_eq]
        exact ⟨rfl, by omega, by omega⟩
      · rw [wr_nk e, wr_nk e]
        have := l5 h hh
        exact ⟨this.1, this.2.1, by omega⟩
    · rw [wr_nk (by omega)]
      exact l6 h hh h3
theorem TB63_reset (hT : TB y 63 3 1) (hW : W ≤ 3) : TB (rsT (wr y 63 3 (W : Int)) 63 0 (W * 1)) 63 3 1 ∧ rsT (wr y 63 3 (W : Int)) 63 0 (W * 1) 63 3 = (W : Int) ∧ (∀ h, h < W → rsT (wr y 63 3 (W : Int)) 63 0 (W * 1) 64 h = 0) := by
  refine ⟨TB_sz hT (by rw [rsT_t, wr_nk (by decide)]) (by rw [rsT_t, wr_nk (by decide)]) (by rw [rsT_t, wr_eq]; omega), by rw [rsT_t, wr_eq], fun h hh => ?_⟩
  show (if 64 = 63 + 1 ∧ h < W * 1 then _ else _) = _
  rw [if_pos ⟨rfl, by omega⟩]
theorem turn_twin (hr : CPr x s) (hT : TB x 63 3 1) (hW : 1 ≤ W ∧ W ≤ 3) (hn : 10000 ≤ n) : TWI x s (F_X4_oneBehindTheOther n (W : Int) x) (F_X12_inTurn n (W : Int) s) := by
  have h8 := row_sz hr
  obtain ⟨m', e, hM⟩ := M_empty (n := n) hn (s := s) (s' := s) AG.rf (fun _ => 0)
  obtain ⟨t1, t2, t3⟩ := TB63_reset hT hW.2
  unfold F_X4_oneBehindTheOther F_X12_inTurn
  rw [E_bnd (X_reset (n := n) (v := 0) hT hn (l := W) hW.2 (a := (W : Int)) rfl) rfl, E_bnd e rfl]
  have m0 : ∀ h, h < 3 → m' 25 h = 0 := fun h hh => hM.2 h hh
  refine turn_loop hr hW hn (s 0 49).toNat 0 _ m' n n (by omega) ⟨(AG.rf.wr rfl).rs (fun _ => rfl), t1, t2, hM.1, fun h hh => ?_, fun h hh h3 => m0 h h3⟩ (by omega) (by omega)
  rw [t3 h hh, m0 h (by omega)]
  exact ⟨rfl, by decide, by decide⟩
/-- all on one shelf -/
def totS (s : ZMem) : Int := sumS (fun j => s 29 j) (s 0 49).toNat
theorem tot_bd (hr : CPr x s) {k : Nat} (hk : (k : Int) ≤ s 0 49) : 0 ≤ sumS (fun j => s 29 j) k ∧ sumS (fun j => s 29 j) k ≤ 792 := by
  have h8 := row_sz hr
  have := sumS_bd (f := fun j => s 29 j) (B := 99) (by decide) k (fun i hi => (hr.2.2 i (by omega)).2)
  omega
theorem one_loop (hr : CPr x s) (hn : 10000 ≤ n) : ∀ (d i : Nat) (y : ZMem) (q : Nat), i + d = (s 0 49).toNat → AG kO x y → TB y 63 3 1 → y 63 3 = 1 → y 64 0 = sumS (fun j => s 29 j) i → d < q → ∃ y', L_X4_oneBehindTheOther_11 n q (i : Int) y = some (totS s, y') ∧ AG kO x y' ∧ TB y' 63 3 1 := by
  intro d
  have h8 := row_sz hr
  induction d with
  | zero =>
    intro i y q h1 l1 l2 l3 l4 hq
    obtain ⟨q, rfl⟩ : ∃ z, q = z + 1 := ⟨q - 1, by omega⟩
    have ry := kO_r hr l1
    have tb := tot_bd hr (k := i) (by omega)
    refine ⟨y, ?_, l1, l2⟩
    show B_X4_oneBehindTheOther_11 n (L_X4_oneBehindTheOther_11 n q) (i : Int) y = _
    unfold B_X4_oneBehindTheOther_11
    rw [E_bnd (X_size n 45 y) rfl, ry.2.1, if_pos (by omega), bnd_id, X_allDone (W := 1) l2 l3 (by decide) hn]
    refine E_some ?_ rfl
    show max 0 (y 64 0) = totS s
    rw [l4, show totS s = sumS (fun j => s 29 j) i by unfold totS; rw [show (s 0 49).toNat = i by omega]]
    omega
  | succ d ih =>
    intro i y q h1 l1 l2 l3 l4 hq
    obtain ⟨q, rfl⟩ : ∃ z, q = z + 1 := ⟨q - 1, by omega⟩
    have ry := kO_r hr l1
    have hi : (i : Int) < s 0 49 := by omega
    have rb := (hr.2.2 i hi).2
    have tb := tot_bd hr (k := i) (by omega)
    have ef : F_X4_freeFirst n y = some (0, y) := by
      unfold F_X4_freeFirst
      obtain ⟨k, rfl⟩ : ∃ k, n = k + 1 := ⟨n - 1, by omega⟩
      show B_X4_freeFirst_4 (k + 1) (L_X4_freeFirst_4 (k + 1) k) 0 1 y = _
      unfold B_X4_freeFirst_4
      rw [E_bnd (X_size _ 63 y) rfl, l3, if_pos (by decide)]
    show ∃ y', B_X4_oneBehindTheOther_11 n (L_X4_oneBehindTheOther_11 n q) (i : Int) y = some (totS s, y') ∧ AG kO x y' ∧ TB y' 63 3 1
    unfold B_X4_oneBehindTheOther_11
    rw [E_bnd (X_size n 45 y) rfl, ry.2.1, if_neg (by omega), E_bnd ef rfl, E_bnd (X_rowAt ry hi) rfl]
    have ep : F_X4_putOn n 0 (s 29 i) y = some (0, wr y 64 0 (y 64 0 + s 29 i)) := X_put63 (h := 0) (v := s 29 i) l2 (by omega) (by omega)
    rw [E_bnd ep rfl, chk_pos (by omega), cast1]
    exact ih (i + 1) _ q (by omega) (l1.wr rfl) (TB_fr l2 (wr_nr (by decide)) (wr_nr (by decide)) (wr_nr (by decide))) (by rw [wr_nr (by decide)]; exact l3) (by rw [wr_eq, l4]; rfl) (by omega)
theorem X_one (hr : CPr x s) (hT : TB x 63 3 1) (hn : 10000 ≤ n) : ∃ y', F_X4_oneBehindTheOther n 1 x = some (totS s, y') ∧ AG kO x y' ∧ TB y' 63 3 1 := by
  have h8 := row_sz hr
  obtain ⟨t1, t2, t3⟩ := TB63_reset (W := 1) hT (by decide)
  unfold F_X4_oneBehindTheOther
  rw [E_bnd (X_reset (n := n) (v := 0) hT hn (l := 1) (by decide) (a := 1) rfl) rfl]
  exact one_loop hr hn (s 0 49).toNat 0 _ n (by omega) ((AG.rf.wr rfl).rs (fun _ => rfl)) t1 t2 (t3 0 (by decide)) (by omega)
theorem wpow (hW : 1 ≤ W ∧ W ≤ 3) {k : Nat} (hk : k ≤ 8) : 1 ≤ (W : Int) ^ k ∧ (W : Int) ^ k ≤ 6561 := by
  have hc : W = 1 ∨ W = 2 ∨ W = 3 := by omega
  rcases hc with rfl | rfl | rfl <;> rcases c9 hk with rfl | rfl | rfl | rfl | rfl | rfl | rfl | rfl | rfl <;> decide
theorem X_ways (hr : CPr y s) (hW : 1 ≤ W ∧ W ≤ 3) (hn : 10000 ≤ n) : F_X4_waysOf n (W : Int) y = some ((W : Int) ^ (s 0 49).toNat, y) := by
  have h8 := row_sz hr
  refine loop_run (L := fun z (w : Int × Int × ZMem) => L_X4_waysOf_4 n z (W : Int) w.1 w.2.1 w.2.2) (s 0 49).toNat (fun k => ((W : Int) ^ k, (k : Int), y)) _ ?_ ?_ n (by omega)
  · intro k z hk
    have p1 := wpow hW (k := k) (by omega)
    have p2 := wpow hW (k := k + 1) (by omega)
    rw [Int.pow_succ] at p2
    show B_X4_waysOf_4 n (L_X4_waysOf_4 n z) (W : Int) ((W : Int) ^ k) (k : Int) y = L_X4_waysOf_4 n z (W : Int) ((W : Int) ^ (k + 1)) ((k + 1 : Nat) : Int) y
    unfold B_X4_waysOf_4
    rw [E_bnd (X_size n 45 y) rfl, hr.2.1, if_neg (by omega), chk_pos (by omega), chk_pos (by omega), cast1, Int.pow_succ]
  · intro z
    show B_X4_waysOf_4 n (L_X4_waysOf_4 n z) (W : Int) ((W : Int) ^ (s 0 49).toNat) ((s 0 49).toNat : Int) y = _
    unfold B_X4_waysOf_4
    rw [E_bnd (X_size n 45 y) rfl, hr.2.1, if_pos (by omega)]
theorem ld_none {h : Nat} : ld s N (fun _ => 0) h = if h = 0 then sumS (fun j => s 29 j) N else 0 := by
  by_cases e : h = 0
  · subst e
    rw [if_pos rfl]
    have : ldB s (fun _ => 0) 0 = fun j => s 29 j := by
      funext j
      rfl
    unfold ld
    rw [this]
  · rw [if_neg e]
    unfold ld
    induction N with
    | zero => rfl
    | succ k ih =>
      show sumS (ldB s (fun _ => 0) h) k + ldB s (fun _ => 0) h k = 0
      rw [ih]
      unfold ldB
      rw [if_neg (show ¬ (0 : Int) = (h : Int) by omega)]
      rfl
theorem dn_none (hr : CPr x s) (hW : 1 ≤ W ∧ W ≤ 3) : dn s (s 0 49).toNat W (fun _ => 0) = totS s := by
  have h8 := row_sz hr
  have tb := tot_bd hr (k := (s 0 49).toNat) (by omega)
  have e : ld s (s 0 49).toNat (fun _ => 0) = fun h => if h = 0 then totS s else 0 := by
    funext h
    exact ld_none
  unfold totS at e ⊢
  unfold dn
  rw [e]
  have hc : W = 1 ∨ W = 2 ∨ W = 3 := by omega
  rcases hc with rfl | rfl | rfl
  · show max 0 (sumS (fun j => s 29 j) (s 0 49).toNat) = _
    omega
  · show max (max 0 (sumS (fun j => s 29 j) (s 0 49).toNat)) 0 = _
    omega
  · show max (max (max 0 (sumS (fun j => s 29 j) (s 0 49).toNat)) 0) 0 = _
    omega
theorem X_soonest (hr : CPr x s) (hT : TB x 63 3 1) (hW : 1 ≤ W ∧ W ≤ 3) (hn : 10000 ≤ n) (wa : Int) : ∃ B y', F_X4_soonest n (W : Int) wa x = some (if wa = 0 then dn s (s 0 49).toNat W B else cd B, y') ∧ BW s W ((W : Int) ^ (s 0 49).toNat - 1) B ∧ AG kO x y' ∧ TB y' 63 3 1 := by
  have h8 := row_sz hr
  have tb := tot_bd hr (k := (s 0 49).toNat) (by omega)
  have hw3 : (W : Int) = 1 ∨ (W : Int) = 2 ∨ (W : Int) = 3 := by omega
  obtain ⟨y1, e1, a1, b1⟩ := X_one (n := n) hr hT hn
  obtain ⟨t1, t2, t3⟩ := TB63_reset (W := W) b1 hW.2
  have a2 : AG kO x (rsT (wr y1 63 3 (W : Int)) 63 0 (W * 1)) := (a1.wr rfl).rs (fun _ => rfl)
  have h0 := t3 0 (by omega)
  have a3 : F_X4_putOn n 0 (totS s) (rsT (wr y1 63 3 (W : Int)) 63 0 (W * 1)) = some (0, wr (rsT (wr y1 63 3 (W : Int)) 63 0 (W * 1)) 64 0 (rsT (wr y1 63 3 (W : Int)) 63 0 (W * 1) 64 0 + totS s)) := X_put63 (h := 0) t1 (by omega) (by unfold totS; rw [h0]; omega)
  have a4 : AG kO x (wr (rsT (wr y1 63 3 (W : Int)) 63 0 (W * 1)) 64 0 (rsT (wr y1 63 3 (W : Int)) 63 0 (W * 1) 64 0 + totS s)) := a2.wr rfl
  have lt0 : LT x s W (fun _ => 0) (wr (rsT (wr y1 63 3 (W : Int)) 63 0 (W * 1)) 64 0 (rsT (wr y1 63 3 (W : Int)) 63 0 (W * 1) 64 0 + totS s)) := by
    refine ⟨a4, TB_fr t1 (wr_nr (by decide)) (wr_nr (by decide)) (wr_nr (by decide)), by rw [wr_nr (by decide)]; exact t2, fun h hh => ?_⟩
    rw [ld_none]
    by_cases e : h = 0
    · subst e
      rw [wr_eq, h0, if_pos rfl]
      unfold totS
      omega
    · rw [wr_nk e, t3 h hh, if_neg e]
  have vz : vl (W : Int) (s 0 49).toNat (fun _ => 0) := ⟨fun i hi => ⟨Int.le_refl _, by show (0 : Int) < (W : Int); omega⟩, fun i _ _ => rfl⟩
  have rz : rk (W : Int) (fun _ => 0) = 0 := by unfold rk; simp
  have pw := wpow hW (k := (s 0 49).toNat) (by omega)
  have bw0 : BW s W (rk (W : Int) (fun _ => 0)) (fun _ => 0) := by
    refine ⟨vz, Int.le_refl _, fun D' v' hk => ?_⟩
    have r0 := rk_max hw3 (by omega) v'
    have ec := (rk_cd (D := D') (D' := fun _ => 0) hw3 (fun i hi => vl8 hw3 v' hi) (fun i hi => vl8 hw3 vz hi)).2.2 (by omega)
    have e : dn s (s 0 49).toNat W (fun _ => 0) = dn s (s 0 49).toNat W D' := dn_ext (fun i hi => by
      have q1 := dg_cd (D := D') (fun j hj => by have := vl8 hw3 v' hj; omega) (i := i) (by omega)
      have q2 := dg_cd (D := fun _ => 0) (fun j hj => by have := vl8 hw3 vz hj; omega) (i := i) (by omega)
      rw [← q1, ec, q2]) W
    rw [e]
    exact ⟨Int.le_refl _, fun _ => by omega⟩
  obtain ⟨B, y', e, hB, hA, hT'⟩ := soon_loop (n := n) hr hW hn wa ((W : Int) ^ (s 0 49).toNat - 1).toNat ((W : Int) ^ (s 0 49).toNat) (fun _ => 0) (fun _ => 0) _ n (by omega) (by omega) vz lt0 bw0 (by omega)
  refine ⟨B, y', ?_, hB, hA, hT'⟩
  rw [dn_none hr hW] at e
  unfold F_X4_soonest
  rw [E_bnd e1 rfl, E_bnd (X_reset (n := n) (v := 0) b1 hn (l := W) hW.2 (a := (W : Int)) rfl) rfl, E_bnd a3 rfl, E_bnd (X_ways (kO_r hr a4) hW hn) rfl]
  exact e
theorem dg_zero {b : Int} (hN : N ≤ 8) (h : 0 ≤ b ∧ b < 1 * 2 ^ (2 * N)) {i : Nat} (h1 : N ≤ i) (h2 : i < 8) : dg b i = 0 := by
  rcases c9 hN with rfl | rfl | rfl | rfl | rfl | rfl | rfl | rfl | rfl
  all_goals
    simp at h
    rcases c8 h2 with rfl | rfl | rfl | rfl | rfl | rfl | rfl | rfl
    all_goals
      first
      | (exfalso; omega)
      | (rw [dg0]; omega)
      | (rw [dg1]; omega)
      | (rw [dg2]; omega)
      | (rw [dg3]; omega)
      | (rw [dg4]; omega)
      | (rw [dg5]; omega)
      | (rw [dg6]; omega)
      | (rw [dg7]; omega)
theorem cd_max {w : Int} {D : Nat → Int} (hw : w = 1 ∨ w = 2 ∨ w = 3) (hN : N ≤ 8) (h : vl w N D) : 0 ≤ cd D ∧ cd D < 1 * 2 ^ (2 * N) := by
  have b0 := vl8 hw h (i := 0) (by decide)
  have b1 := vl8 hw h (i := 1) (by decide)
  have b2 := vl8 hw h (i := 2) (by decide)
  have b3 := vl8 hw h (i := 3) (by decide)
  have b4 := vl8 hw h (i := 4) (by decide)
  have b5 := vl8 hw h (i := 5) (by decide)
  have b6 := vl8 hw h (i := 6) (by decide)
  have b7 := vl8 hw h (i := 7) (by decide)
  have z := h.2
  unfold cd
  rcases c9 hN with rfl | rfl | rfl | rfl | rfl | rfl | rfl | rfl | rfl
  all_goals
    have z0 := z 0
    have z1 := z 1
    have z2 := z 2
    have z3 := z 3
    have z4 := z 4
    have z5 := z 5
    have z6 := z 6
    have z7 := z 7
    simp at z0 z1 z2 z3 z4 z5 z6 z7 ⊢
    omega
theorem best_same (hr : CPr x s) (hW : 1 ≤ W ∧ W ≤ 3) {B : Nat → Int} {b v : Int} (hB : BW s W ((W : Int) ^ (s 0 49).toNat - 1) B) (hb : BC s W (P4 s) b v) : b = cd B ∧ dn s (s 0 49).toNat W (dg b) = dn s (s 0 49).toNat W B ∧ (∀ j, j < (s 0 49).toNat → dg b j < (W : Int)) := by
  have h8 := row_sz hr
  have hw3 : (W : Int) = 1 ∨ (W : Int) = 2 ∨ (W : Int) = 3 := by omega
  have p4 := P4_bd hr
  rcases hb with ⟨-, -, a3⟩ | ⟨a1, a2, a3, a4⟩
  · refine absurd (fun j _ => ?_) (a3 0 (by omega))
    unfold dg
    rw [Int.zero_ediv]
    show (0 : Int) < (W : Int)
    omega
  · obtain ⟨b1, b2, b3⟩ := hB
    have vb : vl (W : Int) (s 0 49).toNat (dg b) := ⟨fun i hi => ⟨(dg_bd b i).1, a2 i hi⟩, fun i h1 h2 => dg_zero (by omega) a1 h1 h2⟩
    have r1 := rk_max hw3 (by omega) vb
    have d1 := b3 (dg b) vb (by omega)
    have cb := cd_max hw3 (show (s 0 49).toNat ≤ 8 by omega) b1
    have eB : ∀ j, j < 8 → dg (cd B) j = B j := fun j hj => dg_cd (fun j hj => by have := vl8 hw3 b1 hj; omega) hj
    have d2 := a4 (cd B) ⟨cb.1, cb.2⟩ (fun j hj => by rw [eB j (by omega)]; exact (b1.1 j hj).2)
    have e2 : dn s (s 0 49).toNat W (dg (cd B)) = dn s (s 0 49).toNat W B := dn_ext (fun i hi => eB i (by omega)) W
    rw [e2, a3] at d2
    have ed : dn s (s 0 49).toNat W (dg b) = dn s (s 0 49).toNat W B := by omega
    have c1 := d1.2 (by omega)
    have c2 := d2.2 ed
    have ec := cd_dg (q := b) (by omega)
    have lt := (rk_cd (D := dg b) (D' := B) hw3 (fun i hi => vl8 hw3 vb hi) (fun i hi => vl8 hw3 b1 hi)).1
    rw [ec] at lt
    refine ⟨?_, ed, a2⟩
    by_cases e : b < cd B
    · have := lt.1 e
      omega
    · omega
theorem op_oven (h : CP c x m) (hc : c ≤ 1000) (hn : 70000 ≤ n) (a w : Int) : SIM c (F_X11_oven n a w x) (F_X12_oven n a w m) := by
  have hr : CPr x (wr m 0 16 0) := CPr_fr h.r AG.rf (AG.rf.wr rfl)
  have h8 := row_sz hr
  have p4 := P4_bd hr
  have b1 := outS_bd 1 3 a
  have b2 := ncS_bd w 2
  have bd := refS_bd b1 b2 (c := 0) (by decide)
  have ew : F_X12_wrongNumber n a 1 3 (wr m 0 16 0) = some (outS 1 3 a, wr m 0 16 0) := M_wrong _ _ _ _ _
  have eM : F_X12_oven n a w m = B_X12_oven_34 n a w (refS (outS 1 3 a) (ncS w 2) 0) (wr m 0 16 0) := by
    unfold F_X12_oven
    rw [E_bnd ew rfl]
    by_cases h0 : outS 1 3 a = 0
    · rw [if_pos h0]
      by_cases h2 : 0 ≤ w ∧ w ≤ 2
      · rw [E_bnd (M_in_t h2) rfl, if_neg (by decide), h0, show ncS w 2 = 0 by unfold ncS; rw [if_pos h2]]
        rfl
      · rw [E_bnd (M_in_f h2) rfl, if_pos rfl, h0, show ncS w 2 = -2 by unfold ncS; rw [if_neg h2]]
        rfl
    · rw [if_neg h0]
      unfold refS
      rw [if_neg h0]
  rw [eM]
  unfold F_X11_oven B_X12_oven_34
  have fin : ∀ {y m2 : ZMem}, AG kO x y → TB y 63 3 1 → AG k25 (wr m 0 16 0) m2 → CP (c + 1) y m2 := by
    intro y m2 i1 i2 i3
    refine CP_same h (i1.sub (by intro i j hij; simp only [kXa, kXl, kXr, kXe, kXf, kXt, kO, Bool.or_eq_true, Bool.and_eq_true, decide_eq_true_eq, Bool.not_eq_true', Bool.and_eq_false_iff, decide_eq_false_iff_not] at hij ⊢; omega)) ?_ (AG.tr (AG.rf.wr rfl) (i3.sub (by
      intro i j hij
      simp only [k25, decide_eq_true_eq]
      rintro rfl
      cases hij)))
    obtain ⟨t1, t2, t3, t4, t5, t6⟩ := h.s
    exact ⟨TB_fr t1 (i1 _ _ rfl) (i1 _ _ rfl) (i1 _ _ rfl), TB_fr t2 (i1 _ _ rfl) (i1 _ _ rfl) (i1 _ _ rfl), TB_fr t3 (i1 _ _ rfl) (i1 _ _ rfl) (i1 _ _ rfl), TB_fr t4 (i1 _ _ rfl) (i1 _ _ rfl) (i1 _ _ rfl), TB_fr t5 (i1 _ _ rfl) (i1 _ _ rfl) (i1 _ _ rfl), i2⟩
  by_cases hr0 : refS (outS 1 3 a) (ncS w 2) 0 = 0
  · obtain ⟨q1, q2, -⟩ := refS_0 hr0
    have ha := outS_0 q1
    have hw := ncS_0 q2
    obtain ⟨W, rfl⟩ : ∃ W : Nat, a = (W : Int) := ⟨a.toNat, by omega⟩
    have hW : 1 ≤ W ∧ W ≤ 3 := by omega
    have hT := h.s.2.2.2.2.2
    rw [if_pos (by omega), E_bnd (X_outside _ _ _ _ _) rfl, E_bnd (X_noChoice _ _ _ _) rfl, E_bnd (X_not2 hr0 b1) rfl, if_pos rfl]
    have hc3 : w = 0 ∨ w = 1 ∨ w = 2 := by omega
    rcases hc3 with rfl | rfl | rfl
    · rw [if_pos rfl, if_pos rfl, bnd_id, bnd_id]
      obtain ⟨r, y, m2, e1, e2, i1, i2, i3⟩ := turn_twin (n := n) hr hT hW (by omega)
      exact ⟨r, y, m2, e1, e2, fin i1 i2 i3⟩
    · rw [if_neg (by decide), if_neg (by decide), if_neg (by decide), bnd_id]
      obtain ⟨B, y, e1, hB, i1, i2⟩ := X_soonest (n := n) hr hT hW (by omega) 0
      obtain ⟨b, v, m2, e2, i3, hb⟩ := code_loop (n := n) hr hW (by omega) (P4 (wr m 0 16 0)).toNat 0 0 99999 (wr m 0 16 0) n (by omega) (by decide) AG.rf (Or.inl ⟨rfl, rfl, fun q hq => by omega⟩) (by omega)
      obtain ⟨k1, k2, k3⟩ := best_same hr hW hB hb
      obtain ⟨m3, i4, f1, -⟩ := M_doneBy (n := n) hr hW (by omega) b i3
      unfold F_X12_soonestCode
      rw [E_bnd e2 rfl, if_neg (by decide), f1 k3, bnd_some, e1, if_pos rfl, k2]
      exact ⟨_, y, m3, rfl, rfl, fin i1 i2 i4⟩
    · rw [if_neg (by decide), if_pos rfl, if_neg (by decide), bnd_id]
      obtain ⟨B, y, e1, hB, i1, i2⟩ := X_soonest (n := n) hr hT hW (by omega) 1
      obtain ⟨b, v, m2, e2, i3, hb⟩ := code_loop (n := n) hr hW (by omega) (P4 (wr m 0 16 0)).toNat 0 0 99999 (wr m 0 16 0) n (by omega) (by decide) AG.rf (Or.inl ⟨rfl, rfl, fun q hq => by omega⟩) (by omega)
      obtain ⟨k1, k2, k3⟩ := best_same hr hW hB hb
      unfold F_X12_soonestCode
      rw [E_bnd e2 rfl, if_pos rfl, e1, if_neg (by decide), k1]
      exact ⟨_, y, m2, rfl, rfl, fin i1 i2 i3⟩
  · refine SIM_ref h (r := refS (outS 1 3 a) (ncS w 2) 0) (by omega) ?_ ?_
    · rw [E_bnd (X_outside _ _ _ _ _) rfl, E_bnd (X_noChoice _ _ _ _) rfl, E_bnd (X_ref2 h.f hc b1 b2 rfl hr0) rfl, if_neg hr0]
    · rw [if_neg (by omega)]
      exact E_bnd (M_ref h hc (by omega)) rfl
end ZOP22
