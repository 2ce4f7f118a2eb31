/-! THE PARSE, sixth: a statement comes, on both sides -/
def kA27 (i _ : Nat) : Bool := decide (i < 27) || decide (40 ≤ i)
def kKit (i j : Nat) : Bool := decide (i ≠ 1) && decide (i ≠ 2) && decide (i ≠ 3) && decide (i ≠ 4) && decide (i ≠ 5) && decide (i ≠ 6) && decide (i ≠ 7) && decide (i ≠ 8) && decide (i ≠ 9) && decide (i ≠ 21) && decide (i ≠ 22) && !(decide (i = 0) && decide (j ≤ 6))
def APR (y m : ZMem) (ox om : ZR) : Prop := ∃ b y' m', ox = some (b01 b, y') ∧ om = some (b01 b, m') ∧ AG kA27 y y' ∧ AG kKit m m' ∧ XT y' 27 ∧ (b = true → XK y' 27 m' ∧ WFs m')
section ZAP2
variable {y m : ZMem} {n c : Nat}
theorem no_ {ox om : ZR} {y' m' : ZMem} (hx : ox = some (0, y')) (hm : om = some (0, m')) (ax : AG kA27 y y') (am : AG kKit m m') (hq : XT y' 27) : APR y m ox om := ⟨false, y', m', hx, hm, ax, am, hq, fun z => by cases z⟩
theorem yes_ {ox om : ZR} {y' m' : ZMem} (hx : ox = some (1, y')) (hm : om = some (1, m')) (ax : AG kA27 y y') (am : AG kKit m m') (h : XK y' 27 m' ∧ WFs m') : APR y m ox om := ⟨true, y', m', hx, hm, ax, am, h.1.2.1, fun _ => h⟩
theorem XT_A' {k : Nat} {v : Int} (h : XT y 27) : XT (wr y 35 k v) 27 := by
  obtain ⟨t1, t2, t3, t4, t5, t6⟩ := h
  exact ⟨TB_fr t1 (wr_nr (by decide)) (wr_nr (by decide)) (wr_nr (by decide)), TB_fr t2 (wr_nr (by decide)) (wr_nr (by decide)) (wr_nr (by decide)), TB_fr t3 (wr_nr (by decide)) (wr_nr (by decide)) (wr_nr (by decide)), TB_fr t4 (wr_nr (by decide)) (wr_nr (by decide)) (wr_nr (by decide)), TB_fr t5 (wr_nr (by decide)) (wr_nr (by decide)) (wr_nr (by decide)), TB_fr t6 (wr_nr (by decide)) (wr_nr (by decide)) (wr_nr (by decide))⟩
theorem XT_35 {k : Nat} {v : Int} (h : XT y 27) : XT (wr y 35 k v) 27 := XT_A' h
theorem NR_A {u b W K : Nat} {T : Nat → Int} {y' : ZMem} (hu : 27 ≤ u ∧ u ≤ 38) (h : NR y u b W T K y') : AG kA27 y y' := by
  intro i j hij
  simp only [kA27, Bool.or_eq_true, decide_eq_true_eq] at hij
  exact h.2.2.2 i j (by omega) (by omega)
theorem came_for (hX : XK y 27 m) (hw : WFs m) (hc2 : c < 49) (hTL : TL 1 y) (h13 : m 13 c = 102) (hv : m 14 (5 * c + 0) = y 44 0) : APR y m (F_X1_statementCame n 102 y) (F_X12_comes n (c : Int) m) := by
  have eM : F_X12_comes n (c : Int) m = some (b01 (decide (1 ≤ y 44 0 ∧ y 44 0 ≤ 24)), wr m 0 0 (y 44 0)) := by
    unfold F_X12_comes
    rw [zM13, zM14, Int.toNat_natCast, h13, chk_pos (by omega), chk_pos (by omega), if_pos rfl, show (5 * (c : Int)).toNat = 5 * c + 0 by omega, hv, chk_pos (by omega), chk_pos (by omega), bnd_id, wr_nr (by decide), hv, M_in]
    by_cases z : 1 ≤ y 44 0 ∧ y 44 0 ≤ 24
    · rw [if_pos z, show decide (1 ≤ y 44 0 ∧ y 44 0 ≤ 24) = true by rw [decide_eq_true_eq]; exact z]
      rfl
    · rw [if_neg z, show decide (1 ≤ y 44 0 ∧ y 44 0 ≤ 24) = false by rw [decide_eq_false_iff_not]; exact z]
      rfl
  have e1 : F_X1_within n 0 1 24 y = _ := X_within (i := 0) hTL (by decide) 1 24
  have e2 : F_X1_number n 0 y = _ := X_number_at (i := 0) hTL (by decide)
  unfold F_X1_statementCame F_X1_forCame
  rw [if_pos rfl, bnd_id, E_bnd e1 rfl, eM]
  by_cases z : 1 ≤ y 44 0 ∧ y 44 0 ≤ 24
  · rw [show decide (1 ≤ y 44 0 ∧ y 44 0 ≤ 24) = true by rw [decide_eq_true_eq]; exact z, b01_t, if_neg (by decide), E_bnd e2 rfl]
    exact yes_ rfl rfl (AG.rf.wr rfl) (AG.rf.wr rfl) ⟨XK_newFor hX, WFs_newFor hw z⟩
  · rw [show decide (1 ≤ y 44 0 ∧ y 44 0 ≤ 24) = false by rw [decide_eq_false_iff_not]; exact z, b01_f, if_pos rfl]
    exact no_ rfl rfl AG.rf (AG.rf.wr rfl) hX.2.1
theorem came_part (hX : XK y 27 m) (hw : WFs m) (hn : 10000 ≤ n) (hc2 : c < 49) (hTL : TL 4 y) (h13 : m 13 c = 112) (hv : ∀ t, t < 4 → m 14 (5 * c + t) = y 44 t) (r0 : 0 ≤ y 44 0 ∧ y 44 0 ≤ 9) (r1 : 0 ≤ y 44 1 ∧ y 44 1 ≤ 9) (r2 : 0 ≤ y 44 2 ∧ y 44 2 ≤ 9) (r3 : 0 ≤ y 44 3 ∧ y 44 3 ≤ 99) : APR y m (F_X1_statementCame n 112 y) (F_X12_comes n (c : Int) m) := by
  have h8 := hw.np
  have hTB : TB y 28 8 7 := hX.2.1.1
  have hsz : y 28 3 = m 0 2 := hX.2.2.1.1
  have e0 : F_X1_within n 0 0 5 y = _ := X_within (i := 0) hTL (by decide) 0 5
  have e1 : F_X1_within n 1 1 9 y = _ := X_within (i := 1) hTL (by decide) 1 9
  have e3 : F_X1_within n 3 1 99 y = _ := X_within (i := 3) hTL (by decide) 1 99
  have eM : F_X12_comes n (c : Int) m = F_X12_partComes n (5 * (c : Int)) m := by
    unfold F_X12_comes
    rw [zM13, Int.toNat_natCast, h13, chk_pos (by omega), chk_pos (by omega)]
    rw [if_neg (by decide), if_neg (by decide), if_neg (by decide), if_neg (by decide), if_neg (by decide), if_neg (by decide), if_neg (by decide), if_neg (by decide), if_neg (by decide), if_neg (by decide), if_pos rfl, bnd_id]
  rw [eM]
  have v0 := hv 0 (by decide)
  have v1 := hv 1 (by decide)
  have v2 := hv 2 (by decide)
  have v3 := hv 3 (by decide)
  have i0 : (5 * (c : Int)).toNat = 5 * c + 0 := by omega
  have i1 : (5 * (c : Int) + 1).toNat = 5 * c + 1 := by omega
  have i2 : (5 * (c : Int) + 2).toNat = 5 * c + 2 := by omega
  have i3 : (5 * (c : Int) + 3).toNat = 5 * c + 3 := by omega
  have bad : ∀ m, B_X12_partComes_47 n (5 * (c : Int)) 0 m = some (0, m) := fun m => by
    unfold B_X12_partComes_47
    rw [if_pos rfl, chk_pos (Or.inl rfl)]
  have bX : ∀ (q : Prop) [Decidable q], q → decide q = true := fun q _ h => decide_eq_true h
  have bN : ∀ (q : Prop) [Decidable q], ¬ q → decide q = false := fun q _ h => decide_eq_false h
  unfold F_X1_statementCame F_X1_partCame F_X12_partComes
  rw [zM14, i0, i1, i3, v0, v1, v3, chk_pos (by omega)]
  rw [if_neg (by decide), if_neg (by decide), if_neg (by decide), if_neg (by decide), if_neg (by decide), if_neg (by decide), if_neg (by decide), if_neg (by decide), if_neg (by decide), if_neg (by decide), if_pos rfl, bnd_id, E_bnd e0 rfl, E_bnd e1 rfl, E_bnd e3 rfl]
  by_cases z0 : 0 ≤ y 44 0 ∧ y 44 0 ≤ 5
  · rw [bX _ z0, b01_t, if_neg (by decide), if_neg (show ¬ (6 : Int) ≤ y 44 0 by omega), chk_pos (by omega), chk_pos (by omega)]
    by_cases z1 : 1 ≤ y 44 1 ∧ y 44 1 ≤ 9
    · rw [bX _ z1, b01_t, if_neg (by decide), if_neg (show ¬ y 44 1 ≤ (0 : Int) by omega), chk_pos (by omega), chk_pos (by omega)]
      by_cases z3 : 1 ≤ y 44 3 ∧ y 44 3 ≤ 99
      · rw [bX _ z3, b01_t, if_neg (by decide), if_neg (show ¬ y 44 3 ≤ (0 : Int) by omega)]
        by_cases z8 : (8 : Int) ≤ m 0 2
        · rw [if_pos z8, bad, E_bnd (X_line_full hTL hn hTB (by omega) (by decide)) rfl, if_pos rfl]
          exact no_ rfl rfl AG.rf AG.rf hX.2.1
        · obtain ⟨k, hk⟩ : ∃ k : Nat, m 0 2 = (k : Int) := ⟨(m 0 2).toNat, by omega⟩
          obtain ⟨y', eL, hN⟩ := X_line (n := n) hTL hn (l := k) (by decide) hTB (by omega) (by omega) (by decide)
          rw [if_neg z8, E_bnd eL rfl, if_neg (by decide)]
          refine yes_ (m' := mPart m k (y 44)) rfl ?_ (NR_A (by decide) hN) (mPart_AG AG.rf (fun _ => rfl) (fun _ => rfl) (fun _ => rfl) (fun _ => rfl) (fun _ => rfl) (fun _ => rfl) (fun _ => rfl) rfl) ⟨XK_newPart hX hk (by omega) hN, WFs_newPart hw hk (by omega) z0 z1 r2 z3⟩
          unfold B_X12_partComes_47 mPart
          rw [if_neg (by decide)]
          simp (disch := decide) only [wr_nr, wr_nk, wr_eq, hk, Int.toNat_natCast, i0, i1, i2, i3, v0, v1, v2, v3, zM14, zM1, zM2, zM3, zM4, zM5, zM21, zM22]
          repeat (refine E_chk (by first | omega | decide) ?_)
          rfl
      · rw [bN _ z3, b01_f, if_pos rfl, if_pos (show y 44 3 ≤ (0 : Int) by omega), bad]
        exact no_ rfl rfl AG.rf AG.rf hX.2.1
    · rw [bN _ z1, b01_f, if_pos rfl, if_pos (show y 44 1 ≤ (0 : Int) by omega), bad]
      exact no_ rfl rfl AG.rf AG.rf hX.2.1
  · rw [bN _ z0, b01_f, if_pos rfl, if_pos (show (6 : Int) ≤ y 44 0 by omega), bad]
    exact no_ rfl rfl AG.rf AG.rf hX.2.1
theorem came_house (hX : XK y 27 m) (hw : WFs m) (hc2 : c < 49) (hTL : TL 2 y) (h13 : m 13 c = 104) (hv : ∀ t, t < 2 → m 14 (5 * c + t) = y 44 t) (r0 : 0 ≤ y 44 0 ∧ y 44 0 ≤ 9) (r1 : 0 ≤ y 44 1 ∧ y 44 1 ≤ 99) : APR y m (F_X1_statementCame n 104 y) (F_X12_comes n (c : Int) m) := by
  have h8 := hw.np
  have hTB : TB y 28 8 7 := hX.2.1.1
  have hsz : y 28 3 = m 0 2 := hX.2.2.1.1
  have e0 : F_X1_number n 0 y = _ := X_number_at (i := 0) hTL (by decide)
  have e1 : F_X1_number n 1 y = _ := X_number_at (i := 1) hTL (by decide)
  have v0 := hv 0 (by decide)
  have v1 := hv 1 (by decide)
  have i0 : (5 * (c : Int)).toNat = 5 * c + 0 := by omega
  have i1 : (5 * (c : Int) + 1).toNat = 5 * c + 1 := by omega
  unfold F_X1_statementCame F_X1_houseCame F_X12_comes
  rw [if_neg (by decide), if_neg (by decide), if_pos rfl, bnd_id, E_bnd e0 rfl, E_bnd X_has rfl, hsz]
  rw [zM13, zM14, zM5, Int.toNat_natCast, h13, chk_pos (by omega), chk_pos (by omega), if_neg (show ¬ (104 : Int) = 102 by decide), if_neg (show ¬ (104 : Int) = 103 by decide), if_pos (rfl : (104 : Int) = 104), i0, i1, v0, chk_pos (by omega)]
  by_cases hp : 0 ≤ y 44 0 ∧ y 44 0 < m 0 2
  · obtain ⟨p, hpp⟩ : ∃ p : Nat, y 44 0 = (p : Int) := ⟨(y 44 0).toNat, by omega⟩
    have ep : F_X9_put n 28 (y 44 0) 4 (y 44 1) y = some (0, wr y 29 (p * 7 + 4) (y 44 1)) := by
      rw [hpp]
      exact X_put (j := 4) hTB (by omega) (by decide)
    rw [if_pos hp, if_neg (by decide), E_bnd e0 rfl, E_bnd e1 rfl, E_bnd ep rfl, E_bnd (M_part_t hw hp) rfl, if_neg (by decide), v0, v1, chk_pos (by omega), chk_pos (by omega), chk_pos (by omega), chk_pos (by omega), chk_pos (by omega), wr_nr (by decide), v0, bnd_id, show (y 44 0).toNat = p by omega]
    have hw5 : WFs (wr m 5 p (y 44 1)) := by
      obtain ⟨z1, z2, z3, z4, z5, z6, z7, z8, z9, hpt, ht, hst, hcu, hwe, hdi⟩ := hw
      unfold WFs
      simp (disch := decide) only [wr_nr]
      refine ⟨z1, z2, z3, z4, z5, z6, z7, z8, z9, fun q hq => ?_, ht, hst, hcu, hwe, hdi⟩
      by_cases e : q = p
      · subst e
        rw [wr_eq]
        have := hpt q hq
        omega
      · rw [wr_nk e]
        exact hpt q hq
    refine yes_ rfl ?_ (AG.rf.wr rfl) (AG.rf.wr rfl) ⟨XK_hs ?_, hw5⟩
    · exact M_part_t hw5 (by rw [wr_nr (by decide)]; exact hp)
    · rw [show wr y 29 (p * 7 + 4) (y 44 1) = wr y (3 + 26) (p * 7 + 4) (y 44 1) from rfl, sh_wr]
      exact XK_house (XK_sh hX)
  · rw [if_neg hp, if_pos rfl, E_bnd (M_part_f hw hp) rfl, if_pos rfl, v0, chk_pos (by omega), bnd_id]
    exact no_ rfl (M_part_f hw hp) AG.rf AG.rf hX.2.1
theorem came_tin (hX : XK y 27 m) (hw : WFs m) (hn : 10000 ≤ n) (hc2 : c < 49) (hTL : TL 2 y) (h13 : m 13 c = 116) (hv : ∀ t, t < 2 → m 14 (5 * c + t) = y 44 t) (r0 : y 44 0 = 0 ∨ y 44 0 = 1) : APR y m (F_X1_statementCame n 116 y) (F_X12_comes n (c : Int) m) := by
  have h5 := hw.nt
  have hTB : TB y 30 5 2 := hX.2.1.2.1
  have hsz : y 30 3 = m 0 3 := hX.2.2.1.2.1
  have e1 : F_X1_within n 1 1 30 y = _ := X_within (i := 1) hTL (by decide) 1 30
  have v0 := hv 0 (by decide)
  have v1 := hv 1 (by decide)
  have i0 : (5 * (c : Int)).toNat = 5 * c + 0 := by omega
  have i1 : (5 * (c : Int) + 1).toNat = 5 * c + 1 := by omega
  have eM : F_X12_comes n (c : Int) m = F_X12_tinComes n (y 44 0) (y 44 1) m := by
    unfold F_X12_comes
    rw [zM13, zM14, Int.toNat_natCast, h13, chk_pos (by omega), chk_pos (by omega)]
    rw [if_neg (by decide), if_neg (by decide), if_neg (by decide), if_neg (by decide), if_neg (by decide), if_neg (by decide), if_neg (by decide), if_neg (by decide), if_neg (by decide), if_neg (by decide), if_neg (by decide), if_neg (by decide), if_neg (by decide), if_neg (by decide), if_pos rfl, i0, i1, v0, v1, chk_pos (by omega), chk_pos (by omega), chk_pos (by omega), bnd_id]
  rw [eM]
  unfold F_X1_statementCame F_X1_tinCame F_X12_tinComes
  rw [if_neg (by decide), if_neg (by decide), if_neg (by decide), if_neg (by decide), if_neg (by decide), if_neg (by decide), if_neg (by decide), if_neg (by decide), if_neg (by decide), if_neg (by decide), if_neg (by decide), if_neg (by decide), if_neg (by decide), if_neg (by decide), if_pos rfl, bnd_id, E_bnd e1 rfl]
  by_cases z1 : 1 ≤ y 44 1 ∧ y 44 1 ≤ 30
  · rw [decide_eq_true z1, b01_t, if_neg (by decide), E_bnd (M_in_t z1) rfl, if_neg (by decide)]
    by_cases z5 : (5 : Int) ≤ m 0 3
    · rw [if_pos z5, E_bnd (X_line_full hTL hn hTB (by omega) (by decide)) rfl, if_pos rfl]
      exact no_ rfl rfl AG.rf AG.rf hX.2.1
    · obtain ⟨k, hk⟩ : ∃ k : Nat, m 0 3 = (k : Int) := ⟨(m 0 3).toNat, by omega⟩
      obtain ⟨y', eL, hN⟩ := X_line (n := n) hTL hn (l := k) (by decide) hTB (by omega) (by omega) (by decide)
      rw [if_neg z5, E_bnd eL rfl, if_neg (by decide)]
      refine yes_ (m' := mTin m k (y 44 0) (y 44 1)) rfl ?_ (NR_A (by decide) hN) (((AG.rf.wr rfl).wr rfl).wr rfl) ⟨XK_newTin hX hk (by omega) hN, WFs_newTin hw hk (by omega) r0 z1⟩
      unfold mTin
      simp (disch := decide) only [wr_nr, wr_nk, wr_eq, hk, Int.toNat_natCast, zM6, zM7]
      repeat (refine E_chk (by omega) ?_)
      rfl
  · rw [decide_eq_false z1, b01_f, if_pos rfl, E_bnd (M_in_f z1) rfl, if_pos rfl]
    exact no_ rfl rfl AG.rf AG.rf hX.2.1
theorem came_cups (hX : XK y 27 m) (hw : WFs m) (hn : 10000 ≤ n) (hc2 : c < 49) (hTL : TL 3 y) (h13 : m 13 c = 99) (hv : ∀ t, t < 3 → m 14 (5 * c + t) = y 44 t) (r : ∀ t, t < 3 → 0 ≤ y 44 t) : APR y m (F_X1_statementCame n 99 y) (F_X12_comes n (c : Int) m) := by
  have hTB : TB y 34 3 1 := hX.2.1.2.2.2.1
  have hsz : y 34 3 = 3 := hX.2.2.1.2.2.2.1
  have v0 := hv 0 (by decide)
  have v1 := hv 1 (by decide)
  have v2 := hv 2 (by decide)
  have q0 := r 0 (by decide)
  have q1 := r 1 (by decide)
  have q2 := r 2 (by decide)
  have i0 : (5 * (c : Int)).toNat = 5 * c + 0 := by omega
  have i1 : (5 * (c : Int) + 1).toNat = 5 * c + 1 := by omega
  have i2 : (5 * (c : Int) + 2).toNat = 5 * c + 2 := by omega
  have eM : F_X12_comes n (c : Int) m = F_X12_cupsCome n (y 44 0) (y 44 1) (y 44 2) m := by
    unfold F_X12_comes
    rw [zM13, zM14, Int.toNat_natCast, h13, chk_pos (by omega), chk_pos (by omega)]
    rw [if_neg (by decide), if_neg (by decide), if_neg (by decide), if_neg (by decide), if_neg (by decide), if_neg (by decide), if_neg (by decide), if_neg (by decide), if_neg (by decide), if_neg (by decide), if_neg (by decide), if_neg (by decide), if_neg (by decide), if_neg (by decide), if_neg (by decide), i0, i1, i2, v0, v1, v2, chk_pos (by omega), chk_pos (by omega), chk_pos (by omega), chk_pos (by omega), chk_pos (by omega), bnd_id]
  have amc : AG kKit m (wr (wr (wr m 9 0 (y 44 0)) 9 1 (y 44 1)) 9 2 (y 44 2)) := ((AG.rf.wr rfl).wr rfl).wr rfl
  have eM2 : ∀ b : Bool, (b = true ↔ y 44 0 ≤ 12 ∧ y 44 1 ≤ 12 ∧ y 44 2 ≤ 12) → F_X12_cupsCome n (y 44 0) (y 44 1) (y 44 2) m = some (b01 b, wr (wr (wr m 9 0 (y 44 0)) 9 1 (y 44 1)) 9 2 (y 44 2)) := by
    intro b hb
    unfold F_X12_cupsCome
    rw [zM9, chk_pos (by decide), chk_pos (by decide), chk_pos (by decide), show (0 : Int).toNat = 0 from rfl, show (1 : Int).toNat = 1 from rfl, show (2 : Int).toNat = 2 from rfl]
    cases b with
    | true =>
      have := hb.1 rfl
      rw [if_neg (by omega), if_neg (by omega), if_neg (by omega)]
      rfl
    | false =>
      have : ¬ (y 44 0 ≤ 12 ∧ y 44 1 ≤ 12 ∧ y 44 2 ≤ 12) := fun z => by have := hb.2 z; cases this
      refine E_ite (fun _ => rfl) (fun _ => E_ite (fun _ => rfl) (fun _ => ?_))
      rw [if_pos (by omega)]
      rfl
  rw [eM]
  -- one cup of the class
  have stepX : ∀ (k : Nat) (x' : ZMem) (q : Nat), k < 3 → AG kA27 y x' → TB x' 34 3 1 → x' 34 3 = 3 → L_X1_cupsCame_2 n (q + 1) (k : Int) x' = if y 44 k ≤ 12 then L_X1_cupsCame_2 n q ((k + 1 : Nat) : Int) (wr x' 35 k (y 44 k)) else some (0, x') := by
    intro k x' q hk hA hT hs
    have hTL' : TL 3 x' := ⟨TB_fr hTL.1 (hA _ _ rfl) (hA _ _ rfl) (hA _ _ rfl), by rw [hA 43 3 rfl]; exact hTL.2⟩
    have e44 : x' 44 k = y 44 k := hA 44 k rfl
    have rk := r k hk
    show B_X1_cupsCame_2 n (L_X1_cupsCame_2 n q) (k : Int) x' = _
    unfold B_X1_cupsCame_2
    rw [if_neg (by omega), E_bnd (X_within hTL' hk 0 12) rfl, e44, E_bnd (X_number_at hTL' hk) rfl, e44, E_bnd (X_put0 (i := k) hT (by omega)) rfl, chk_pos (by omega), cast1]
    by_cases z : y 44 k ≤ 12
    · rw [decide_eq_true (show 0 ≤ y 44 k ∧ y 44 k ≤ 12 by omega), b01_t, if_neg (by decide), if_pos z]
    · rw [decide_eq_false (show ¬ (0 ≤ y 44 k ∧ y 44 k ≤ 12) by omega), b01_f, if_pos rfl, if_neg z]
  unfold F_X1_statementCame F_X1_cupsCame
  rw [if_neg (by decide), if_neg (by decide), if_neg (by decide), if_neg (by decide), if_neg (by decide), if_neg (by decide), if_neg (by decide), if_neg (by decide), if_neg (by decide), if_neg (by decide), if_neg (by decide), if_neg (by decide), if_neg (by decide), if_neg (by decide), if_neg (by decide), bnd_id]
  obtain ⟨q, rfl⟩ : ∃ q, n = q + 4 := ⟨n - 4, by omega⟩
  have s0 : L_X1_cupsCame_2 (q + 4) (q + 4) 0 y = _ := stepX 0 y (q + 3) (by decide) AG.rf hTB hsz
  have tb : ∀ {x' : ZMem} {k : Nat} {v : Int}, TB x' 34 3 1 → TB (wr x' 35 k v) 34 3 1 := fun h => TB_fr h (wr_nr (by decide)) (wr_nr (by decide)) (wr_nr (by decide))
  have sz : ∀ {x' : ZMem} {k : Nat} {v : Int}, x' 34 3 = 3 → wr x' 35 k v 34 3 = 3 := fun h => by rw [wr_nr (by decide)]; exact h
  rw [s0, stepX 1 (wr y 35 0 (y 44 0)) (q + 2) (by decide) (AG.rf.wr rfl) (tb hTB) (sz hsz), stepX 2 (wr (wr y 35 0 (y 44 0)) 35 1 (y 44 1)) (q + 1) (by decide) ((AG.rf.wr rfl).wr rfl) (tb (tb hTB)) (sz (sz hsz))]
  by_cases z0 : y 44 0 ≤ 12
  · rw [if_pos z0]
    by_cases z1 : y 44 1 ≤ 12
    · rw [if_pos z1]
      by_cases z2 : y 44 2 ≤ 12
      · rw [if_pos z2]
        have eE : L_X1_cupsCame_2 (q + 4) (q + 1) ((2 + 1 : Nat) : Int) (wr (wr (wr y 35 0 (y 44 0)) 35 1 (y 44 1)) 35 2 (y 44 2)) = some (1, wr (wr (wr y 35 0 (y 44 0)) 35 1 (y 44 1)) 35 2 (y 44 2)) := by
          show B_X1_cupsCame_2 (q + 4) (L_X1_cupsCame_2 (q + 4) q) ((2 + 1 : Nat) : Int) _ = _
          unfold B_X1_cupsCame_2
          rw [if_pos (by decide)]
        refine yes_ eE (eM2 true ⟨fun _ => ⟨z0, z1, z2⟩, fun _ => rfl⟩) (((AG.rf.wr rfl).wr rfl).wr rfl) amc ⟨XK_hs ?_, WFs_cup (WFs_cup (WFs_cup hw ⟨q0, z0⟩) ⟨q1, z1⟩) ⟨q2, z2⟩⟩
        rw [show wr (wr (wr y 35 0 (y 44 0)) 35 1 (y 44 1)) 35 2 (y 44 2) = wr (wr (wr y (9 + 26) 0 (y 44 0)) (9 + 26) 1 (y 44 1)) (9 + 26) 2 (y 44 2) from rfl, sh_wr, sh_wr, sh_wr]
        exact XK_cup (XK_cup (XK_cup (XK_sh hX)))
      · rw [if_neg z2]
        exact no_ rfl (eM2 false ⟨fun z => (by cases z), fun z => absurd z.2.2 z2⟩) ((AG.rf.wr rfl).wr rfl) amc (XT_35 (XT_35 hX.2.1))
    · rw [if_neg z1]
      exact no_ rfl (eM2 false ⟨fun z => (by cases z), fun z => absurd z.2.1 z1⟩) (AG.rf.wr rfl) amc (XT_35 hX.2.1)
  · rw [if_neg z0]
    exact no_ rfl (eM2 false ⟨fun z => (by cases z), fun z => absurd z.1 z0⟩) AG.rf amc hX.2.1
/-- this one stands in for that one already -/
def alB (m : ZMem) (a b : Int) (i : Nat) : Bool := decide (¬ (m 8 (5 * i) = a ∧ m 8 (5 * i + 1) = b))
theorem X_already (hX : XK y 27 m) (hw : WFs m) (hn : 10000 ≤ n) (a b : Int) : F_X1_standsInAlready n a b y = some (b01 (!(allS (alB m a b) (m 0 4).toNat)), y) := by
  have h6 := hw.ns
  have hTB : TB y 32 6 5 := hX.2.1.2.2.1
  have hsz : y 32 3 = m 0 4 := hX.2.2.1.2.2.1
  have hc := hX.2.2.2.2.2.1
  have key := loop_all (L := fun q (z : Int × ZMem) => L_X1_standsInAlready_2 n q a b z.1 z.2) (m 0 4).toNat (alB m a b) (fun k => ((k : Int), y)) (some (0, y)) (some (1, y)) ?_ ?_ ?_ n (by omega)
  · refine Eq.trans key ?_
    cases allS (alB m a b) (m 0 4).toNat with
    | true => rfl
    | false => rfl
  · intro k q hk hf
    simp only [alB, decide_eq_true_eq] at hf
    have c0 : y 33 (k * 5 + 0) = m 8 (5 * k + 0) := hc k (by omega) 0 (by decide)
    have c1 : y 33 (k * 5 + 1) = m 8 (5 * k + 1) := hc k (by omega) 1 (by decide)
    have a0 : F_X9_at n 32 (k : Int) 0 y = some (m 8 (5 * k), y) := by rw [show m 8 (5 * k) = m 8 (5 * k + 0) from rfl, ← c0]; exact X_at (j := 0) hTB (by omega) (by decide)
    have a1 : F_X9_at n 32 (k : Int) 1 y = some (m 8 (5 * k + 1), y) := by rw [← c1]; exact X_at (j := 1) hTB (by omega) (by decide)
    show B_X1_standsInAlready_2 n (L_X1_standsInAlready_2 n q) a b (k : Int) y = _
    unfold B_X1_standsInAlready_2
    rw [E_bnd (X_size n 32 y) rfl, hsz, if_neg (by omega), E_bnd a0 rfl, E_bnd a1 rfl, chk_pos (by omega), cast1]
    by_cases z : m 8 (5 * k) = a
    · rw [if_pos z, if_neg (fun q => hf ⟨z, q⟩)]
    · rw [if_neg z]
  · intro k q hk hf
    simp only [alB, decide_eq_false_iff_not, Decidable.not_not] at hf
    have c0 : y 33 (k * 5 + 0) = m 8 (5 * k + 0) := hc k (by omega) 0 (by decide)
    have c1 : y 33 (k * 5 + 1) = m 8 (5 * k + 1) := hc k (by omega) 1 (by decide)
    have a0 : F_X9_at n 32 (k : Int) 0 y = some (m 8 (5 * k), y) := by rw [show m 8 (5 * k) = m 8 (5 * k + 0) from rfl, ← c0]; exact X_at (j := 0) hTB (by omega) (by decide)
    have a1 : F_X9_at n 32 (k : Int) 1 y = some (m 8 (5 * k + 1), y) := by rw [← c1]; exact X_at (j := 1) hTB (by omega) (by decide)
    show B_X1_standsInAlready_2 n (L_X1_standsInAlready_2 n q) a b (k : Int) y = _
    unfold B_X1_standsInAlready_2
    rw [E_bnd (X_size n 32 y) rfl, hsz, if_neg (by omega), E_bnd a0 rfl, E_bnd a1 rfl, if_pos hf.1, if_pos hf.2]
  · intro q
    show B_X1_standsInAlready_2 n (L_X1_standsInAlready_2 n q) a b ((m 0 4).toNat : Int) y = _
    unfold B_X1_standsInAlready_2
    rw [E_bnd (X_size n 32 y) rfl, hsz, if_pos (by omega)]
theorem M_hasStand (hw : WFs m) (hn : 10000 ≤ n) (a b : Int) : F_X12_hasStandIn n a b m = some (b01 (!(allS (alB m a b) (m 0 4).toNat)), m) := by
  have h6 := hw.ns
  refine loop_run (L := fun q (z : Int × Int × ZMem) => L_X12_hasStandIn_5 n q a b z.1 z.2.1 z.2.2) (m 0 4).toNat (fun k => (b01 (!(allS (alB m a b) k)), (k : Int), m)) _ ?_ ?_ n (by omega)
  · intro k q hk
    show B_X12_hasStandIn_5 n (L_X12_hasStandIn_5 n q) a b (b01 (!(allS (alB m a b) k))) (k : Int) m = L_X12_hasStandIn_5 n q a b (b01 (!(allS (alB m a b) k && alB m a b k))) ((k + 1 : Nat) : Int) m
    unfold B_X12_hasStandIn_5
    rw [if_neg (by omega), zM8, show (5 * (k : Int)).toNat = 5 * k by omega, show (5 * (k : Int) + 1).toNat = 5 * k + 1 by omega]
    cases allS (alB m a b) k with
    | false =>
      rw [show (!false) = true from rfl, b01_t, if_neg (by decide), chk_pos (by omega), cast1]
      rfl
    | true =>
      rw [show (!true) = false from rfl, b01_f, if_pos rfl, chk_pos (by omega), chk_pos (by omega), Bool.true_and]
      by_cases z : m 8 (5 * k) = a
      · rw [if_pos z, chk_pos (by omega), chk_pos (by omega), chk_pos (by omega)]
        by_cases z2 : m 8 (5 * k + 1) = b
        · rw [if_pos z2, chk_pos (by omega), cast1, show alB m a b k = false by simp only [alB, decide_eq_false_iff_not, Decidable.not_not]; exact ⟨z, z2⟩]
          rfl
        · rw [if_neg z2, chk_pos (by omega), cast1, show alB m a b k = true by simp only [alB, decide_eq_true_eq]; exact fun q => z2 q.2]
          rfl
      · rw [if_neg z, chk_pos (by omega), cast1, show alB m a b k = true by simp only [alB, decide_eq_true_eq]; exact fun q => z q.1]
        rfl
  · intro q
    show B_X12_hasStandIn_5 n (L_X12_hasStandIn_5 n q) a b (b01 (!(allS (alB m a b) (m 0 4).toNat))) ((m 0 4).toNat : Int) m = _
    unfold B_X12_hasStandIn_5
    rw [if_pos (by omega)]
    refine E_chk ?_ rfl
    unfold b01
    split
    · exact Or.inr rfl
    · exact Or.inl rfl
theorem put5 (hc2 : c < 49) {k : Nat} (hk : k < 6) {T : Nat → Int} (hk4 : m 0 4 = (k : Int)) (hv : ∀ t, t < 5 → m 14 (5 * c + t) = T t) : ∀ (d t : Nat) (m1 : ZMem) (q : Nat), t + d = 5 → (∀ j, j < 5 * k → m1 8 j = m 8 j) → (∀ u, u < t → m1 8 (5 * k + u) = T u) → (∀ i j, i ≠ 8 → m1 i j = m i j) → d < q → ∃ m', L_X12_standInComes_82 n q (5 * (c : Int)) (t : Int) m1 = some (1, m') ∧ (∀ j, j < 5 * k → m' 8 j = m 8 j) ∧ (∀ u, u < 5 → m' 8 (5 * k + u) = T u) ∧ m' 0 4 = (k : Int) + 1 ∧ (∀ i j, i ≠ 8 → ¬ (i = 0 ∧ j = 4) → m' i j = m i j) := by
  intro d
  induction d with
  | zero =>
    intro t m1 q h1 h2 h3 h4 hq
    obtain ⟨q, rfl⟩ : ∃ z, q = z + 1 := ⟨q - 1, by omega⟩
    have e4 : m1 0 4 = (k : Int) := by rw [h4 0 4 (by decide)]; exact hk4
    refine ⟨wr m1 0 4 ((k : Int) + 1), ?_, fun j hj => ?_, fun u hu => ?_, wr_eq, fun i j hi hj => ?_⟩
    · show B_X12_standInComes_82 n (L_X12_standInComes_82 n q) (5 * (c : Int)) (t : Int) m1 = _
      unfold B_X12_standInComes_82
      rw [if_pos (by omega), e4, chk_pos (by omega)]
    · rw [wr_nr (by decide)]
      exact h2 j hj
    · rw [wr_nr (by decide)]
      exact h3 u (by omega)
    · rw [wr_ne (by omega)]
      exact h4 i j hi
  | succ d ih =>
    intro t m1 q h1 h2 h3 h4 hq
    obtain ⟨q, rfl⟩ : ∃ z, q = z + 1 := ⟨q - 1, by omega⟩
    have e4 : m1 0 4 = (k : Int) := by rw [h4 0 4 (by decide)]; exact hk4
    have e14 : m1 14 (5 * c + t) = T t := by rw [h4 14 _ (by decide)]; exact hv t (by omega)
    show ∃ m', B_X12_standInComes_82 n (L_X12_standInComes_82 n q) (5 * (c : Int)) (t : Int) m1 = some (1, m') ∧ _
    unfold B_X12_standInComes_82
    rw [if_neg (by omega), e4, zM14, zM8, chk_pos (by omega), chk_pos (by omega), chk_pos (by omega), chk_pos (by omega), chk_pos (by omega), chk_pos (by omega), show (5 * (k : Int) + (t : Int)).toNat = 5 * k + t by omega, show (5 * (c : Int) + (t : Int)).toNat = 5 * c + t by omega, e14, cast1]
    refine ih (t + 1) _ q (by omega) (fun j hj => ?_) (fun u hu => ?_) (fun i j hi => ?_) (by omega)
    · rw [wr_nk (by omega)]
      exact h2 j hj
    · by_cases e : u = t
      · rw [e, wr_eq]
      · rw [wr_nk (by omega)]
        exact h3 u (by omega)
    · rw [wr_nr hi]
      exact h4 i j hi
theorem came_stand (hX : XK y 27 m) (hw : WFs m) (hn : 10000 ≤ n) (hc2 : c < 49) (hTL : TL 5 y) (h13 : m 13 c = 115) (hv : ∀ t, t < 5 → m 14 (5 * c + t) = y 44 t) (r : ∀ t, t < 5 → 0 ≤ y 44 t ∧ y 44 t ≤ 9) : APR y m (F_X1_statementCame n 115 y) (F_X12_comes n (c : Int) m) := by
  have h6 := hw.ns
  have h8 := hw.np
  have hTB : TB y 32 6 5 := hX.2.1.2.2.1
  have hsz : y 32 3 = m 0 4 := hX.2.2.1.2.2.1
  have hsp : y 28 3 = m 0 2 := hX.2.2.1.1
  have e0 : F_X1_number n 0 y = _ := X_number_at (i := 0) hTL (by decide)
  have e1 : F_X1_number n 1 y = _ := X_number_at (i := 1) hTL (by decide)
  have e2 : F_X1_within n 2 1 9 y = _ := X_within (i := 2) hTL (by decide) 1 9
  have e3 : F_X1_within n 3 1 9 y = _ := X_within (i := 3) hTL (by decide) 1 9
  have r0 := r 0 (by decide)
  have r1 := r 1 (by decide)
  have r2 := r 2 (by decide)
  have r3 := r 3 (by decide)
  have r4 := r 4 (by decide)
  have eM : F_X12_comes n (c : Int) m = F_X12_standInComes n (5 * (c : Int)) m := by
    unfold F_X12_comes
    rw [zM13, Int.toNat_natCast, h13, chk_pos (by omega), chk_pos (by omega)]
    rw [if_neg (by decide), if_neg (by decide), if_neg (by decide), if_neg (by decide), if_neg (by decide), if_neg (by decide), if_neg (by decide), if_neg (by decide), if_neg (by decide), if_neg (by decide), if_neg (by decide), if_neg (by decide), if_neg (by decide), if_pos rfl, bnd_id]
  have v0 := hv 0 (by decide)
  have v1 := hv 1 (by decide)
  have v2 := hv 2 (by decide)
  have v3 := hv 3 (by decide)
  rw [eM]
  unfold F_X1_statementCame F_X1_standInCame F_X12_standInComes
  rw [zM14, show (5 * (c : Int)).toNat = 5 * c + 0 by omega, show (5 * (c : Int) + 1).toNat = 5 * c + 1 by omega, show (5 * (c : Int) + 2).toNat = 5 * c + 2 by omega, show (5 * (c : Int) + 3).toNat = 5 * c + 3 by omega, v0, v1, chk_pos (by omega), chk_pos (by omega), chk_pos (by omega)]
  rw [if_neg (by decide), if_neg (by decide), if_neg (by decide), if_neg (by decide), if_neg (by decide), if_neg (by decide), if_neg (by decide), if_neg (by decide), if_neg (by decide), if_neg (by decide), if_neg (by decide), if_neg (by decide), if_neg (by decide), if_pos rfl, bnd_id, E_bnd e0 rfl, E_bnd e1 rfl, E_bnd X_has rfl, hsp]
  by_cases p0 : 0 ≤ y 44 0 ∧ y 44 0 < m 0 2
  · rw [if_pos p0, if_neg (by decide), E_bnd (M_part_t hw p0) rfl, if_neg (by decide), E_bnd X_has rfl, hsp]
    by_cases p1 : 0 ≤ y 44 1 ∧ y 44 1 < m 0 2
    · rw [if_pos p1, if_neg (show ¬ (1 : Int) = 0 by decide), E_bnd (M_part_t hw p1) rfl, if_neg (show ¬ (1 : Int) = 0 by decide)]
      by_cases pe : y 44 0 = y 44 1
      · rw [if_pos pe, if_pos pe]
        exact no_ rfl rfl AG.rf AG.rf hX.2.1
      · rw [if_neg pe, if_neg pe, E_bnd e2 rfl, E_bnd e3 rfl, v2, v3, chk_pos (by omega), chk_pos (by omega)]
        by_cases z2 : 1 ≤ y 44 2 ∧ y 44 2 ≤ 9
        · rw [decide_eq_true z2, b01_t, if_neg (by decide), if_neg (show ¬ y 44 2 = 0 by omega), chk_pos (by omega), chk_pos (by omega)]
          by_cases z3 : 1 ≤ y 44 3 ∧ y 44 3 ≤ 9
          · rw [decide_eq_true z3, b01_t, if_neg (by decide), if_neg (show ¬ y 44 3 = 0 by omega), E_bnd (X_already hX hw hn _ _) rfl]
            by_cases z6 : m 0 4 = 6
            · rw [if_pos z6, E_bnd (X_line_full hTL hn hTB (by omega) (by decide)) rfl, if_pos rfl]
              refine no_ (y' := y) ?_ rfl AG.rf AG.rf hX.2.1
              refine E_ite (fun _ => rfl) (fun _ => rfl)
            · rw [if_neg z6, E_bnd (M_hasStand hw hn _ _) rfl]
              cases allS (alB m (y 44 0) (y 44 1)) (m 0 4).toNat with
              | false =>
                rw [show (!false) = true from rfl, b01_t, if_neg (by decide), if_neg (by decide)]
                exact no_ rfl rfl AG.rf AG.rf hX.2.1
              | true =>
                rw [show (!true) = false from rfl, b01_f, if_pos rfl, if_pos rfl]
                obtain ⟨k, hk⟩ : ∃ k : Nat, m 0 4 = (k : Int) := ⟨(m 0 4).toNat, by omega⟩
                obtain ⟨y', eL, hN⟩ := X_line (n := n) hTL hn (l := k) (by decide) hTB (by omega) (by omega) (by decide)
                obtain ⟨m', em, g1, g2, g3, g4⟩ := put5 (n := n) hc2 (k := k) (by omega) hk hv 5 0 m n (by decide) (fun _ _ => rfl) (fun u hu => absurd hu (Nat.not_lt_zero u)) (fun _ _ _ => rfl) (by omega)
                rw [E_bnd eL rfl, if_neg (by decide)]
                refine yes_ rfl em (NR_A (by decide) hN) (fun i j hij => g4 i j ?_ ?_) ⟨XK_newStand hX hk (by omega) hN g1 g2 g3 g4, WFs_newStand hw hk (by omega) g1 g2 g3 g4 p0 p1 z2 z3 r4⟩
                · rintro rfl
                  cases hij
                · rintro ⟨rfl, rfl⟩
                  cases hij
          · rw [decide_eq_false z3, b01_f, if_pos rfl, if_pos (show y 44 3 = 0 by omega)]
            exact no_ rfl rfl AG.rf AG.rf hX.2.1
        · rw [decide_eq_false z2, b01_f, if_pos rfl, if_pos (show y 44 2 = 0 by omega)]
          exact no_ rfl rfl AG.rf AG.rf hX.2.1
    · rw [if_neg p1, if_pos rfl, E_bnd (M_part_f hw p1) rfl, if_pos rfl]
      exact no_ rfl rfl AG.rf AG.rf hX.2.1
  · rw [if_neg p0, if_pos rfl, E_bnd (M_part_f hw p0) rfl, if_pos rfl]
    exact no_ rfl rfl AG.rf AG.rf hX.2.1
end ZAP2
