/-! OPERATIONS 5: guests (the oldest of eight is dropped) -/
/-- row i, its first k cells moved one down -/
def shR (m : ZMem) (i k : Nat) : ZMem := fun a b => if a = i ∧ b < k then m i (b + 1) else m a b
theorem shR_0 (m : ZMem) (i : Nat) : shR m i 0 = m := by
  funext a b
  unfold shR
  rw [if_neg (by omega)]
theorem shR_at (m : ZMem) (i k b : Nat) (h : k ≤ b) : shR m i k i b = m i b := by
  unfold shR
  rw [if_neg (by omega)]
theorem shR_lt (m : ZMem) (i k b : Nat) (h : b < k) : shR m i k i b = m i (b + 1) := by
  unfold shR
  rw [if_pos ⟨rfl, h⟩]
theorem shR_nr (m : ZMem) (i k a b : Nat) (h : a ≠ i) : shR m i k a b = m a b := by
  unfold shR
  rw [if_neg (by omega)]
theorem shR_s (m : ZMem) (i k : Nat) : wr (shR m i k) i k (shR m i k i (k + 1)) = shR m i (k + 1) := by
  rw [shR_at _ _ _ _ (by omega)]
  funext a b
  unfold wr shR
  by_cases h1 : a = i
  · subst h1
    by_cases h2 : b = k
    · subst h2
      rw [if_pos ⟨rfl, rfl⟩, if_pos ⟨rfl, by omega⟩]
    · rw [if_neg (by omega)]
      by_cases h3 : b < k
      · rw [if_pos ⟨rfl, h3⟩, if_pos ⟨rfl, by omega⟩]
      · rw [if_neg (by omega), if_neg (by omega)]
  · rw [if_neg (by omega), if_neg (by omega), if_neg (by omega)]
theorem AG.sh {keep : Nat → Nat → Bool} {m m' : ZMem} {i k : Nat} (h : AG keep m m') (hk : ∀ j, keep i j = false) : AG keep m (shR m' i k) := by
  intro a b hab
  rw [shR_nr]
  · exact h a b hab
  · rintro rfl
    rw [hk] at hab
    cases hab
section ZOP5
variable {x s m : ZMem} {c n : Nat}
theorem X_dropFirst {t R : Nat} (h : TB x t R 1) (ht : t ≠ t + 1) (hn : 10000 ≤ n) {K : Nat} (hK : x t 3 = ((K + 1 : Nat) : Int)) (hR : K + 1 ≤ R) (hR2 : R ≤ 5000) : F_X9_dropFirst n t x = some (0, wr (shR x (t + 1) K) t 3 (K : Int)) := by
  obtain ⟨h1, h2, h3, h4⟩ := h
  have tb : ∀ k, TB (shR x (t + 1) k) t R 1 := fun k => TB_fr ⟨h1, h2, h3, h4⟩ (shR_nr _ _ _ _ _ ht) (shR_nr _ _ _ _ _ ht) (shR_nr _ _ _ _ _ ht)
  have e3 : ∀ k, shR x (t + 1) k t 3 = ((K + 1 : Nat) : Int) := fun k => by rw [shR_nr _ _ _ _ _ ht]; exact hK
  have e2 : ∀ k, shR x (t + 1) k t 2 = 1 := fun k => by rw [shR_nr _ _ _ _ _ ht]; exact h2
  have key := loop_run (L := fun q (z : Int × ZMem) => L_X9_dropFirst_2 n t q z.1 z.2) K (fun k => (((k + 1 : Nat) : Int), shR x (t + 1) k)) (some (0, wr (shR x (t + 1) K) t 3 (K : Int))) ?_ ?_ n (by omega)
  · rw [shR_0] at key
    exact key
  · intro k q hk
    show B_X9_dropFirst_2 n t (L_X9_dropFirst_2 n t q) ((k + 1 : Nat) : Int) (shR x (t + 1) k) = L_X9_dropFirst_2 n t q ((k + 1 + 1 : Nat) : Int) (shR x (t + 1) (k + 1))
    unfold B_X9_dropFirst_2
    rw [e3, if_neg (by omega)]
    obtain ⟨p, hp⟩ : ∃ p, n = p + 2 := ⟨n - 2, by omega⟩
    have g : ∀ p, L_X9_dropFirst_12 n t (L_X9_dropFirst_2 n t q) (p + 2) ((k + 1 : Nat) : Int) 0 (shR x (t + 1) k) = L_X9_dropFirst_2 n t q ((k + 1 + 1 : Nat) : Int) (shR x (t + 1) (k + 1)) := by
      intro p
      show B_X9_dropFirst_12 n t (L_X9_dropFirst_2 n t q) (L_X9_dropFirst_12 n t (L_X9_dropFirst_2 n t q) (p + 1)) ((k + 1 : Nat) : Int) 0 (shR x (t + 1) k) = _
      unfold B_X9_dropFirst_12
      rw [e2, if_neg (by decide), show ((k + 1 : Nat) : Int) - 1 = (k : Int) by omega]
      have pt := X_put0 (n := n) (i := k) (v := shR x (t + 1) k (t + 1) (k + 1)) (tb k) (by rw [e3]; omega)
      rw [shR_s] at pt
      refine E_chk (by omega) (E_bnd (X_at0 (i := k + 1) (tb k) (by rw [e3]; omega)) (E_bnd pt (E_chk (by omega) ?_)))
      show B_X9_dropFirst_12 n t (L_X9_dropFirst_2 n t q) (L_X9_dropFirst_12 n t (L_X9_dropFirst_2 n t q) p) ((k + 1 : Nat) : Int) 1 (shR x (t + 1) (k + 1)) = _
      unfold B_X9_dropFirst_12
      rw [e2, if_pos (by decide)]
      refine E_chk (by omega) ?_
      rw [cast1]
    have g2 := g p
    rw [← hp] at g2
    exact g2
  · intro q
    show B_X9_dropFirst_2 n t (L_X9_dropFirst_2 n t q) ((K + 1 : Nat) : Int) (shR x (t + 1) K) = _
    unfold B_X9_dropFirst_2
    rw [e3, if_pos (by omega)]
    refine E_bnd (X_dropLast (by rw [e3]; omega)) (E_some rfl ?_)
    rw [e3, show max (((K + 1 : Nat) : Int) - 1) 0 = (K : Int) by omega]
theorem M_keep8 (hn : 10000 ≤ n) (h8 : s 0 33 = 8) : F_X12_keepGuests n s = some (0, wr (wr (wr (shR s 17 7) 0 33 7) 17 7 (s 0 1)) 0 33 8) := by
  unfold F_X12_keepGuests
  rw [if_pos h8]
  have z : ∀ k j, shR s 17 k 0 j = s 0 j := fun k j => shR_nr _ _ _ _ _ (by decide)
  have key := loop_run (L := fun q (z : Int × ZMem) => L_X12_keepGuests_11 n q z.1 z.2) 7 (fun k => (((k + 1 : Nat) : Int), shR s 17 k)) (some (0, wr (wr (wr (shR s 17 7) 0 33 7) 17 7 (s 0 1)) 0 33 8)) ?_ ?_ n (by omega)
  · rw [shR_0] at key
    exact key
  · intro k q hk
    show B_X12_keepGuests_11 n (L_X12_keepGuests_11 n q) ((k + 1 : Nat) : Int) (shR s 17 k) = L_X12_keepGuests_11 n q ((k + 1 + 1 : Nat) : Int) (shR s 17 (k + 1))
    unfold B_X12_keepGuests_11
    rw [if_neg (by omega), show ((k + 1 : Nat) : Int) - 1 = (k : Int) by omega]
    simp only [zM17, Int.toNat_natCast, shR_s]
    refine E_chk (by omega) (E_chk (by omega) (E_chk (by omega) (E_chk (by omega) ?_)))
    rw [cast1]
  · intro q
    show B_X12_keepGuests_11 n (L_X12_keepGuests_11 n q) ((7 + 1 : Nat) : Int) (shR s 17 7) = _
    unfold B_X12_keepGuests_11
    rw [if_pos (by decide), z, h8]
    simp (disch := decide) only [wr_nr, wr_nk, wr_eq, zM17, z]
    exact E_chk (by omega) (E_chk (by omega) (E_chk (by omega) rfl))
theorem op_guests (h : CP c x m) (hc : c ≤ 1000) (hn : 10000 ≤ n) (v : Int) : SIM c (F_X11_guests n v x) (F_X12_guests n v m) := by
  obtain ⟨r1, r2, r3⟩ := h.e
  have hT := r1
  obtain ⟨e1, e2, ⟨e3, e4⟩, -⟩ := r1
  have e1 : x 47 1 = 8 := e1
  have hw := WFs_t h.k.2
  have hk := XK_t (k := 1) h.k.1
  have hg := h.k.2.g
  have gu := h.k.1.gu
  unfold F_X11_guests F_X12_guests
  by_cases h4 : v < 1
  · have eo : outS 1 24 v = -4 := by unfold outS; rw [if_pos h4]
    refine SIM_ref h (r := -4) (by decide) ?_ ?_
    · refine E_bnd (X_outside _ _ _ _ _) ?_
      rw [eo]
      refine E_bnd (X_refo h.f hc (by decide) (by decide)) ?_
      rw [if_neg (by decide)]
    · refine E_bnd (M_wr4 h4) ?_
      rw [if_neg (by decide)]
      exact E_bnd (M_wr4 h4) (E_bnd (M_ref h hc (by decide)) rfl)
  by_cases h6 : 24 < v
  · have eo : outS 1 24 v = -6 := by unfold outS; rw [if_neg h4, if_pos h6]
    refine SIM_ref h (r := -6) (by decide) ?_ ?_
    · refine E_bnd (X_outside _ _ _ _ _) ?_
      rw [eo]
      refine E_bnd (X_refo h.f hc (by decide) (by decide)) ?_
      rw [if_neg (by decide)]
    · refine E_bnd (M_wr6 h4 h6) ?_
      rw [if_neg (by decide)]
      exact E_bnd (M_wr6 h4 h6) (E_bnd (M_ref h hc (by decide)) rfl)
  have eo : outS 1 24 v = 0 := by unfold outS; rw [if_neg h4, if_neg h6]
  by_cases h8 : m 0 33 = 8
  · have hs : x 47 3 = ((7 + 1 : Nat) : Int) := by omega
    have df := X_dropFirst (n := n) (t := 47) (R := 8) (K := 7) hT (by decide) hn hs (by decide) (by decide)
    have hTy : TB (wr (shR x 48 7) 47 3 ((7 : Nat) : Int)) 47 8 1 := TB_sz hT (by rw [wr_nk (by decide), shR_nr _ _ _ _ _ (by decide)]) (by rw [wr_nk (by decide), shR_nr _ _ _ _ _ (by decide)]) (by rw [wr_eq]; omega)
    refine ⟨m 0 1, wr (addT (wr (shR x 48 7) 47 3 ((7 : Nat) : Int)) 47 1 (m 0 1)) 1 1 v, wr (wr (wr (wr (shR (wr m 0 16 0) 17 7) 0 33 7) 17 7 (m 0 1)) 0 33 8) 0 1 v, ?_, ?_, ?_⟩
    · refine E_bnd (X_outside _ _ _ _ _) ?_
      rw [eo]
      refine E_bnd (X_noto rfl) ?_
      rw [if_pos rfl]
      refine E_bnd X_full ?_
      rw [if_neg (show ¬ x 47 3 < x 47 1 by omega), if_neg (by decide), gu]
      exact E_bnd df (E_bnd (X_add hTy hn (by rw [wr_eq]; decide)) rfl)
    · refine E_bnd (M_wr0 h4 h6) ?_
      rw [if_pos (by decide)]
      exact E_bnd (M_keep8 hn h8) rfl
    · have ck := CPk_fr (x' := addT (wr (shR x 48 7) 47 3 ((7 : Nat) : Int)) 47 1 (m 0 1)) (m' := wr (wr (wr (shR (wr m 0 16 0) 17 7) 0 33 7) 17 7 (m 0 1)) 0 33 8) ⟨hk, hw⟩ (((AG.rf.sh (by intro j; rfl)).wr rfl).addT (by intro j; rfl) rfl) ((((AG.rf.sh (by intro j; rfl)).wr rfl).wr rfl).wr rfl)
      refine ⟨⟨XK_gue ck.1, WFs_gue ck.2 (by omega)⟩, CPi_fr h.i ((((AG.rf.sh (by intro j; rfl)).wr rfl).addT (by intro j; rfl) rfl).wr rfl) ((((((AG.rf.wr rfl).sh (by intro j; rfl)).wr rfl).wr rfl).wr rfl).wr rfl), CPt_fr h.t ((((AG.rf.sh (by intro j; rfl)).wr rfl).addT (by intro j; rfl) rfl).wr rfl), CPl_fr h.l ((((AG.rf.sh (by intro j; rfl)).wr rfl).addT (by intro j; rfl) rfl).wr rfl) ((((((AG.rf.wr rfl).sh (by intro j; rfl)).wr rfl).wr rfl).wr rfl).wr rfl), CPr_fr h.r ((((AG.rf.sh (by intro j; rfl)).wr rfl).addT (by intro j; rfl) rfl).wr rfl) ((((((AG.rf.wr rfl).sh (by intro j; rfl)).wr rfl).wr rfl).wr rfl).wr rfl), ?_, CPf_fr h.f ((((AG.rf.sh (by intro j; rfl)).wr rfl).addT (by intro j; rfl) rfl).wr rfl) ((((((AG.rf.wr rfl).sh (by intro j; rfl)).wr rfl).wr rfl).wr rfl).wr rfl), CPs_fr h.s ((((AG.rf.sh (by intro j; rfl)).wr rfl).addT (by intro j; rfl) rfl).wr rfl)⟩
      refine ⟨TB_fr (TB_add (v := m 0 1) hTy (by rw [wr_eq]; decide)) rfl rfl rfl, ?_, fun j hj => ?_⟩
      · rw [wr_nr (by decide), addT_sz, wr_eq, wr_nk (by decide), wr_eq]
        rfl
      · rw [wr_nk (by decide), wr_eq] at hj
        rw [wr_nr (by decide), addT1_get, wr_eq]
        simp (disch := decide) only [wr_nr]
        by_cases e : j = 7
        · subst e
          rw [if_pos (by decide), wr_eq]
          exact ⟨rfl, hg⟩
        · rw [if_neg (by omega), wr_nk e, wr_nr (by decide), shR_lt _ _ _ _ (by omega), shR_lt _ _ _ _ (by omega), wr_nr (by decide)]
          exact r3 (j + 1) (by omega)
  · obtain ⟨k, hkk⟩ : ∃ k : Nat, m 0 33 = (k : Int) := ⟨(m 0 33).toNat, by omega⟩
    refine ⟨m 0 1, wr (addT x 47 1 (m 0 1)) 1 1 v, wr (wr (wr (wr m 0 16 0) 17 k (m 0 1)) 0 33 ((k : Int) + 1)) 0 1 v, ?_, ?_, ?_⟩
    · refine E_bnd (X_outside _ _ _ _ _) ?_
      rw [eo]
      refine E_bnd (X_noto rfl) ?_
      rw [if_pos rfl]
      refine E_bnd X_full ?_
      rw [if_pos (show x 47 3 < x 47 1 by omega), if_pos rfl, gu]
      exact E_bnd (X_add hT hn (by omega)) rfl
    · refine E_bnd (M_wr0 h4 h6) ?_
      rw [if_pos (by decide)]
      unfold F_X12_keepGuests
      simp (disch := decide) only [wr_nr, wr_nk, wr_eq, hkk, zM17, Int.toNat_natCast]
      rw [if_neg (by omega)]
      exact E_bnd (E_chk (by omega) (E_chk (by omega) rfl)) rfl
    · have ck := CPk_fr (x' := addT x 47 1 (m 0 1)) (m' := wr (wr (wr m 0 16 0) 17 k (m 0 1)) 0 33 ((k : Int) + 1)) ⟨hk, hw⟩ (AG.rf.addT (by intro j; rfl) rfl) ((AG.rf.wr rfl).wr rfl)
      refine ⟨⟨XK_gue ck.1, WFs_gue ck.2 (by omega)⟩, CPi_fr h.i ((AG.rf.addT (by intro j; rfl) rfl).wr rfl) ((((AG.rf.wr rfl).wr rfl).wr rfl).wr rfl), CPt_fr h.t ((AG.rf.addT (by intro j; rfl) rfl).wr rfl), CPl_fr h.l ((AG.rf.addT (by intro j; rfl) rfl).wr rfl) ((((AG.rf.wr rfl).wr rfl).wr rfl).wr rfl), CPr_fr h.r ((AG.rf.addT (by intro j; rfl) rfl).wr rfl) ((((AG.rf.wr rfl).wr rfl).wr rfl).wr rfl), ?_, CPf_fr h.f ((AG.rf.addT (by intro j; rfl) rfl).wr rfl) ((((AG.rf.wr rfl).wr rfl).wr rfl).wr rfl), CPs_fr h.s ((AG.rf.addT (by intro j; rfl) rfl).wr rfl)⟩
      refine ⟨TB_fr (TB_add (v := m 0 1) hT (by omega)) rfl rfl rfl, ?_, fun j hj => ?_⟩
      · rw [wr_nr (by decide), addT_sz, wr_nk (by decide), wr_eq]
        omega
      · rw [wr_nk (by decide), wr_eq] at hj
        rw [wr_nr (by decide), addT1_get, wr_nr (by decide), wr_nr (by decide)]
        by_cases e : j = k
        · subst e
          rw [if_pos (by omega), wr_eq]
          exact ⟨rfl, hg⟩
        · rw [if_neg (by omega), wr_nk e, wr_nr (by decide)]
          exact r3 j (by omega)
end ZOP5
