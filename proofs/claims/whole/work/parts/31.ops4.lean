/-! OPERATIONS 4: set, weight, feed, back -/
section ZOP4
variable {x s m : ZMem} {c n : Nat}
theorem wr_self (m : ZMem) (i k : Nat) : wr m i k (m i k) = m := by
  funext a b
  unfold wr
  split
  · rename_i h
    rw [h.1, h.2]
  · rfl
theorem XK_vol {v : Int} (h : XK x 1 s) : XK (wr x 1 2 v) 1 (wr s 0 5 v) := by
  obtain ⟨⟨f1, f2, f3, f4⟩, -⟩ := XK_parts h
  exact XK_f h ⟨f1, f2, rfl, f4⟩ (AG.rf.wr rfl) (AG.rf.wr rfl)
theorem XK_tim {v : Int} (h : XK x 1 s) : XK (wr x 1 3 v) 1 (wr s 0 6 v) := by
  obtain ⟨⟨f1, f2, f3, f4⟩, -⟩ := XK_parts h
  exact XK_f h ⟨f1, f2, f3, rfl⟩ (AG.rf.wr rfl) (AG.rf.wr rfl)
theorem XK_gue {v : Int} (h : XK x 1 s) : XK (wr x 1 1 v) 1 (wr s 0 1 v) := by
  obtain ⟨⟨f1, f2, f3, f4⟩, -⟩ := XK_parts h
  exact XK_f h ⟨f1, rfl, f3, f4⟩ (AG.rf.wr rfl) (AG.rf.wr rfl)
theorem op_set (h : CP c x m) (hc : c ≤ 1000) (a v : Int) : SIM c (F_X11_set n a v x) (F_X12_set n a v m) := by
  have hw := WFs_t h.k.2
  have hk := XK_t (k := 1) h.k.1
  have b1 := ncS_bd a 1
  have exS : ∀ (s0 r : Int), -6 ≤ r ∧ r ≤ -1 → refS (ncS a 1) (outS 1 s0 v) 0 = r → B_X11_set_19 n a v s0 1 (ncS a 1) x = some (r, rfX x r) := by
    intro s0 r hr e
    unfold B_X11_set_19
    refine E_bnd (X_outside _ _ _ _ _) (E_bnd (X_ref2 h.f hc b1 (outS_bd _ _ _) e (by omega)) ?_)
    rw [if_neg (by omega)]
  by_cases h2 : 0 ≤ a ∧ a ≤ 1
  · by_cases ha : a = 0
    · subst ha
      by_cases h4 : v < 1
      · exact SIM_ref h (r := -4) (by decide) (by unfold F_X11_set; refine E_bnd (X_noChoice _ _ _ _) ?_; rw [if_pos rfl]; exact exS _ _ (by decide) (by simp only [refS, npS, ncS, outS, eiS, rmS, eaS]; (repeat' split) <;> omega)) (by unfold F_X12_set; refine E_bnd (M_in_t h2) ?_; rw [if_neg (by decide), if_pos rfl]; refine E_bnd (M_wr4 h4) ?_; rw [if_neg (by decide)]; exact E_bnd (M_ref h hc (by decide)) rfl)
      by_cases h6 : 999 < v
      · exact SIM_ref h (r := -6) (by decide) (by unfold F_X11_set; refine E_bnd (X_noChoice _ _ _ _) ?_; rw [if_pos rfl]; exact exS _ _ (by decide) (by simp only [refS, npS, ncS, outS, eiS, rmS, eaS]; (repeat' split) <;> omega)) (by unfold F_X12_set; refine E_bnd (M_in_t h2) ?_; rw [if_neg (by decide), if_pos rfl]; refine E_bnd (M_wr6 h4 h6) ?_; rw [if_neg (by decide)]; exact E_bnd (M_ref h hc (by decide)) rfl)
      · refine ⟨m 0 5, wr x 1 2 v, wr (wr m 0 16 0) 0 5 v, ?_, ?_, ?_⟩
        · unfold F_X11_set
          refine E_bnd (X_noChoice _ _ _ _) ?_
          rw [if_pos rfl]
          unfold B_X11_set_19
          refine E_bnd (X_outside _ _ _ _ _) (E_bnd (X_not2 (by simp only [refS, npS, ncS, outS, eiS, rmS, eaS]; (repeat' split) <;> omega) b1) ?_)
          rw [if_pos rfl, if_pos rfl, if_pos rfl]
          exact E_some h.k.1.vo rfl
        · unfold F_X12_set
          refine E_bnd (M_in_t h2) ?_
          rw [if_neg (by decide), if_pos rfl]
          refine E_bnd (M_wr0 h4 h6) ?_
          rw [if_pos (by decide), if_pos rfl]
          unfold B_X12_set_63
          rw [if_pos rfl, if_neg (by decide), wr_self]
          rfl
        · exact CP_kit h ⟨XK_vol hk, WFs_vol hw (by omega)⟩ (AG.rf.wr rfl) (AG.rf.wr rfl) (AG.rf.wr rfl) (AG.rf.wr rfl) (AG.rf.wr rfl) (AG.rf.wr rfl) (AG.rf.wr rfl) ((AG.rf.wr rfl).wr rfl) ((AG.rf.wr rfl).wr rfl) ((AG.rf.wr rfl).wr rfl) ((AG.rf.wr rfl).wr rfl) ((AG.rf.wr rfl).wr rfl)
    · obtain rfl : a = 1 := by omega
      by_cases h4 : v < 1
      · exact SIM_ref h (r := -4) (by decide) (by unfold F_X11_set; refine E_bnd (X_noChoice _ _ _ _) ?_; rw [if_neg ha]; exact exS _ _ (by decide) (by simp only [refS, npS, ncS, outS, eiS, rmS, eaS]; (repeat' split) <;> omega)) (by unfold F_X12_set; refine E_bnd (M_in_t h2) ?_; rw [if_neg (by decide), if_neg ha]; refine E_bnd (M_wr4 h4) ?_; rw [if_neg (by decide)]; exact E_bnd (M_ref h hc (by decide)) rfl)
      by_cases h6 : 99 < v
      · exact SIM_ref h (r := -6) (by decide) (by unfold F_X11_set; refine E_bnd (X_noChoice _ _ _ _) ?_; rw [if_neg ha]; exact exS _ _ (by decide) (by simp only [refS, npS, ncS, outS, eiS, rmS, eaS]; (repeat' split) <;> omega)) (by unfold F_X12_set; refine E_bnd (M_in_t h2) ?_; rw [if_neg (by decide), if_neg ha]; refine E_bnd (M_wr6 h4 h6) ?_; rw [if_neg (by decide)]; exact E_bnd (M_ref h hc (by decide)) rfl)
      · refine ⟨m 0 6, wr x 1 3 v, wr (wr m 0 16 0) 0 6 v, ?_, ?_, ?_⟩
        · unfold F_X11_set
          refine E_bnd (X_noChoice _ _ _ _) ?_
          rw [if_neg ha]
          unfold B_X11_set_19
          refine E_bnd (X_outside _ _ _ _ _) (E_bnd (X_not2 (by simp only [refS, npS, ncS, outS, eiS, rmS, eaS]; (repeat' split) <;> omega) b1) ?_)
          rw [if_pos rfl, if_neg ha, if_neg ha]
          exact E_some h.k.1.mi rfl
        · unfold F_X12_set
          refine E_bnd (M_in_t h2) ?_
          rw [if_neg (by decide), if_neg ha]
          refine E_bnd (M_wr0 h4 h6) ?_
          rw [if_pos (by decide), if_neg ha]
          unfold B_X12_set_63
          rw [if_neg ha, if_pos rfl, wr_self]
          rfl
        · exact CP_kit h ⟨XK_tim hk, WFs_tim hw (by omega)⟩ (AG.rf.wr rfl) (AG.rf.wr rfl) (AG.rf.wr rfl) (AG.rf.wr rfl) (AG.rf.wr rfl) (AG.rf.wr rfl) (AG.rf.wr rfl) ((AG.rf.wr rfl).wr rfl) ((AG.rf.wr rfl).wr rfl) ((AG.rf.wr rfl).wr rfl) ((AG.rf.wr rfl).wr rfl) ((AG.rf.wr rfl).wr rfl)
  · have e : ∀ s0 : Int, refS (ncS a 1) (outS 1 s0 v) 0 = -2 := by intro s0; unfold refS ncS; rw [if_neg h2, if_neg (by decide)]
    refine SIM_ref h (r := -2) (by decide) ?_ ?_
    · unfold F_X11_set
      exact E_bnd (X_noChoice _ _ _ _) (E_ite (fun _ => exS _ _ (by decide) (e _)) (fun _ => exS _ _ (by decide) (e _)))
    · unfold F_X12_set
      refine E_bnd (M_in_f h2) ?_
      rw [if_pos rfl]
      exact E_bnd (M_ref h hc (by decide)) rfl
theorem XK_wei {v : Int} {k : Nat} (h : XK x 1 s) (hs : s 0 41 = (k : Int)) (hk : k < 5) : XK (addT x 10 1 v) 1 (wr (wr s 23 k v) 0 41 ((k : Int) + 1)) := by
  obtain ⟨hf, hp, ht, hs', hc, ⟨w1, w2, w3⟩, hd⟩ := XK_parts h
  refine XK_of ⟨XKf_fr hf (AG.rf.addT (by intro j; rfl) rfl) ((AG.rf.wr rfl).wr rfl), XKp_fr hp (AG.rf.addT (by intro j; rfl) rfl) ((AG.rf.wr rfl).wr rfl), XKt_fr ht (AG.rf.addT (by intro j; rfl) rfl) ((AG.rf.wr rfl).wr rfl), XKs_fr hs' (AG.rf.addT (by intro j; rfl) rfl) ((AG.rf.wr rfl).wr rfl), XKc_fr hc (AG.rf.addT (by intro j; rfl) rfl) ((AG.rf.wr rfl).wr rfl), ?_, XKd_fr hd (AG.rf.addT (by intro j; rfl) rfl) ((AG.rf.wr rfl).wr rfl)⟩
  refine ⟨TB_add w1 (by omega), by rw [addT_sz, wr_eq]; omega, fun j hj => ?_⟩
  rw [wr_eq] at hj
  rw [addT1_get, wr_nr (by decide)]
  by_cases e : j = k
  · subst e
    rw [if_pos (by omega), wr_eq]
  · rw [if_neg (by omega), wr_nk e]
    exact w3 j (by omega)
theorem WFs_wei {v : Int} {k : Nat} (h : WFs s) (hs : s 0 41 = (k : Int)) (hk : k < 5) (hv : 1 ≤ v ∧ v ≤ 40) : WFs (wr (wr s 23 k v) 0 41 ((k : Int) + 1)) := by
  obtain ⟨z1, z2, z3, z4, z5, z6, z7, z8, z9, hp, ht, hs', hc, hq, hd⟩ := h
  unfold WFs
  simp (disch := decide) only [wr_nr, wr_nk, wr_eq]
  refine ⟨z1, z2, z3, z4, z5, z6, z7, by omega, z9, hp, ht, hs', hc, fun q hq' => ?_, hd⟩
  by_cases e : q = k
  · subst e
    rw [wr_eq]
    exact hv
  · rw [wr_nk e]
    exact hq q (by omega)
theorem op_weight (h : CP c x m) (hc : c ≤ 1000) (hn : 10000 ≤ n) (v : Int) : SIM c (F_X11_weight n v x) (F_X12_weight n v m) := by
  have hw := WFs_t h.k.2
  have hk := XK_t (k := 1) h.k.1
  have hT := h.k.1.t10
  have e2 := h.k.1.s10
  have hnw := h.k.2.nw
  have b1 := outS_bd 1 40 v
  have b2 := rmS_bd (x 10 3) (x 10 1)
  obtain ⟨e1, -, ⟨e3, e4⟩, -⟩ := hT
  have e1 : x 10 1 = 5 := e1
  have ex : ∀ r : Int, -6 ≤ r ∧ r ≤ -1 → refS (outS 1 40 v) (rmS (x 10 3) (x 10 1)) 0 = r → F_X11_weight n v x = some (r, rfX x r) := by
    intro r hr e
    unfold F_X11_weight
    refine E_bnd (X_outside _ _ _ _ _) (E_bnd (X_noRoom _ _ _) (E_bnd (X_ref2 h.f hc b1 b2 e (by omega)) ?_))
    rw [if_neg (by omega)]
  by_cases h4 : v < 1
  · exact SIM_ref h (r := -4) (by decide) (ex _ (by decide) (by simp only [refS, npS, ncS, outS, eiS, rmS, eaS]; (repeat' split) <;> omega)) (by unfold F_X12_weight; refine E_bnd (M_wr4 h4) ?_; rw [if_neg (by decide), if_neg (by decide)]; exact E_bnd (M_ref h hc (by decide)) rfl)
  by_cases h6 : 40 < v
  · exact SIM_ref h (r := -6) (by decide) (ex _ (by decide) (by simp only [refS, npS, ncS, outS, eiS, rmS, eaS]; (repeat' split) <;> omega)) (by unfold F_X12_weight; refine E_bnd (M_wr6 h4 h6) ?_; rw [if_neg (by decide), if_neg (by decide)]; exact E_bnd (M_ref h hc (by decide)) rfl)
  by_cases h8 : m 0 41 = 5
  · refine SIM_ref h (r := -6) (by decide) (ex _ (by decide) (by simp only [refS, npS, ncS, outS, eiS, rmS, eaS]; (repeat' split) <;> omega)) ?_
    unfold F_X12_weight
    refine E_bnd (M_wr0 h4 h6) ?_
    rw [if_pos rfl, wr_nk (by decide), if_pos h8]
    exact E_bnd (M_ref h hc (by decide)) rfl
  · obtain ⟨k, hkk⟩ : ∃ k : Nat, m 0 41 = (k : Int) := ⟨(m 0 41).toNat, by omega⟩
    refine ⟨(k : Int) + 1, addT x 10 1 v, wr (wr (wr m 0 16 0) 23 k v) 0 41 ((k : Int) + 1), ?_, ?_, ?_⟩
    · unfold F_X11_weight
      refine E_bnd (X_outside _ _ _ _ _) (E_bnd (X_noRoom _ _ _) (E_bnd (X_not2 (by simp only [refS, npS, ncS, outS, eiS, rmS, eaS]; (repeat' split) <;> omega) b1) ?_))
      rw [if_pos rfl]
      refine E_bnd (X_add h.k.1.t10 hn (by omega)) (E_bnd (X_size _ _ _) (E_some ?_ rfl))
      rw [addT_sz]
      omega
    · unfold F_X12_weight
      refine E_bnd (M_wr0 h4 h6) ?_
      rw [if_pos rfl]
      simp (disch := decide) only [wr_nr, wr_nk, wr_eq, hkk, zM23, Int.toNat_natCast]
      rw [if_neg (by omega), if_pos (by decide)]
      exact E_chk (by omega) (E_chk (by omega) rfl)
    · exact CP_kit h ⟨XK_wei hk hkk (by omega), WFs_wei hw hkk (by omega) (by omega)⟩ (AG.rf.addT (by intro j; rfl) rfl) (AG.rf.addT (by intro j; rfl) rfl) (AG.rf.addT (by intro j; rfl) rfl) (AG.rf.addT (by intro j; rfl) rfl) (AG.rf.addT (by intro j; rfl) rfl) (AG.rf.addT (by intro j; rfl) rfl) (AG.rf.addT (by intro j; rfl) rfl) (((AG.rf.wr rfl).wr rfl).wr rfl) (((AG.rf.wr rfl).wr rfl).wr rfl) (((AG.rf.wr rfl).wr rfl).wr rfl) (((AG.rf.wr rfl).wr rfl).wr rfl) (((AG.rf.wr rfl).wr rfl).wr rfl)
theorem op_feed (h : CP c x m) (hc : c ≤ 1000) (hn : 10000 ≤ n) (v : Int) : SIM c (F_X11_feed n v x) (F_X12_feed n v m) := by
  obtain ⟨r1, r2, r3⟩ := h.l
  have hT := r1
  obtain ⟨e1, e2, ⟨e3, e4⟩, -⟩ := r1
  have e1 : x 41 1 = 96 := e1
  have b1 := outS_bd 0 255 v
  have b2 := rmS_bd (x 41 3) (x 41 1)
  have ex : ∀ r : Int, -6 ≤ r ∧ r ≤ -1 → refS (outS 0 255 v) (rmS (x 41 3) (x 41 1)) 0 = r → F_X11_feed n v x = some (r, rfX x r) := by
    intro r hr e
    unfold F_X11_feed F_X1_letters
    refine E_bnd (X_outside _ _ _ _ _) (E_bnd rfl (E_bnd (X_noRoom _ _ _) (E_bnd (X_ref2 h.f hc b1 b2 e (by omega)) ?_)))
    rw [if_neg (by omega)]
  unfold F_X12_feed
  by_cases h4 : v < 0
  · refine SIM_ref h (r := -4) (by decide) (ex _ (by decide) (by simp only [refS, npS, ncS, outS, eiS, rmS, eaS]; (repeat' split) <;> omega)) ?_
    rw [if_neg (by omega)]
    exact E_bnd (M_ref h hc (by decide)) rfl
  by_cases h6 : 255 < v
  · refine SIM_ref h (r := -6) (by decide) (ex _ (by decide) (by simp only [refS, npS, ncS, outS, eiS, rmS, eaS]; (repeat' split) <;> omega)) ?_
    rw [if_pos (by omega), if_pos h6]
    exact E_bnd (M_ref h hc (by decide)) rfl
  by_cases h8 : m 0 19 = 96
  · refine SIM_ref h (r := -6) (by decide) (ex _ (by decide) (by simp only [refS, npS, ncS, outS, eiS, rmS, eaS]; (repeat' split) <;> omega)) ?_
    rw [if_pos (by omega), if_neg h6, wr_nk (by decide), if_pos h8]
    exact E_bnd (M_ref h hc (by decide)) rfl
  · obtain ⟨k, hk⟩ : ∃ k : Nat, m 0 19 = (k : Int) := ⟨(m 0 19).toNat, by omega⟩
    refine ⟨(k : Int) + 1, addT x 41 1 v, wr (wr (wr m 0 16 0) 11 k v) 0 19 ((k : Int) + 1), ?_, ?_, ?_⟩
    · unfold F_X11_feed F_X1_letters
      refine E_bnd (X_outside _ _ _ _ _) (E_bnd rfl (E_bnd (X_noRoom _ _ _) (E_bnd (X_not2 (by simp only [refS, npS, ncS, outS, eiS, rmS, eaS]; (repeat' split) <;> omega) b1) ?_)))
      rw [if_pos rfl]
      refine E_bnd rfl (E_bnd (X_add hT hn (by omega)) (E_bnd rfl (E_bnd (X_size _ _ _) (E_some ?_ rfl))))
      rw [addT_sz]
      omega
    · simp (disch := decide) only [wr_nr, wr_nk, wr_eq, hk, zM11, Int.toNat_natCast]
      rw [if_pos (by omega), if_neg h6, if_neg (by omega)]
      exact E_chk (by omega) (E_chk (by omega) rfl)
    · refine ⟨CPk_fr h.k ((AG.rf.addT (by intro j; rfl) rfl)) (((AG.rf.wr rfl).wr rfl).wr rfl), CPi_fr h.i ((AG.rf.addT (by intro j; rfl) rfl)) (((AG.rf.wr rfl).wr rfl).wr rfl), CPt_fr h.t (AG.rf.addT (by intro j; rfl) rfl), ?_, CPr_fr h.r (AG.rf.addT (by intro j; rfl) rfl) (((AG.rf.wr rfl).wr rfl).wr rfl), CPe_fr h.e (AG.rf.addT (by intro j; rfl) rfl) (((AG.rf.wr rfl).wr rfl).wr rfl), CPf_fr h.f (AG.rf.addT (by intro j; rfl) rfl) (((AG.rf.wr rfl).wr rfl).wr rfl), CPs_fr h.s (AG.rf.addT (by intro j; rfl) rfl)⟩
      refine ⟨TB_add hT (by omega), by rw [addT_sz, wr_eq]; omega, fun j hj => ?_⟩
      rw [wr_eq] at hj
      rw [addT1_get, wr_nr (by decide)]
      by_cases e : j = k
      · subst e
        rw [if_pos (by omega), wr_eq]
        exact ⟨rfl, by omega⟩
      · rw [if_neg (by omega), wr_nk e, wr_nr (by decide)]
        exact r3 j (by omega)
theorem op_back (h : CP c x m) (hc : c ≤ 1000) : SIM c (F_X11_back n x) (F_X12_back n m) := by
  obtain ⟨r1, r2, r3⟩ := h.e
  have hT := r1
  obtain ⟨e1, e2, ⟨e3, e4⟩, -⟩ := r1
  have hw := WFs_t h.k.2
  have hk := XK_t (k := 1) h.k.1
  unfold F_X11_back F_X12_back
  by_cases h0 : m 0 33 = 0
  · refine SIM_ref h (r := -3) (by decide) ?_ ?_
    · refine E_bnd (X_size _ _ _) (E_chk (by omega) ?_)
      rw [if_neg (by omega)]
      refine E_bnd (X_refo h.f hc (by decide) (by decide)) ?_
      rw [if_neg (by decide)]
    · rw [wr_nk (by decide), if_pos h0]
      exact E_bnd (M_ref h hc (by decide)) rfl
  · obtain ⟨k, hkk⟩ : ∃ k : Nat, m 0 33 = ((k + 1 : Nat) : Int) := ⟨(m 0 33).toNat - 1, by omega⟩
    have ek : ((k + 1 : Nat) : Int) - 1 = (k : Int) := by omega
    obtain ⟨v1, v2⟩ := r3 k (by omega)
    refine ⟨m 17 k, wr (wr x 1 1 (m 17 k)) 47 3 (k : Int), wr (wr (wr m 0 16 0) 0 33 (k : Int)) 0 1 (m 17 k), ?_, ?_, ?_⟩
    · refine E_bnd (X_size _ _ _) ?_
      rw [r2, hkk, ek]
      refine E_chk (by omega) ?_
      rw [if_pos (by omega)]
      refine E_bnd (X_noto rfl) ?_
      rw [if_pos rfl]
      refine E_bnd (X_at0 hT (by omega)) (E_bnd (X_dropLast (by rw [wr_nr (by decide)]; omega)) ?_)
      refine E_some ?_ ?_
      · rw [wr_nr (by decide), wr_eq]
        exact v1
      · rw [wr_nr (by decide), r2, hkk, ek, v1]
        rw [show max (k : Int) 0 = (k : Int) by omega]
    · simp (disch := decide) only [wr_nr, wr_nk, wr_eq, hkk, ek, zM17, Int.toNat_natCast]
      rw [if_neg (by omega)]
      exact E_chk (by omega) (E_chk (by omega) rfl)
    · have hk2 : XK x 1 (wr (wr m 0 16 0) 0 33 (k : Int)) := XK_fr hk (fun _ _ _ _ => rfl) (AG.rf.wr rfl)
      refine ⟨⟨XK_fr (XK_gue (v := m 17 k) hk2) (fun i j _ _ => wr_nr (by omega)) AG.rf, WFs_gue (WFs_fr hw (AG.rf.wr rfl)) v2⟩, CPi_fr h.i ((AG.rf.wr rfl).wr rfl) (((AG.rf.wr rfl).wr rfl).wr rfl), CPt_fr h.t ((AG.rf.wr rfl).wr rfl), CPl_fr h.l ((AG.rf.wr rfl).wr rfl) (((AG.rf.wr rfl).wr rfl).wr rfl), CPr_fr h.r ((AG.rf.wr rfl).wr rfl) (((AG.rf.wr rfl).wr rfl).wr rfl), ?_, CPf_fr h.f ((AG.rf.wr rfl).wr rfl) (((AG.rf.wr rfl).wr rfl).wr rfl), CPs_fr h.s ((AG.rf.wr rfl).wr rfl)⟩
      refine ⟨TB_sz hT rfl rfl (by rw [wr_eq]; omega), by rw [wr_eq, wr_nk (by decide), wr_eq], fun j hj => ?_⟩
      rw [wr_nk (by decide), wr_eq] at hj
      exact r3 j (by omega)
end ZOP4
