/-! OPERATIONS 1: cup, set, clear, row, weight, feed -/
theorem AG.addT {keep : Nat → Nat → Bool} {m m' : ZMem} {t W : Nat} {v : Int} (h : AG keep m m') (hk : ∀ j, keep (t + 1) j = false) (hk2 : keep t 3 = false) : AG keep m (addT m' t W v) := (h.ad hk).wr hk2
theorem addT1_get (x : ZMem) (t j : Nat) (v : Int) : addT x t 1 v (t + 1) j = if j = (x t 3).toNat then v else x (t + 1) j := by
  unfold addT
  rw [wr_nr (by omega)]
  simp only [adT, Nat.mul_one]
  by_cases e : j = (x t 3).toNat
  · rw [if_pos (show True ∧ (x t 3).toNat ≤ j ∧ j < (x t 3).toNat + 1 from ⟨trivial, by omega, by omega⟩), if_pos e, if_pos e]
  · rw [if_neg (show ¬ (True ∧ (x t 3).toNat ≤ j ∧ j < (x t 3).toNat + 1) by omega), if_neg e]
theorem addT_sz (x : ZMem) (t W : Nat) (v : Int) : addT x t W v t 3 = x t 3 + 1 := wr_eq
theorem addT_c (x : ZMem) (t W j : Nat) (v : Int) (hj : j ≠ 3) : addT x t W v t j = x t j := by
  unfold addT
  rw [wr_nk hj, adT_t]
theorem TB_add {x : ZMem} {t R W : Nat} {v : Int} (h : TB x t R W) (hs : x t 3 < R) : TB (addT x t W v) t R W :=
  TB_sz h (addT_c _ _ _ _ _ (by decide)) (addT_c _ _ _ _ _ (by decide)) (by rw [addT_sz]; have := h.2.2.1; omega)
section ZOP1
variable {c n : Nat} {x m : ZMem}
theorem XK_cup {s : ZMem} {k : Nat} {v : Int} (h : XK x 1 s) : XK (wr x 9 k v) 1 (wr s 9 k v) := by
  obtain ⟨hf, hp, ht, hs, hc, hw, hd⟩ := XK_parts h
  refine XK_of ⟨XKf_fr hf (AG.rf.wr rfl) (AG.rf.wr rfl), XKp_fr hp (AG.rf.wr rfl) (AG.rf.wr rfl), XKt_fr ht (AG.rf.wr rfl) (AG.rf.wr rfl), XKs_fr hs (AG.rf.wr rfl) (AG.rf.wr rfl), ?_, XKw_fr hw (AG.rf.wr rfl) (AG.rf.wr rfl), XKd_fr hd (AG.rf.wr rfl) (AG.rf.wr rfl)⟩
  obtain ⟨a1, a2, a3⟩ := hc
  refine ⟨TB_fr a1 rfl rfl rfl, a2, fun q hq => ?_⟩
  by_cases e : q = k
  · subst e
    rw [wr_eq, wr_eq]
  · rw [wr_nk e, wr_nk e]
    exact a3 q hq
theorem WFs_cup {s : ZMem} {k : Nat} {v : Int} (h : WFs s) (hv : 0 ≤ v ∧ v ≤ 12) : WFs (wr s 9 k v) := by
  obtain ⟨z1, z2, z3, z4, z5, z6, z7, z8, z9, hp, ht, hs, hc, hr⟩ := h
  unfold WFs
  simp (disch := decide) only [wr_nr]
  refine ⟨z1, z2, z3, z4, z5, z6, z7, z8, z9, hp, ht, hs, fun q hq => ?_, hr⟩
  by_cases e : q = k
  · subst e
    rw [wr_eq]
    exact hv
  · rw [wr_nk e]
    exact hc q hq
theorem op_cup (h : CP c x m) (hc : c ≤ 1000) (a v : Int) : SIM c (F_X11_cup n a v x) (F_X12_cup n a v m) := by
  have hw := WFs_t h.k.2
  have h3 := h.k.1.s8
  have b1 := npS_bd (x 8 3) a
  have b2 := outS_bd 0 12 v
  unfold F_X11_cup F_X12_cup
  by_cases hp : 0 ≤ a ∧ a ≤ 2
  · by_cases h4 : v < 0
    · refine SIM_ref h (r := -4) (by decide) ?_ ?_
      · exact E_bnd (X_noSuch _ _ _ _) (E_bnd (X_outside _ _ _ _ _) (E_bnd (X_ref2 h.f hc b1 b2 (r := -4) (by simp only [refS, npS, ncS, outS, eiS, rmS, eaS]; (repeat' split) <;> omega) (by decide)) (by rw [if_neg (by decide)])))
      · exact E_bnd (M_in_t hp) (by rw [if_neg (by decide)]; exact E_bnd (M_wr4 h4) (by rw [if_neg (by decide)]; exact E_bnd (M_ref h hc (by decide)) rfl))
    by_cases h6 : 12 < v
    · refine SIM_ref h (r := -6) (by decide) ?_ ?_
      · exact E_bnd (X_noSuch _ _ _ _) (E_bnd (X_outside _ _ _ _ _) (E_bnd (X_ref2 h.f hc b1 b2 (r := -6) (by simp only [refS, npS, ncS, outS, eiS, rmS, eaS]; (repeat' split) <;> omega) (by decide)) (by rw [if_neg (by decide)])))
      · exact E_bnd (M_in_t hp) (by rw [if_neg (by decide)]; exact E_bnd (M_wr6 h4 h6) (by rw [if_neg (by decide)]; exact E_bnd (M_ref h hc (by decide)) rfl))
    · obtain ⟨k, rfl⟩ : ∃ k : Nat, a = (k : Int) := ⟨a.toNat, by omega⟩
      have ex := X_exchange (n := n) (i := k) (j := 0) (v := v) h.k.1.t8 (by omega) (by decide)
      rw [Nat.mul_one, Nat.add_zero] at ex
      have ev : x 9 k = m 9 k := h.k.1.2.2.2.2.2.2.1 k (by omega)
      refine ⟨m 9 k, wr x 9 k v, wr (wr m 0 16 0) 9 k v, ?_, ?_, ?_⟩
      · refine E_bnd (X_noSuch _ _ _ _) (E_bnd (X_outside _ _ _ _ _) (E_bnd (X_not2 (by simp only [refS, npS, ncS, outS, eiS, rmS, eaS]; (repeat' split) <;> omega) b1) ?_))
        rw [if_pos rfl, ← ev]
        exact E_bnd ex rfl
      · refine E_bnd (M_in_t hp) ?_
        rw [if_neg (by decide)]
        refine E_bnd (M_wr0 h4 h6) ?_
        rw [if_pos (by decide)]
        simp only [zM9, Int.toNat_natCast]
        exact E_chk (by omega) (E_chk (by omega) rfl)
      · exact CP_kit h ⟨XK_cup (XK_t h.k.1), WFs_cup hw (by omega)⟩ (AG.rf.wr rfl) (AG.rf.wr rfl) (AG.rf.wr rfl) (AG.rf.wr rfl) (AG.rf.wr rfl) (AG.rf.wr rfl) (AG.rf.wr rfl) ((AG.rf.wr rfl).wr rfl) ((AG.rf.wr rfl).wr rfl) ((AG.rf.wr rfl).wr rfl) ((AG.rf.wr rfl).wr rfl) ((AG.rf.wr rfl).wr rfl)
  · refine SIM_ref h (r := -1) (by decide) ?_ ?_
    · exact E_bnd (X_noSuch _ _ _ _) (E_bnd (X_outside _ _ _ _ _) (E_bnd (X_ref2 h.f hc b1 b2 (r := -1) (by simp only [refS, npS, ncS, outS, eiS, rmS, eaS]; (repeat' split) <;> omega) (by decide)) (by rw [if_neg (by decide)])))
    · exact E_bnd (M_in_f hp) (by rw [if_pos rfl]; exact E_bnd (M_ref h hc (by decide)) rfl)
theorem XK_f {s x' s' : ZMem} (h : XK x 1 s) (hf : XKf x' s') (hx : AG (fun i _ => decide (2 ≤ i) && decide (i ≤ 13)) x x') (hs : AG (fun i j => kMk i j && (decide (i ≠ 0) || decide (j = 2) || decide (j = 3) || decide (j = 4) || decide (j = 41) || decide (j = 47))) s s') : XK x' 1 s' := by
  obtain ⟨-, hp, ht, hs', hc, hw, hd⟩ := XK_parts h
  have fx : ∀ {g : Nat → Nat → Bool}, (∀ i j, g i j = true → 2 ≤ i ∧ i ≤ 13) → AG g x x' := fun hg i j hk => hx i j (by have := hg i j hk; simp; omega)
  refine XK_of ⟨hf, XKp_fr hp (fx (by intro i j hk; simp [gXp] at hk; omega)) ?_, XKt_fr ht (fx (by intro i j hk; simp [gXt] at hk; omega)) ?_, XKs_fr hs' (fx (by intro i j hk; simp [gXs] at hk; omega)) ?_, XKc_fr hc (fx (by intro i j hk; simp [gXc] at hk; omega)) ?_, XKw_fr hw (fx (by intro i j hk; simp [gXw] at hk; omega)) ?_, XKd_fr hd (fx (by intro i j hk; simp [gXd] at hk; omega)) ?_⟩
  all_goals
    intro i j hk
    refine hs i j ?_
    by_cases e : i = 0
    · subst e
      simp [gMp, gMt, gMs, gMc, gMw, gMd, kMk] at hk ⊢ <;> omega
    · simp [gMp, gMt, gMs, gMc, gMw, gMd, kMk, e] at hk ⊢ <;> omega
theorem WFs_vol {s : ZMem} {v : Int} (h : WFs s) (hv : 1 ≤ v ∧ v ≤ 999) : WFs (wr s 0 5 v) := by
  obtain ⟨z1, z2, z3, z4, z5, z6, z7, z8, z9, hr⟩ := h
  unfold WFs
  simp (disch := decide) only [wr_nr, wr_nk, wr_eq]
  exact ⟨z1, z2, z3, z4, z5, hv, z7, z8, z9, hr⟩
theorem WFs_tim {s : ZMem} {v : Int} (h : WFs s) (hv : 1 ≤ v ∧ v ≤ 99) : WFs (wr s 0 6 v) := by
  obtain ⟨z1, z2, z3, z4, z5, z6, z7, z8, z9, hr⟩ := h
  unfold WFs
  simp (disch := decide) only [wr_nr, wr_nk, wr_eq]
  exact ⟨z1, z2, z3, z4, z5, z6, hv, z8, z9, hr⟩
theorem WFs_gue {s : ZMem} {v : Int} (h : WFs s) (hv : 1 ≤ v ∧ v ≤ 24) : WFs (wr s 0 1 v) := by
  obtain ⟨z1, z2, z3, z4, z5, z6, z7, z8, z9, hr⟩ := h
  unfold WFs
  simp (disch := decide) only [wr_nr, wr_nk, wr_eq]
  exact ⟨z1, hv, z3, z4, z5, z6, z7, z8, z9, hr⟩
/-- a row of numbers, one more -/
theorem op_row (h : CP c x m) (hc : c ≤ 1000) (hn : 10000 ≤ n) (v : Int) : SIM c (F_X11_row n v x) (F_X12_row n v m) := by
  obtain ⟨r1, r2, r3⟩ := h.r
  have hT := r1
  obtain ⟨e1, e2, ⟨e3, e4⟩, -⟩ := r1
  have b1 := outS_bd 0 99 v
  have b2 := rmS_bd (x 45 3) (x 45 1)
  unfold F_X11_row F_X12_row
  by_cases h4 : v < 0
  · refine SIM_ref h (r := -4) (by decide) ?_ ?_
    · exact E_bnd (X_outside _ _ _ _ _) (E_bnd (X_noRoom _ _ _) (E_bnd (X_ref2 h.f hc b1 b2 (r := -4) (by simp only [refS, npS, ncS, outS, eiS, rmS, eaS]; (repeat' split) <;> omega) (by decide)) (by rw [if_neg (by decide)])))
    · rw [if_neg (by omega)]
      exact E_bnd (M_ref h hc (by decide)) rfl
  by_cases h6 : 99 < v
  · refine SIM_ref h (r := -6) (by decide) ?_ ?_
    · exact E_bnd (X_outside _ _ _ _ _) (E_bnd (X_noRoom _ _ _) (E_bnd (X_ref2 h.f hc b1 b2 (r := -6) (by simp only [refS, npS, ncS, outS, eiS, rmS, eaS]; (repeat' split) <;> omega) (by decide)) (by rw [if_neg (by decide)])))
    · rw [if_pos (by omega), if_pos h6]
      exact E_bnd (M_ref h hc (by decide)) rfl
  by_cases h8 : m 0 49 = 8
  · refine SIM_ref h (r := -6) (by decide) ?_ ?_
    · exact E_bnd (X_outside _ _ _ _ _) (E_bnd (X_noRoom _ _ _) (E_bnd (X_ref2 h.f hc b1 b2 (r := -6) (by simp only [refS, npS, ncS, outS, eiS, rmS, eaS]; (repeat' split) <;> omega) (by decide)) (by rw [if_neg (by decide)])))
    · rw [if_pos (by omega), if_neg h6, wr_nk (by decide), if_pos h8]
      exact E_bnd (M_ref h hc (by decide)) rfl
  · obtain ⟨k, hk⟩ : ∃ k : Nat, m 0 49 = (k : Int) := ⟨(m 0 49).toNat, by omega⟩
    refine ⟨(k : Int) + 1, addT x 45 1 v, wr (wr (wr m 0 16 0) 29 k v) 0 49 ((k : Int) + 1), ?_, ?_, ?_⟩
    · refine E_bnd (X_outside _ _ _ _ _) (E_bnd (X_noRoom _ _ _) (E_bnd (X_not2 (by simp only [refS, npS, ncS, outS, eiS, rmS, eaS]; (repeat' split) <;> omega) b1) ?_))
      rw [if_pos rfl]
      refine E_bnd (X_add hT hn (by omega)) (E_bnd (X_size _ _ _) (E_some ?_ rfl))
      rw [addT_sz]
      omega
    · simp (disch := decide) only [wr_nr, wr_nk, wr_eq, hk, zM29, Int.toNat_natCast]
      rw [if_pos (by omega), if_neg h6, if_neg (by omega)]
      exact E_chk (by omega) (E_chk (by omega) rfl)
    · refine ⟨CPk_fr h.k ((AG.rf.addT (by intro j; rfl) rfl)) (((AG.rf.wr rfl).wr rfl).wr rfl), CPi_fr h.i ((AG.rf.addT (by intro j; rfl) rfl)) (((AG.rf.wr rfl).wr rfl).wr rfl), CPt_fr h.t (AG.rf.addT (by intro j; rfl) rfl), CPl_fr h.l (AG.rf.addT (by intro j; rfl) rfl) (((AG.rf.wr rfl).wr rfl).wr rfl), ?_, CPe_fr h.e (AG.rf.addT (by intro j; rfl) rfl) (((AG.rf.wr rfl).wr rfl).wr rfl), CPf_fr h.f (AG.rf.addT (by intro j; rfl) rfl) (((AG.rf.wr rfl).wr rfl).wr rfl), CPs_fr h.s (AG.rf.addT (by intro j; rfl) rfl)⟩
      refine ⟨TB_add hT (by omega), by rw [addT_sz, wr_eq]; omega, fun j hj => ?_⟩
      rw [wr_eq] at hj
      rw [addT1_get, wr_nr (by decide)]
      by_cases e : j = k
      · subst e
        rw [if_pos (by omega), wr_eq]
        exact ⟨rfl, by omega⟩
      · rw [if_neg (by omega), wr_nk e, wr_nr (by decide)]
        exact r3 j (by omega)
theorem op_clear (h : CP c x m) (hn : 10000 ≤ n) : SIM c (F_X11_clear n x) (F_X12_clear n m) := by
  obtain ⟨r1, r2, r3⟩ := h.r
  unfold F_X11_clear F_X12_clear
  refine ⟨m 0 49, rsT (wr x 45 3 0) 45 0 0, wr (wr m 0 16 0) 0 49 0, ?_, rfl, ?_⟩
  · refine E_bnd (X_size _ _ _) (E_bnd (X_reset r1 hn (l := 0) (by omega) rfl) ?_)
    exact E_some r2 (by rw [Nat.zero_mul]; rfl)
  · rw [rsT_0]
    refine ⟨CPk_fr h.k (AG.rf.wr rfl) ((AG.rf.wr rfl).wr rfl), CPi_fr h.i (AG.rf.wr rfl) ((AG.rf.wr rfl).wr rfl), CPt_fr h.t (AG.rf.wr rfl), CPl_fr h.l (AG.rf.wr rfl) ((AG.rf.wr rfl).wr rfl), ?_, CPe_fr h.e (AG.rf.wr rfl) ((AG.rf.wr rfl).wr rfl), CPf_fr h.f (AG.rf.wr rfl) ((AG.rf.wr rfl).wr rfl), CPs_fr h.s (AG.rf.wr rfl)⟩
    refine ⟨TB_sz r1 rfl rfl (by rw [wr_eq]; omega), by rw [wr_eq, wr_eq], fun j hj => ?_⟩
    rw [wr_eq] at hj
    omega
end ZOP1
