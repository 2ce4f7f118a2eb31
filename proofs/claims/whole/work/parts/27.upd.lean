/-! THE KITCHEN, part by part, and what changes it -/
def XKf (x s : ZMem) : Prop := x 1 0 = s 0 0 ∧ x 1 1 = s 0 1 ∧ x 1 2 = s 0 5 ∧ x 1 3 = s 0 6
def XKp (x s : ZMem) : Prop := TB x 2 8 7 ∧ x 2 3 = s 0 2 ∧ ∀ p : Nat, (p : Int) < s 0 2 → x 3 (p * 7 + 0) = s 1 p ∧ x 3 (p * 7 + 1) = s 2 p ∧ x 3 (p * 7 + 2) = s 3 p ∧ x 3 (p * 7 + 3) = s 4 p ∧ x 3 (p * 7 + 4) = s 5 p ∧ x 3 (p * 7 + 5) = s 21 p ∧ x 3 (p * 7 + 6) = s 22 p
def XKt (x s : ZMem) : Prop := TB x 4 5 2 ∧ x 4 3 = s 0 3 ∧ ∀ t : Nat, (t : Int) < s 0 3 → x 5 (t * 2 + 0) = s 6 t ∧ x 5 (t * 2 + 1) = s 7 t
def XKs (x s : ZMem) : Prop := TB x 6 6 5 ∧ x 6 3 = s 0 4 ∧ ∀ i : Nat, (i : Int) < s 0 4 → ∀ c : Nat, c < 5 → x 7 (i * 5 + c) = s 8 (5 * i + c)
def XKc (x s : ZMem) : Prop := TB x 8 3 1 ∧ x 8 3 = 3 ∧ ∀ c : Nat, c < 3 → x 9 c = s 9 c
def XKw (x s : ZMem) : Prop := TB x 10 5 1 ∧ x 10 3 = s 0 41 ∧ ∀ w : Nat, (w : Int) < s 0 41 → x 11 w = s 23 w
def XKd (x s : ZMem) : Prop := TB x 12 4 5 ∧ x 12 3 = s 0 47 ∧ ∀ d : Nat, (d : Int) < s 0 47 → ∀ c : Nat, c < 5 → x 13 (d * 5 + c) = s 28 (5 * d + c)
theorem XK_parts {x s : ZMem} (h : XK x 1 s) : XKf x s ∧ XKp x s ∧ XKt x s ∧ XKs x s ∧ XKc x s ∧ XKw x s ∧ XKd x s := by
  obtain ⟨f, ⟨t1, t2, t3, t4, t5, t6⟩, ⟨s1, s2, s3, s4, s5, s6⟩, h4, h5, h6, h7, h8, h9⟩ := h
  exact ⟨f, ⟨t1, s1, h4⟩, ⟨t2, s2, h5⟩, ⟨t3, s3, h6⟩, ⟨t4, s4, h7⟩, ⟨t5, s5, h8⟩, ⟨t6, s6, h9⟩⟩
theorem XK_of {x s : ZMem} (h : XKf x s ∧ XKp x s ∧ XKt x s ∧ XKs x s ∧ XKc x s ∧ XKw x s ∧ XKd x s) : XK x 1 s := by
  obtain ⟨f, ⟨t1, s1, h4⟩, ⟨t2, s2, h5⟩, ⟨t3, s3, h6⟩, ⟨t4, s4, h7⟩, ⟨t5, s5, h8⟩, ⟨t6, s6, h9⟩⟩ := h
  exact ⟨f, ⟨t1, t2, t3, t4, t5, t6⟩, ⟨s1, s2, s3, s4, s5, s6⟩, h4, h5, h6, h7, h8, h9⟩
theorem wr_nr {m : ZMem} {i k a b : Nat} {v : Int} (h : a ≠ i) : wr m i k v a b = m a b := wr_ne (Or.inl h)
theorem wr_nk {m : ZMem} {i k a b : Nat} {v : Int} (h : b ≠ k) : wr m i k v a b = m a b := wr_ne (Or.inr h)
def gXf (i _ : Nat) : Bool := decide (i = 1)
def gMf (i j : Nat) : Bool := if i = 0 then (decide (j = 0) || decide (j = 1) || decide (j = 5) || decide (j = 6)) else (false)
theorem XKf_fr {x x' s s' : ZMem} (h : XKf x s) (hx : AG gXf x x') (hs : AG gMf s s') : XKf x' s' := by
  have x1 : ∀ j, x' 1 j = x 1 j := fun j => hx 1 j rfl
  have m0 : s' 0 0 = s 0 0 := hs 0 0 rfl
  have m1 : s' 0 1 = s 0 1 := hs 0 1 rfl
  have m5 : s' 0 5 = s 0 5 := hs 0 5 rfl
  have m6 : s' 0 6 = s 0 6 := hs 0 6 rfl
  unfold XKf at h ⊢
  simp only [x1, m0, m1, m5, m6]
  exact h
def gXp (i _ : Nat) : Bool := decide (i = 2) || decide (i = 3)
def gMp (i j : Nat) : Bool := if i = 0 then (decide (j = 2)) else (decide (i = 1) || decide (i = 2) || decide (i = 3) || decide (i = 4) || decide (i = 5) || decide (i = 21) || decide (i = 22))
theorem XKp_fr {x x' s s' : ZMem} (h : XKp x s) (hx : AG gXp x x') (hs : AG gMp s s') : XKp x' s' := by
  have x2 : ∀ j, x' 2 j = x 2 j := fun j => hx 2 j rfl
  have x3 : ∀ j, x' 3 j = x 3 j := fun j => hx 3 j rfl
  have m2 : s' 0 2 = s 0 2 := hs 0 2 rfl
  have r1 : ∀ j, s' 1 j = s 1 j := fun j => hs 1 j rfl
  have r2 : ∀ j, s' 2 j = s 2 j := fun j => hs 2 j rfl
  have r3 : ∀ j, s' 3 j = s 3 j := fun j => hs 3 j rfl
  have r4 : ∀ j, s' 4 j = s 4 j := fun j => hs 4 j rfl
  have r5 : ∀ j, s' 5 j = s 5 j := fun j => hs 5 j rfl
  have r21 : ∀ j, s' 21 j = s 21 j := fun j => hs 21 j rfl
  have r22 : ∀ j, s' 22 j = s 22 j := fun j => hs 22 j rfl
  unfold XKp at h ⊢
  unfold TB at h ⊢
  simp only [x2, x3, m2, r1, r2, r3, r4, r5, r21, r22]
  exact h
def gXt (i _ : Nat) : Bool := decide (i = 4) || decide (i = 5)
def gMt (i j : Nat) : Bool := if i = 0 then (decide (j = 3)) else (decide (i = 6) || decide (i = 7))
theorem XKt_fr {x x' s s' : ZMem} (h : XKt x s) (hx : AG gXt x x') (hs : AG gMt s s') : XKt x' s' := by
  have x4 : ∀ j, x' 4 j = x 4 j := fun j => hx 4 j rfl
  have x5 : ∀ j, x' 5 j = x 5 j := fun j => hx 5 j rfl
  have m3 : s' 0 3 = s 0 3 := hs 0 3 rfl
  have r6 : ∀ j, s' 6 j = s 6 j := fun j => hs 6 j rfl
  have r7 : ∀ j, s' 7 j = s 7 j := fun j => hs 7 j rfl
  unfold XKt at h ⊢
  unfold TB at h ⊢
  simp only [x4, x5, m3, r6, r7]
  exact h
def gXs (i _ : Nat) : Bool := decide (i = 6) || decide (i = 7)
def gMs (i j : Nat) : Bool := if i = 0 then (decide (j = 4)) else (decide (i = 8))
theorem XKs_fr {x x' s s' : ZMem} (h : XKs x s) (hx : AG gXs x x') (hs : AG gMs s s') : XKs x' s' := by
  have x6 : ∀ j, x' 6 j = x 6 j := fun j => hx 6 j rfl
  have x7 : ∀ j, x' 7 j = x 7 j := fun j => hx 7 j rfl
  have m4 : s' 0 4 = s 0 4 := hs 0 4 rfl
  have r8 : ∀ j, s' 8 j = s 8 j := fun j => hs 8 j rfl
  unfold XKs at h ⊢
  unfold TB at h ⊢
  simp only [x6, x7, m4, r8]
  exact h
def gXc (i _ : Nat) : Bool := decide (i = 8) || decide (i = 9)
def gMc (i j : Nat) : Bool := if i = 0 then (false) else (decide (i = 9))
theorem XKc_fr {x x' s s' : ZMem} (h : XKc x s) (hx : AG gXc x x') (hs : AG gMc s s') : XKc x' s' := by
  have x8 : ∀ j, x' 8 j = x 8 j := fun j => hx 8 j rfl
  have x9 : ∀ j, x' 9 j = x 9 j := fun j => hx 9 j rfl
  have r9 : ∀ j, s' 9 j = s 9 j := fun j => hs 9 j rfl
  unfold XKc at h ⊢
  unfold TB at h ⊢
  simp only [x8, x9, r9]
  exact h
def gXw (i _ : Nat) : Bool := decide (i = 10) || decide (i = 11)
def gMw (i j : Nat) : Bool := if i = 0 then (decide (j = 41)) else (decide (i = 23))
theorem XKw_fr {x x' s s' : ZMem} (h : XKw x s) (hx : AG gXw x x') (hs : AG gMw s s') : XKw x' s' := by
  have x10 : ∀ j, x' 10 j = x 10 j := fun j => hx 10 j rfl
  have x11 : ∀ j, x' 11 j = x 11 j := fun j => hx 11 j rfl
  have m41 : s' 0 41 = s 0 41 := hs 0 41 rfl
  have r23 : ∀ j, s' 23 j = s 23 j := fun j => hs 23 j rfl
  unfold XKw at h ⊢
  unfold TB at h ⊢
  simp only [x10, x11, m41, r23]
  exact h
def gXd (i _ : Nat) : Bool := decide (i = 12) || decide (i = 13)
def gMd (i j : Nat) : Bool := if i = 0 then (decide (j = 47)) else (decide (i = 28))
theorem XKd_fr {x x' s s' : ZMem} (h : XKd x s) (hx : AG gXd x x') (hs : AG gMd s s') : XKd x' s' := by
  have x12 : ∀ j, x' 12 j = x 12 j := fun j => hx 12 j rfl
  have x13 : ∀ j, x' 13 j = x 13 j := fun j => hx 13 j rfl
  have m47 : s' 0 47 = s 0 47 := hs 0 47 rfl
  have r28 : ∀ j, s' 28 j = s 28 j := fun j => hs 28 j rfl
  unfold XKd at h ⊢
  unfold TB at h ⊢
  simp only [x12, x13, m47, r28]
  exact h
theorem XK_house {x s : ZMem} {p : Nat} {v : Int} (h : XK x 1 s) : XK (wr x 3 (p * 7 + 4) v) 1 (wr s 5 p v) := by
  obtain ⟨hf, hp, ht, hs, hc, hw, hd⟩ := XK_parts h
  refine XK_of ⟨XKf_fr hf (AG.rf.wr rfl) (AG.rf.wr rfl), ?_, XKt_fr ht (AG.rf.wr rfl) (AG.rf.wr rfl), XKs_fr hs (AG.rf.wr rfl) (AG.rf.wr rfl), XKc_fr hc (AG.rf.wr rfl) (AG.rf.wr rfl), XKw_fr hw (AG.rf.wr rfl) (AG.rf.wr rfl), XKd_fr hd (AG.rf.wr rfl) (AG.rf.wr rfl)⟩
  obtain ⟨a1, a2, a3⟩ := hp
  refine ⟨TB_fr a1 rfl rfl rfl, a2, fun q hq => ?_⟩
  obtain ⟨e0, e1, e2, e3, e4, e5, e6⟩ := a3 q hq
  refine ⟨?_, ?_, ?_, ?_, ?_, ?_, ?_⟩
  · rw [wr_ne (Or.inr (by omega)), wr_nr (by decide)]; exact e0
  · rw [wr_ne (Or.inr (by omega)), wr_nr (by decide)]; exact e1
  · rw [wr_ne (Or.inr (by omega)), wr_nr (by decide)]; exact e2
  · rw [wr_ne (Or.inr (by omega)), wr_nr (by decide)]; exact e3
  · by_cases e : q = p
    · subst e
      rw [wr_eq, wr_eq]
    · rw [wr_ne (Or.inr (by omega)), wr_nk e]
      exact e4
  · rw [wr_ne (Or.inr (by omega)), wr_nr (by decide)]; exact e5
  · rw [wr_ne (Or.inr (by omega)), wr_nr (by decide)]; exact e6
theorem WFs_house {s : ZMem} {p : Nat} {v : Int} (h : WFs s) (hv : 0 ≤ v ∧ v ≤ 99) : WFs (wr s 5 p v) := by
  obtain ⟨z1, z2, z3, z4, z5, z6, z7, z8, z9, hp, hr⟩ := h
  unfold WFs
  simp (disch := decide) only [wr_nr]
  refine ⟨z1, z2, z3, z4, z5, z6, z7, z8, z9, fun q hq => ?_, hr⟩
  have h9 := hp q hq
  have e : wr s 5 p v 5 q = if q = p then v else s 5 q := by
    show (if 5 = 5 ∧ q = p then v else s 5 q) = _
    by_cases hc : q = p
    · rw [if_pos ⟨rfl, hc⟩, if_pos hc]
    · rw [if_neg (fun z => hc z.2), if_neg hc]
  rw [e]
  split <;> omega
theorem XK_price {x s : ZMem} {p : Nat} {v : Int} (h : XK x 1 s) : XK (wr x 3 (p * 7 + 5) v) 1 (wr s 21 p v) := by
  obtain ⟨hf, hp, ht, hs, hc, hw, hd⟩ := XK_parts h
  refine XK_of ⟨XKf_fr hf (AG.rf.wr rfl) (AG.rf.wr rfl), ?_, XKt_fr ht (AG.rf.wr rfl) (AG.rf.wr rfl), XKs_fr hs (AG.rf.wr rfl) (AG.rf.wr rfl), XKc_fr hc (AG.rf.wr rfl) (AG.rf.wr rfl), XKw_fr hw (AG.rf.wr rfl) (AG.rf.wr rfl), XKd_fr hd (AG.rf.wr rfl) (AG.rf.wr rfl)⟩
  obtain ⟨a1, a2, a3⟩ := hp
  refine ⟨TB_fr a1 rfl rfl rfl, a2, fun q hq => ?_⟩
  obtain ⟨e0, e1, e2, e3, e4, e5, e6⟩ := a3 q hq
  refine ⟨?_, ?_, ?_, ?_, ?_, ?_, ?_⟩
  · rw [wr_ne (Or.inr (by omega)), wr_nr (by decide)]; exact e0
  · rw [wr_ne (Or.inr (by omega)), wr_nr (by decide)]; exact e1
  · rw [wr_ne (Or.inr (by omega)), wr_nr (by decide)]; exact e2
  · rw [wr_ne (Or.inr (by omega)), wr_nr (by decide)]; exact e3
  · rw [wr_ne (Or.inr (by omega)), wr_nr (by decide)]; exact e4
  · by_cases e : q = p
    · subst e
      rw [wr_eq, wr_eq]
    · rw [wr_ne (Or.inr (by omega)), wr_nk e]
      exact e5
  · rw [wr_ne (Or.inr (by omega)), wr_nr (by decide)]; exact e6
theorem WFs_price {s : ZMem} {p : Nat} {v : Int} (h : WFs s) (hv : 0 ≤ v ∧ v ≤ 99) : WFs (wr s 21 p v) := by
  obtain ⟨z1, z2, z3, z4, z5, z6, z7, z8, z9, hp, hr⟩ := h
  unfold WFs
  simp (disch := decide) only [wr_nr]
  refine ⟨z1, z2, z3, z4, z5, z6, z7, z8, z9, fun q hq => ?_, hr⟩
  have h9 := hp q hq
  have e : wr s 21 p v 21 q = if q = p then v else s 21 q := by
    show (if 21 = 21 ∧ q = p then v else s 21 q) = _
    by_cases hc : q = p
    · rw [if_pos ⟨rfl, hc⟩, if_pos hc]
    · rw [if_neg (fun z => hc z.2), if_neg hc]
  rw [e]
  split <;> omega
theorem XK_also {x s : ZMem} {p : Nat} {v : Int} (h : XK x 1 s) : XK (wr x 3 (p * 7 + 6) v) 1 (wr s 22 p v) := by
  obtain ⟨hf, hp, ht, hs, hc, hw, hd⟩ := XK_parts h
  refine XK_of ⟨XKf_fr hf (AG.rf.wr rfl) (AG.rf.wr rfl), ?_, XKt_fr ht (AG.rf.wr rfl) (AG.rf.wr rfl), XKs_fr hs (AG.rf.wr rfl) (AG.rf.wr rfl), XKc_fr hc (AG.rf.wr rfl) (AG.rf.wr rfl), XKw_fr hw (AG.rf.wr rfl) (AG.rf.wr rfl), XKd_fr hd (AG.rf.wr rfl) (AG.rf.wr rfl)⟩
  obtain ⟨a1, a2, a3⟩ := hp
  refine ⟨TB_fr a1 rfl rfl rfl, a2, fun q hq => ?_⟩
  obtain ⟨e0, e1, e2, e3, e4, e5, e6⟩ := a3 q hq
  refine ⟨?_, ?_, ?_, ?_, ?_, ?_, ?_⟩
  · rw [wr_ne (Or.inr (by omega)), wr_nr (by decide)]; exact e0
  · rw [wr_ne (Or.inr (by omega)), wr_nr (by decide)]; exact e1
  · rw [wr_ne (Or.inr (by omega)), wr_nr (by decide)]; exact e2
  · rw [wr_ne (Or.inr (by omega)), wr_nr (by decide)]; exact e3
  · rw [wr_ne (Or.inr (by omega)), wr_nr (by decide)]; exact e4
  · rw [wr_ne (Or.inr (by omega)), wr_nr (by decide)]; exact e5
  · by_cases e : q = p
    · subst e
      rw [wr_eq, wr_eq]
    · rw [wr_ne (Or.inr (by omega)), wr_nk e]
      exact e6
theorem WFs_also {s : ZMem} {p : Nat} {v : Int} (h : WFs s) (hv : 0 ≤ v ∧ v ≤ 99) : WFs (wr s 22 p v) := by
  obtain ⟨z1, z2, z3, z4, z5, z6, z7, z8, z9, hp, hr⟩ := h
  unfold WFs
  simp (disch := decide) only [wr_nr]
  refine ⟨z1, z2, z3, z4, z5, z6, z7, z8, z9, fun q hq => ?_, hr⟩
  have h9 := hp q hq
  have e : wr s 22 p v 22 q = if q = p then v else s 22 q := by
    show (if 22 = 22 ∧ q = p then v else s 22 q) = _
    by_cases hc : q = p
    · rw [if_pos ⟨rfl, hc⟩, if_pos hc]
    · rw [if_neg (fun z => hc z.2), if_neg hc]
  rw [e]
  split <;> omega
section ZUPD
variable {c n : Nat} {x m : ZMem}
theorem CP_kit {x' m' : ZMem} (h : CP c x m) (hk : CPk x' m') (hx : AG kXi x x') (hx2 : AG kXt x x') (hx3 : AG kXl x x') (hx4 : AG kXr x x') (hx5 : AG kXe x x') (hx6 : AG kXf x x') (hx7 : AG kXs x x') (m1 : AG kMi m m') (m2 : AG kMl m m') (m3 : AG kMr m m') (m4 : AG kMe m m') (m5 : AG kMf m m') : CP (c + 1) x' m' :=
  ⟨hk, CPi_fr h.i hx m1, CPt_fr h.t hx2, CPl_fr h.l hx3 m2, CPr_fr h.r hx4 m3, CPe_fr h.e hx5 m4, CPf_fr h.f hx6 m5, CPs_fr h.s hx7⟩
theorem op_house (h : CP c x m) (hc : c ≤ 1000) (a v : Int) : SIM c (F_X11_house n a v x) (F_X12_house n a v m) := by
  have hw := WFs_t h.k.2
  have hnp : wr m 0 16 0 0 2 = m 0 2 := rfl
  have b1 := npS_bd (m 0 2) a
  have b2 := outS_bd 0 99 v
  unfold F_X11_house F_X11_partBecomes F_X12_house
  by_cases hp : 0 ≤ a ∧ a < m 0 2
  · by_cases h4 : v < 0
    · refine SIM_ref h (r := -4) (by decide) ?_ ?_
      · exact E_bnd (E_bnd (X_noPart h.k n a) (E_bnd (X_outside _ _ _ _ _) (E_bnd (X_ref2 h.f hc b1 b2 (r := -4) (by unfold refS npS outS; rw [if_pos hp, if_pos rfl, if_pos h4, if_neg (by decide)]) (by decide)) (by rw [if_neg (by decide)])))) rfl
      · exact E_bnd (M_part_t hw hp) (by rw [if_neg (by decide)]; exact E_bnd (M_wr4 h4) (by rw [if_neg (by decide)]; exact E_bnd (M_ref h hc (by decide)) rfl))
    by_cases h6 : 99 < v
    · refine SIM_ref h (r := -6) (by decide) ?_ ?_
      · exact E_bnd (E_bnd (X_noPart h.k n a) (E_bnd (X_outside _ _ _ _ _) (E_bnd (X_ref2 h.f hc b1 b2 (r := -6) (by unfold refS npS outS; rw [if_pos hp, if_pos rfl, if_neg h4, if_pos h6, if_neg (by decide)]) (by decide)) (by rw [if_neg (by decide)])))) rfl
      · exact E_bnd (M_part_t hw hp) (by rw [if_neg (by decide)]; exact E_bnd (M_wr6 h4 h6) (by rw [if_neg (by decide)]; exact E_bnd (M_ref h hc (by decide)) rfl))
    · obtain ⟨p, rfl⟩ : ∃ p : Nat, a = (p : Int) := ⟨a.toNat, by omega⟩
      have h8 := h.k.2.np
      have ex := X_exchange (n := n) (i := p) (j := 4) (v := v) h.k.1.t2 (by rw [h.k.1.s2]; omega) (by decide)
      have ev := (h.k.1.pt p hp.2).2.2.2.2.1
      show SIM c _ _
      refine ⟨m 5 p, wr x 3 (p * 7 + 4) v, wr (wr m 0 16 0) 5 p v, ?_, ?_, ?_⟩
      · refine E_bnd (E_bnd (X_noPart h.k n p) (E_bnd (X_outside _ _ _ _ _) (E_bnd (X_not2 (by unfold refS npS outS; rw [if_pos hp, if_pos rfl, if_neg h4, if_neg h6, if_pos rfl]) b1) ?_))) rfl
        rw [if_pos rfl]
        rw [← ev]
        exact E_bnd ex rfl
      · refine E_bnd (M_part_t hw hp) ?_
        rw [if_neg (by decide)]
        refine E_bnd (M_wr0 h4 h6) ?_
        rw [if_pos (by decide)]
        simp only [zM5, Int.toNat_natCast]
        exact E_chk (by omega) (E_chk (by omega) rfl)
      · exact CP_kit h ⟨XK_house (XK_t h.k.1), WFs_house hw (by omega)⟩ (AG.rf.wr rfl) (AG.rf.wr rfl) (AG.rf.wr rfl) (AG.rf.wr rfl) (AG.rf.wr rfl) (AG.rf.wr rfl) (AG.rf.wr rfl) ((AG.rf.wr rfl).wr rfl) ((AG.rf.wr rfl).wr rfl) ((AG.rf.wr rfl).wr rfl) ((AG.rf.wr rfl).wr rfl) ((AG.rf.wr rfl).wr rfl)
  · refine SIM_ref h (r := -1) (by decide) ?_ ?_
    · exact E_bnd (E_bnd (X_noPart h.k n a) (E_bnd (X_outside _ _ _ _ _) (E_bnd (X_ref2 h.f hc b1 b2 (r := -1) (by unfold refS npS; rw [if_neg hp, if_neg (by decide)]) (by decide)) (by rw [if_neg (by decide)])))) rfl
    · exact E_bnd (M_part_f hw hp) (by rw [if_pos rfl]; exact E_bnd (M_ref h hc (by decide)) rfl)
theorem op_price (h : CP c x m) (hc : c ≤ 1000) (a v : Int) : SIM c (F_X11_price n a v x) (F_X12_price n a v m) := by
  have hw := WFs_t h.k.2
  have hnp : wr m 0 16 0 0 2 = m 0 2 := rfl
  have b1 := npS_bd (m 0 2) a
  have b2 := outS_bd 0 99 v
  unfold F_X11_price F_X11_partBecomes F_X12_price
  by_cases hp : 0 ≤ a ∧ a < m 0 2
  · by_cases h4 : v < 0
    · refine SIM_ref h (r := -4) (by decide) ?_ ?_
      · exact E_bnd (E_bnd (X_noPart h.k n a) (E_bnd (X_outside _ _ _ _ _) (E_bnd (X_ref2 h.f hc b1 b2 (r := -4) (by unfold refS npS outS; rw [if_pos hp, if_pos rfl, if_pos h4, if_neg (by decide)]) (by decide)) (by rw [if_neg (by decide)])))) rfl
      · exact E_bnd (M_part_t hw hp) (by rw [if_neg (by decide)]; exact E_bnd (M_wr4 h4) (by rw [if_neg (by decide)]; exact E_bnd (M_ref h hc (by decide)) rfl))
    by_cases h6 : 99 < v
    · refine SIM_ref h (r := -6) (by decide) ?_ ?_
      · exact E_bnd (E_bnd (X_noPart h.k n a) (E_bnd (X_outside _ _ _ _ _) (E_bnd (X_ref2 h.f hc b1 b2 (r := -6) (by unfold refS npS outS; rw [if_pos hp, if_pos rfl, if_neg h4, if_pos h6, if_neg (by decide)]) (by decide)) (by rw [if_neg (by decide)])))) rfl
      · exact E_bnd (M_part_t hw hp) (by rw [if_neg (by decide)]; exact E_bnd (M_wr6 h4 h6) (by rw [if_neg (by decide)]; exact E_bnd (M_ref h hc (by decide)) rfl))
    · obtain ⟨p, rfl⟩ : ∃ p : Nat, a = (p : Int) := ⟨a.toNat, by omega⟩
      have h8 := h.k.2.np
      have ex := X_exchange (n := n) (i := p) (j := 5) (v := v) h.k.1.t2 (by rw [h.k.1.s2]; omega) (by decide)
      have ev := (h.k.1.pt p hp.2).2.2.2.2.2.1
      show SIM c _ _
      refine ⟨m 21 p, wr x 3 (p * 7 + 5) v, wr (wr m 0 16 0) 21 p v, ?_, ?_, ?_⟩
      · refine E_bnd (E_bnd (X_noPart h.k n p) (E_bnd (X_outside _ _ _ _ _) (E_bnd (X_not2 (by unfold refS npS outS; rw [if_pos hp, if_pos rfl, if_neg h4, if_neg h6, if_pos rfl]) b1) ?_))) rfl
        rw [if_pos rfl]
        rw [← ev]
        exact E_bnd ex rfl
      · refine E_bnd (M_part_t hw hp) ?_
        rw [if_neg (by decide)]
        refine E_bnd (M_wr0 h4 h6) ?_
        rw [if_pos (by decide)]
        simp only [zM21, Int.toNat_natCast]
        exact E_chk (by omega) (E_chk (by omega) rfl)
      · exact CP_kit h ⟨XK_price (XK_t h.k.1), WFs_price hw (by omega)⟩ (AG.rf.wr rfl) (AG.rf.wr rfl) (AG.rf.wr rfl) (AG.rf.wr rfl) (AG.rf.wr rfl) (AG.rf.wr rfl) (AG.rf.wr rfl) ((AG.rf.wr rfl).wr rfl) ((AG.rf.wr rfl).wr rfl) ((AG.rf.wr rfl).wr rfl) ((AG.rf.wr rfl).wr rfl) ((AG.rf.wr rfl).wr rfl)
  · refine SIM_ref h (r := -1) (by decide) ?_ ?_
    · exact E_bnd (E_bnd (X_noPart h.k n a) (E_bnd (X_outside _ _ _ _ _) (E_bnd (X_ref2 h.f hc b1 b2 (r := -1) (by unfold refS npS; rw [if_neg hp, if_neg (by decide)]) (by decide)) (by rw [if_neg (by decide)])))) rfl
    · exact E_bnd (M_part_f hw hp) (by rw [if_pos rfl]; exact E_bnd (M_ref h hc (by decide)) rfl)
theorem op_also (h : CP c x m) (hc : c ≤ 1000) (a v : Int) : SIM c (F_X11_also n a v x) (F_X12_also n a v m) := by
  have hw := WFs_t h.k.2
  have hnp : wr m 0 16 0 0 2 = m 0 2 := rfl
  have b1 := npS_bd (m 0 2) a
  have b2 := outS_bd 0 99 v
  unfold F_X11_also F_X11_partBecomes F_X12_also
  by_cases hp : 0 ≤ a ∧ a < m 0 2
  · by_cases h4 : v < 0
    · refine SIM_ref h (r := -4) (by decide) ?_ ?_
      · exact E_bnd (E_bnd (X_noPart h.k n a) (E_bnd (X_outside _ _ _ _ _) (E_bnd (X_ref2 h.f hc b1 b2 (r := -4) (by unfold refS npS outS; rw [if_pos hp, if_pos rfl, if_pos h4, if_neg (by decide)]) (by decide)) (by rw [if_neg (by decide)])))) rfl
      · exact E_bnd (M_part_t hw hp) (by rw [if_neg (by decide)]; exact E_bnd (M_wr4 h4) (by rw [if_neg (by decide)]; exact E_bnd (M_ref h hc (by decide)) rfl))
    by_cases h6 : 99 < v
    · refine SIM_ref h (r := -6) (by decide) ?_ ?_
      · exact E_bnd (E_bnd (X_noPart h.k n a) (E_bnd (X_outside _ _ _ _ _) (E_bnd (X_ref2 h.f hc b1 b2 (r := -6) (by unfold refS npS outS; rw [if_pos hp, if_pos rfl, if_neg h4, if_pos h6, if_neg (by decide)]) (by decide)) (by rw [if_neg (by decide)])))) rfl
      · exact E_bnd (M_part_t hw hp) (by rw [if_neg (by decide)]; exact E_bnd (M_wr6 h4 h6) (by rw [if_neg (by decide)]; exact E_bnd (M_ref h hc (by decide)) rfl))
    · obtain ⟨p, rfl⟩ : ∃ p : Nat, a = (p : Int) := ⟨a.toNat, by omega⟩
      have h8 := h.k.2.np
      have ex := X_exchange (n := n) (i := p) (j := 6) (v := v) h.k.1.t2 (by rw [h.k.1.s2]; omega) (by decide)
      have ev := (h.k.1.pt p hp.2).2.2.2.2.2.2
      show SIM c _ _
      refine ⟨m 22 p, wr x 3 (p * 7 + 6) v, wr (wr m 0 16 0) 22 p v, ?_, ?_, ?_⟩
      · refine E_bnd (E_bnd (X_noPart h.k n p) (E_bnd (X_outside _ _ _ _ _) (E_bnd (X_not2 (by unfold refS npS outS; rw [if_pos hp, if_pos rfl, if_neg h4, if_neg h6, if_pos rfl]) b1) ?_))) rfl
        rw [if_pos rfl]
        rw [← ev]
        exact E_bnd ex rfl
      · refine E_bnd (M_part_t hw hp) ?_
        rw [if_neg (by decide)]
        refine E_bnd (M_wr0 h4 h6) ?_
        rw [if_pos (by decide)]
        simp only [zM22, Int.toNat_natCast]
        exact E_chk (by omega) (E_chk (by omega) rfl)
      · exact CP_kit h ⟨XK_also (XK_t h.k.1), WFs_also hw (by omega)⟩ (AG.rf.wr rfl) (AG.rf.wr rfl) (AG.rf.wr rfl) (AG.rf.wr rfl) (AG.rf.wr rfl) (AG.rf.wr rfl) (AG.rf.wr rfl) ((AG.rf.wr rfl).wr rfl) ((AG.rf.wr rfl).wr rfl) ((AG.rf.wr rfl).wr rfl) ((AG.rf.wr rfl).wr rfl) ((AG.rf.wr rfl).wr rfl)
  · refine SIM_ref h (r := -1) (by decide) ?_ ?_
    · exact E_bnd (E_bnd (X_noPart h.k n a) (E_bnd (X_outside _ _ _ _ _) (E_bnd (X_ref2 h.f hc b1 b2 (r := -1) (by unfold refS npS; rw [if_neg hp, if_neg (by decide)]) (by decide)) (by rw [if_neg (by decide)])))) rfl
    · exact E_bnd (M_part_f hw hp) (by rw [if_pos rfl]; exact E_bnd (M_ref h hc (by decide)) rfl)
end ZUPD
