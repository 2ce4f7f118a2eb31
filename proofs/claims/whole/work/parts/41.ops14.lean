/-! OPERATIONS 14: mistake, more, needed, forgotten -/
theorem bnd_id (o : ZR) : bnd o (fun v m => some (v, m)) = o := by
  cases o with
  | none => rfl
  | some p => rfl
theorem refS_0 {a b c : Int} (h : refS a b c = 0) : a = 0 ∧ b = 0 ∧ c = 0 := by
  unfold refS at h
  by_cases h1 : a = 0
  · rw [if_pos h1] at h
    by_cases h2 : b = 0
    · rw [if_pos h2] at h
      exact ⟨h1, h2, h⟩
    · rw [if_neg h2] at h
      exact absurd h h2
  · rw [if_neg h1] at h
    exact absurd h h1
theorem refS_bd {a b c : Int} (ha : -6 ≤ a ∧ a ≤ 0) (hb : -6 ≤ b ∧ b ≤ 0) (hc : -6 ≤ c ∧ c ≤ 0) : -6 ≤ refS a b c ∧ refS a b c ≤ 0 := by
  unfold refS
  split
  · split <;> assumption
  · assumption
theorem npS_0 {np a : Int} (h : npS np a = 0) : 0 ≤ a ∧ a < np := by
  unfold npS at h
  by_cases h1 : 0 ≤ a ∧ a < np
  · exact h1
  · rw [if_neg h1] at h
    cases h
theorem outS_0 {lo hi v : Int} (h : outS lo hi v = 0) : lo ≤ v ∧ v ≤ hi := by
  unfold outS at h
  by_cases h1 : v < lo
  · rw [if_pos h1] at h
    cases h
  · rw [if_neg h1] at h
    by_cases h2 : hi < v
    · rw [if_pos h2] at h
      cases h
    · omega
theorem ncS_0 {w l : Int} (h : ncS w l = 0) : 0 ≤ w ∧ w ≤ l := by
  unfold ncS at h
  by_cases h1 : 0 ≤ w ∧ w ≤ l
  · exact h1
  · rw [if_neg h1] at h
    cases h
/-- two parts told -/
def np2S (np a b : Int) : Int := if npS np a = 0 then npS np b else -1
theorem np2S_bd (np a b : Int) : -6 ≤ np2S np a b ∧ np2S np a b ≤ 0 := by
  unfold np2S
  split
  · exact npS_bd _ _
  · decide
theorem np2S_0 {np a b : Int} (h : np2S np a b = 0) : (0 ≤ a ∧ a < np) ∧ (0 ≤ b ∧ b < np) := by
  unfold np2S at h
  by_cases h1 : npS np a = 0
  · rw [if_pos h1] at h
    exact ⟨npS_0 h1, npS_0 h⟩
  · rw [if_neg h1] at h
    cases h
theorem npS_t {np a : Int} (h : 0 ≤ a ∧ a < np) : npS np a = 0 := by unfold npS; rw [if_pos h]
theorem npS_f {np a : Int} (h : ¬ (0 ≤ a ∧ a < np)) : npS np a = -1 := by unfold npS; rw [if_neg h]
def misS (s : ZMem) (p : Nat) (w : Int) : Int := if max (upS (w * s 0 0) (s 4 p)) 1 ≤ 999 then max (upS (w * s 0 0) (s 4 p)) 1 else -9
section ZOP14
variable {x s m : ZMem} {c n p : Nat}
theorem X_noPartOf (h : CPk x m) (n : Nat) (a b : Int) : F_X11_noPartOf n a b x = some (np2S (m 0 2) a b, x) := by
  unfold F_X11_noPartOf np2S
  refine E_bnd (X_noPart h n a) (E_ite (fun e => ?_) (fun e => ?_))
  · rw [if_pos e]
    exact E_bnd (X_noPart h n b) rfl
  · rw [if_neg e]
theorem M_wrongMis (hw : WFs s) {a w : Int} : F_X12_wrongMistake n a w s = some (refS (npS (s 0 2) a) (outS 0 999 w) 0, s) := by
  unfold F_X12_wrongMistake
  by_cases hp : 0 ≤ a ∧ a < s 0 2
  · refine E_bnd (M_part_t hw hp) ?_
    rw [if_neg (by decide)]
    refine E_bnd (M_wrong _ _ _ _ _) (E_some ?_ rfl)
    rw [npS_t hp]
    unfold refS outS
    rw [if_pos rfl]
    (repeat' split) <;> omega
  · refine E_bnd (M_part_f hw hp) ?_
    rw [if_pos rfl, npS_f hp]
    rfl
theorem mis_bds (hw : WFs s) (hp : (p : Int) < s 0 2) {w : Int} (h : 0 ≤ w ∧ w ≤ 999) : (0 ≤ w * s 0 0 ∧ w * s 0 0 ≤ 23976) ∧ (1 ≤ s 4 p ∧ s 4 p ≤ 99) ∧ (0 ≤ upS (w * s 0 0) (s 4 p) ∧ upS (w * s 0 0) (s 4 p) ≤ 23976) ∧ (1 ≤ s 0 0 ∧ s 0 0 ≤ 24) := by
  have hf := hw.f
  obtain ⟨h1, h2, h3, h4, -⟩ := hw.pt p hp
  have w1 := mul_bd (a := w) (b := s 0 0) (A := 999) (B := 24) h.1 h.2 (by omega) hf.2
  have u := upS_bd (a := w * s 0 0) (b := s 4 p) w1.1 h4.1
  omega
theorem X_number (h : XK x 1 s) (hw : WFs s) (hp : (p : Int) < s 0 2) {w : Int} (hv : 0 ≤ w ∧ w ≤ 999) : F_X6_numberFor n (p : Int) w x = some (misS s p w, x) := by
  obtain ⟨b1, b2, b3, b4⟩ := mis_bds hw hp hv
  unfold F_X6_numberFor misS
  rw [h.fm]
  refine E_chk (by omega) (E_bnd (X_p3 h hp) (E_bnd (X_up (by omega) (by omega)) (E_ite (fun e => ?_) (fun e => ?_))))
  · rw [if_pos e]
  · rw [if_neg e]
theorem M_mistakeBy (hw : WFs s) (hp : (p : Int) < s 0 2) {w : Int} (hv : 0 ≤ w ∧ w ≤ 999) : F_X12_mistakeBy n (p : Int) w s = some (misS s p w, s) := by
  obtain ⟨b1, b2, b3, b4⟩ := mis_bds hw hp hv
  have h8 := hw.np
  unfold F_X12_mistakeBy misS
  simp only [zM1, zM2, zM3, zM4, zM5, zM6, zM7, zM8, zM9, zM10, zM11, zM12, zM13, zM14, zM15, zM16, zM17, zM18, zM19, zM20, zM21, zM22, zM23, zM24, zM25, zM26, zM27, zM28, zM29, Int.toNat_natCast]
  refine E_chk (by omega) (E_chk (by omega) (E_bnd (M_up (by omega) (by omega)) (E_ite (fun e => E_ite (fun e2 => ?_) (fun e2 => ?_)) (fun e => ?_))))
  · rw [Int.max_eq_left e, if_pos e2]
  · rw [Int.max_eq_left e, if_neg e2]
  · rw [Int.max_eq_right (by omega), if_pos (by decide)]
theorem op_mistake (h : CP c x m) (hc : c ≤ 1000) (a w : Int) : SIM c (F_X11_mistake n a w x) (F_X12_mistake n a w m) := by
  have hw := WFs_t h.k.2
  have hk := XK_t (k := 1) h.k.1
  have b1 := npS_bd (m 0 2) a
  have b3 := outS_bd 0 999 w
  have bd := refS_bd b1 b3 (c := 0) (by decide)
  have em : F_X12_wrongMistake n a w (wr m 0 16 0) = some (refS (npS (m 0 2) a) (outS 0 999 w) 0, wr m 0 16 0) := M_wrongMis hw
  unfold F_X11_mistake F_X12_mistake
  by_cases hr : refS (npS (m 0 2) a) (outS 0 999 w) 0 = 0
  · obtain ⟨q1, q2, -⟩ := refS_0 hr
    have hp := npS_0 q1
    obtain ⟨p, rfl⟩ : ∃ p : Nat, a = (p : Int) := ⟨a.toNat, by omega⟩
    have hp2 : (p : Int) < wr m 0 16 0 0 2 := hp.2
    refine SIM_tw h ?_
    refine TW_bx (X_noPart h.k n _) (TW_bx (X_outside _ _ _ _ _) (TW_bx (X_not2 hr b1) ?_))
    rw [if_pos rfl]
    refine TW_bm em (TW_m (if_pos (by omega)) ?_)
    exact TW_bx (X_number hk hw hp2 (outS_0 q2)) (TW_bm (M_mistakeBy hw hp2 (outS_0 q2)) (TW_some rfl))
  · refine SIM_ref h (r := refS (npS (m 0 2) a) (outS 0 999 w) 0) (by omega) ?_ ?_
    · refine E_bnd (X_noPart h.k n _) (E_bnd (X_outside _ _ _ _ _) (E_bnd (X_ref2 h.f hc b1 b3 rfl hr) ?_))
      rw [if_neg hr]
    · refine E_bnd em ?_
      rw [if_neg (by omega)]
      exact E_bnd em (E_bnd (M_ref h hc (by omega)) rfl)
theorem more_bds (hw : WFs s) {q : Nat} (hp : (p : Int) < s 0 2) (hq : (q : Int) < s 0 2) {w : Int} (h : 0 ≤ w ∧ w ≤ 999) (hm : misS s p w ≠ -9) : (1 ≤ misS s p w ∧ misS s p w ≤ 999) ∧ (1 ≤ s 4 q ∧ s 4 q ≤ 99) ∧ (0 ≤ 12 * s 4 q * misS s p w ∧ 12 * s 4 q * misS s p w ≤ 1186812) ∧ (0 ≤ takS s q (s 4 q * s 0 1) (s 0 0) * s 0 0 ∧ takS s q (s 4 q * s 0 1) (s 0 0) * s 0 0 ≤ 6960000) ∧ (1 ≤ s 0 0 ∧ s 0 0 ≤ 24) := by
  have hf := hw.f
  have hg := hw.g
  obtain ⟨h1, h2, h3, h4, -⟩ := hw.pt q hq
  have b := mis_bds hw hp h
  have e : 1 ≤ misS s p w ∧ misS s p w ≤ 999 := by
    unfold misS at hm ⊢
    by_cases c1 : max (upS (w * s 0 0) (s 4 p)) 1 ≤ 999
    · rw [if_pos c1]
      omega
    · rw [if_neg c1] at hm
      exact absurd rfl hm
  have a1 := ag_bd hw hq (g := s 0 1) (B := 24) (by omega)
  have t := takS_bd hw hq (a := s 4 q * s 0 1) (b := s 0 0) (by omega) hf
  have t2 := mul_bd (a := takS s q (s 4 q * s 0 1) (s 0 0)) (b := s 0 0) t.1 t.2 (by omega) hf.2
  have t3 := mul_bd (a := 12 * s 4 q) (b := misS s p w) (A := 1188) (B := 999) (by omega) (by omega) (by omega) e.2
  omega
theorem op_more (h : CP c x m) (hc : c ≤ 1000) (a w b : Int) : SIM c (F_X11_more n a w b x) (F_X12_more n a w b m) := by
  have hw := WFs_t h.k.2
  have hk := XK_t (k := 1) h.k.1
  have hg := hw.g
  have h8 := hw.np
  have b1 := np2S_bd (m 0 2) a b
  have b3 := outS_bd 0 999 w
  have bd := refS_bd b1 b3 (c := 0) (by decide)
  have em : F_X12_wrongMistake n a w (wr m 0 16 0) = some (refS (npS (m 0 2) a) (outS 0 999 w) 0, wr m 0 16 0) := M_wrongMis hw
  have eM : F_X12_more n a w b m = B_X12_more_23 n a w b (refS (np2S (m 0 2) a b) (outS 0 999 w) 0) (wr m 0 16 0) := by
    unfold F_X12_more
    by_cases hp : 0 ≤ b ∧ b < m 0 2
    · refine E_bnd (M_part_t hw hp) ?_
      rw [if_neg (by decide)]
      refine E_bnd em ?_
      congr 1
      unfold refS np2S
      rw [npS_t hp]
      by_cases e : npS (m 0 2) a = 0
      · rw [if_pos e, if_pos e, if_pos rfl]
      · have : npS (m 0 2) a = -1 := by
          unfold npS at e ⊢
          split at e
          · exact absurd rfl e
          · rename_i h1
            rw [if_neg h1]
        rw [if_neg e, if_neg e, this]
        rfl
    · refine E_bnd (M_part_f hw hp) ?_
      rw [if_pos rfl]
      congr 1
      unfold refS np2S
      rw [npS_f hp]
      by_cases e : npS (m 0 2) a = 0
      · rw [if_pos e]
        rfl
      · rw [if_neg e]
        rfl
  rw [eM]
  unfold F_X11_more B_X12_more_23
  by_cases hr : refS (np2S (m 0 2) a b) (outS 0 999 w) 0 = 0
  · obtain ⟨q1, q2, -⟩ := refS_0 hr
    obtain ⟨ha, hb⟩ := np2S_0 q1
    obtain ⟨p, rfl⟩ : ∃ p : Nat, a = (p : Int) := ⟨a.toNat, by omega⟩
    obtain ⟨q, rfl⟩ : ∃ p : Nat, b = (p : Int) := ⟨b.toNat, by omega⟩
    have hp2 : (p : Int) < wr m 0 16 0 0 2 := ha.2
    have hq2 : (q : Int) < wr m 0 16 0 0 2 := hb.2
    have ho := outS_0 q2
    refine SIM_tw h ?_
    refine TW_bx (X_noPartOf h.k n _ _) (TW_bx (X_outside _ _ _ _ _) (TW_bx (X_not2 hr b1) ?_))
    rw [if_pos rfl]
    refine TW_m (if_pos (by omega)) ?_
    refine TW_x (bnd_id _) ?_
    unfold F_X6_moreOf
    refine TW_bx (X_number hk hw hp2 ho) (TW_bm (M_mistakeBy hw hp2 ho) ?_)
    by_cases e9 : misS (wr m 0 16 0) p w = -9
    · rw [e9]
      exact TW_x (if_pos rfl) (TW_m (if_neg (by decide)) (TW_some rfl))
    · obtain ⟨c1, c2, c3, c4, c5⟩ := more_bds hw hp2 hq2 ho e9
      refine TW_x (if_neg e9) (TW_m (if_pos (by omega)) ?_)
      simp only [zM1, zM2, zM3, zM4, zM5, zM6, zM7, zM8, zM9, zM10, zM11, zM12, zM13, zM14, zM15, zM16, zM17, zM18, zM19, zM20, zM21, zM22, zM23, zM24, zM25, zM26, zM27, zM28, zM29, Int.toNat_natCast]
      refine TW_bx (X_p3 hk hq2) (TW_cx (by omega) (TW_cx (by omega) (TW_bx (X_takenNow hk hw hq2) ?_)))
      rw [hk.fm]
      refine TW_cx (by omega) (TW_cx (by omega) (TW_cx (by omega) ?_))
      refine TW_cm (by omega) (TW_cm (by omega) (TW_cm (by omega) (TW_bm (M_takenFor hw hq2 hg) (TW_cm (by omega) (TW_cm (by omega) (TW_im (fun z => ?_) (fun z => ?_)))))))
      · exact TW_bx (X_up0 z) (TW_some rfl)
      · exact TW_bx (X_up (by omega) (by omega)) (TW_cm (by omega) (TW_bm (M_up (by omega) (by omega)) (TW_some rfl)))
  · refine SIM_ref h (r := refS (np2S (m 0 2) a b) (outS 0 999 w) 0) (by omega) ?_ ?_
    · refine E_bnd (X_noPartOf h.k n _ _) (E_bnd (X_outside _ _ _ _ _) (E_bnd (X_ref2 h.f hc b1 b3 rfl hr) ?_))
      rw [if_neg hr]
    · rw [if_neg (by omega)]
      exact E_bnd (M_ref h hc (by omega)) rfl
def ndS (np a b : Int) : Int := if a = b then -1 else np2S np a b
theorem ndS_bd (np a b : Int) : -6 ≤ ndS np a b ∧ ndS np a b ≤ 0 := by
  unfold ndS
  split
  · decide
  · exact np2S_bd _ _ _
theorem X_notTwo (h : CPk x m) (n : Nat) (a b : Int) : F_X11_notTwoParts n a b x = some (ndS (m 0 2) a b, x) := by
  unfold F_X11_notTwoParts ndS
  refine E_ite (fun e => ?_) (fun e => ?_)
  · rw [if_pos e]
  · rw [if_neg e]
    exact E_bnd (X_noPartOf h n a b) rfl
theorem op_needed (h : CP c x m) (hc : c ≤ 1000) (a w b : Int) : SIM c (F_X11_needed n a w b x) (F_X12_needed n a w b m) := by
  have hw := WFs_t h.k.2
  have hk := XK_t (k := 1) h.k.1
  have h8 := hw.np
  have hnp : wr m 0 16 0 0 2 = m 0 2 := rfl
  have b1 := ndS_bd (m 0 2) a b
  have b3 := outS_bd 0 99 w
  have ex : ∀ r : Int, -6 ≤ r ∧ r ≤ -1 → refS (ndS (m 0 2) a b) (outS 0 99 w) 0 = r → F_X11_needed n a w b x = some (r, rfX x r) := by
    intro r hr e
    unfold F_X11_needed
    refine E_bnd (X_notTwo h.k n _ _) (E_bnd (X_outside _ _ _ _ _) (E_bnd (X_ref2 h.f hc b1 b3 e (by omega)) ?_))
    rw [if_neg (by omega)]
  by_cases ha : 0 ≤ a ∧ a < m 0 2
  · by_cases hb : 0 ≤ b ∧ b < m 0 2
    · by_cases hab : a = b
      · refine SIM_ref h (r := -1) (by decide) (ex _ (by decide) (by unfold ndS; rw [if_pos hab]; rfl)) ?_
        unfold F_X12_needed
        refine E_bnd (M_part_t hw ha) ?_
        rw [if_neg (by decide)]
        refine E_bnd (M_part_t hw hb) ?_
        rw [if_neg (by decide), if_pos hab]
        exact E_bnd (M_ref h hc (by decide)) rfl
      · have e0 : ndS (m 0 2) a b = 0 := by
          unfold ndS np2S
          rw [if_neg hab, npS_t ha, npS_t hb]
          rfl
        rw [e0] at ex
        have er : refS 0 (outS 0 99 w) 0 = outS 0 99 w := by
          unfold refS
          rw [if_pos rfl]
          split <;> omega
        rw [er] at ex
        by_cases h0 : outS 0 99 w = 0
        · have ho := outS_0 h0
          obtain ⟨p, rfl⟩ : ∃ p : Nat, a = (p : Int) := ⟨a.toNat, by omega⟩
          obtain ⟨q, rfl⟩ : ∃ p : Nat, b = (p : Int) := ⟨b.toNat, by omega⟩
          have hp2 : (p : Int) < wr m 0 16 0 0 2 := ha.2
          have hq2 : (q : Int) < wr m 0 16 0 0 2 := hb.2
          obtain ⟨-, -, -, h4, -⟩ := hw.pt p hp2
          obtain ⟨-, -, -, h5, -⟩ := hw.pt q hq2
          have t3 := mul_bd (a := 12 * wr m 0 16 0 4 q) (b := w) (A := 1188) (B := 99) (by omega) (by omega) (by omega) ho.2
          refine SIM_tw h ?_
          unfold F_X11_needed F_X12_needed
          refine TW_bx (X_notTwo h.k n _ _) (TW_bx (X_outside _ _ _ _ _) (TW_bx (X_not2 (by rw [e0, er]; exact h0) b1) ?_))
          rw [if_pos rfl]
          refine TW_bm (M_part_t hw ha) (TW_m (if_neg (by decide)) (TW_bm (M_part_t hw hb) (TW_m (if_neg (by decide)) (TW_m (if_neg hab) (TW_bm (M_wr0 (by omega) (by omega)) (TW_m (if_pos (by decide)) ?_))))))
          simp only [zM1, zM2, zM3, zM4, zM5, zM6, zM7, zM8, zM9, zM10, zM11, zM12, zM13, zM14, zM15, zM16, zM17, zM18, zM19, zM20, zM21, zM22, zM23, zM24, zM25, zM26, zM27, zM28, zM29, Int.toNat_natCast]
          refine TW_bx (X_p3 hk hq2) (TW_cx (by omega) (TW_cx (by omega) (TW_bx (X_p3 hk hp2) (TW_bx (X_nearest (by omega) (by omega)) ?_))))
          exact TW_cm (by omega) (TW_cm (by omega) (TW_cm (by omega) (TW_cm (by omega) (TW_bm (M_nearest (by omega) (by omega)) (TW_some rfl)))))
        · refine SIM_ref h (r := outS 0 99 w) (by omega) (ex _ (by omega) rfl) ?_
          have ew : F_X12_wrongNumber n w 0 99 (wr m 0 16 0) = some (outS 0 99 w, wr m 0 16 0) := M_wrong _ _ _ _ _
          unfold F_X12_needed
          refine E_bnd (M_part_t hw ha) ?_
          rw [if_neg (by decide)]
          refine E_bnd (M_part_t hw hb) ?_
          rw [if_neg (by decide), if_neg hab]
          refine E_bnd ew ?_
          rw [if_neg (by omega)]
          exact E_bnd (M_ref h hc (by omega)) rfl
    · have e0 : ndS (m 0 2) a b = -1 := by
        unfold ndS np2S
        rw [npS_t ha, npS_f hb]
        split <;> rfl
      refine SIM_ref h (r := -1) (by decide) (ex _ (by decide) (by rw [e0]; rfl)) ?_
      unfold F_X12_needed
      refine E_bnd (M_part_t hw ha) ?_
      rw [if_neg (by decide)]
      refine E_bnd (M_part_f hw hb) ?_
      rw [if_pos rfl]
      exact E_bnd (M_ref h hc (by decide)) rfl
  · have e0 : ndS (m 0 2) a b = -1 := by
      unfold ndS np2S
      rw [npS_f ha]
      split <;> rfl
    refine SIM_ref h (r := -1) (by decide) (ex _ (by decide) (by rw [e0]; rfl)) ?_
    unfold F_X12_needed
    refine E_bnd (M_part_f hw ha) ?_
    rw [if_pos rfl]
    exact E_bnd (M_ref h hc (by decide)) rfl
theorem forgot_loop (h : XK x 1 s) (hw : WFs s) : ∀ (d : Nat) (b v : Int) (k q q' : Nat), (k : Int) + (d : Int) = s 0 2 → ((b = -9 ∧ v = 0) ∨ (∃ j : Nat, b = (j : Int) ∧ (j : Int) < s 0 2 ∧ v = s 4 j * s 3 j ∧ 1 ≤ v)) → d < q → d < q' → TW x s (L_X6_worstForgotten_7 n q b v (k : Int) x) (L_X12_forgotten_10 n q' b (k : Int) s) := by
  intro d
  have h8 := hw.np
  induction d with
  | zero =>
    intro b v k q q' h1 h2 hq hq'
    obtain ⟨q, rfl⟩ : ∃ z, q = z + 1 := ⟨q - 1, by omega⟩
    obtain ⟨q', rfl⟩ : ∃ z, q' = z + 1 := ⟨q' - 1, by omega⟩
    show TW x s (B_X6_worstForgotten_7 n (L_X6_worstForgotten_7 n q) b v (k : Int) x) (B_X12_forgotten_10 n (L_X12_forgotten_10 n q') b (k : Int) s)
    unfold B_X6_worstForgotten_7 B_X12_forgotten_10
    refine TW_bx (X_size n 2 x) ?_
    rw [h.s2, if_pos (by omega), if_pos (by omega)]
    exact TW_some rfl
  | succ d ih =>
    intro b v k q q' h1 h2 hq hq'
    obtain ⟨q, rfl⟩ : ∃ z, q = z + 1 := ⟨q - 1, by omega⟩
    obtain ⟨q', rfl⟩ : ∃ z, q' = z + 1 := ⟨q' - 1, by omega⟩
    have hk : (k : Int) < s 0 2 := by omega
    obtain ⟨-, -, p3, p4, -⟩ := hw.pt k hk
    have pb := mul_bd (a := s 4 k) (b := s 3 k) (A := 99) (B := 9) (by omega) p4.2 p3.1 p3.2
    show TW x s (B_X6_worstForgotten_7 n (L_X6_worstForgotten_7 n q) b v (k : Int) x) (B_X12_forgotten_10 n (L_X12_forgotten_10 n q') b (k : Int) s)
    unfold B_X6_worstForgotten_7 B_X12_forgotten_10
    simp only [zM1, zM2, zM3, zM4, zM5, zM6, zM7, zM8, zM9, zM10, zM11, zM12, zM13, zM14, zM15, zM16, zM17, zM18, zM19, zM20, zM21, zM22, zM23, zM24, zM25, zM26, zM27, zM28, zM29, Int.toNat_natCast]
    refine TW_bx (X_size n 2 x) ?_
    rw [h.s2, if_neg (by omega), if_neg (by omega)]
    refine TW_bx (X_p3 h hk) (TW_bx (X_p2 h hk) (TW_cx (by omega) (TW_cm (by omega) (TW_cm (by omega) (TW_cm (by omega) ?_)))))
    rw [cast1]
    rcases h2 with ⟨rfl, rfl⟩ | ⟨j, rfl, hj, rfl, hv1⟩
    · refine TW_i2 (fun e => TW_cx (by omega) (TW_cm (by omega) ?_)) (fun e => TW_cx (by omega) (TW_m (if_pos (by decide)) (TW_cm (by omega) ?_)))
      · exact ih _ _ (k + 1) q q' (by omega) (Or.inl ⟨rfl, rfl⟩) (by omega) (by omega)
      · exact ih _ _ (k + 1) q q' (by omega) (Or.inr ⟨k, rfl, hk, rfl, by omega⟩) (by omega) (by omega)
    · obtain ⟨-, -, r3, r4, -⟩ := hw.pt j hj
      have qb := mul_bd (a := s 4 j) (b := s 3 j) (A := 99) (B := 9) (by omega) r4.2 r3.1 r3.2
      simp only [Int.toNat_natCast]
      by_cases e0 : s 4 k * s 3 k ≤ 0
      · refine TW_x (if_pos (by omega)) (TW_m (if_pos e0) (TW_cx (by omega) (TW_cm (by omega) ?_)))
        exact ih _ _ (k + 1) q q' (by omega) (Or.inr ⟨j, rfl, hj, rfl, hv1⟩) (by omega) (by omega)
      · refine TW_m (if_neg e0) (TW_m (if_neg (by omega)) (TW_cm (by omega) (TW_cm (by omega) (TW_cm (by omega) ?_))))
        refine TW_i2 (fun e => TW_cx (by omega) (TW_cm (by omega) ?_)) (fun e => TW_cx (by omega) (TW_cm (by omega) ?_))
        · exact ih _ _ (k + 1) q q' (by omega) (Or.inr ⟨j, rfl, hj, rfl, hv1⟩) (by omega) (by omega)
        · exact ih _ _ (k + 1) q q' (by omega) (Or.inr ⟨k, rfl, hk, rfl, by omega⟩) (by omega) (by omega)
theorem op_forgotten (h : CP c x m) (hn : 10000 ≤ n) : SIM c (F_X11_forgotten n x) (F_X12_forgotten n m) := by
  refine SIM_tw h ?_
  have hw := WFs_t h.k.2
  have h8 := hw.np
  unfold F_X11_forgotten F_X12_forgotten F_X6_worstForgotten
  obtain ⟨r, e1, e2⟩ := forgot_loop (n := n) (XK_t h.k.1) hw (wr m 0 16 0 0 2).toNat (-9) 0 0 n n (by omega) (Or.inl ⟨rfl, rfl⟩) (by omega) (by omega)
  exact TW_bx e1 ⟨r, rfl, e2⟩
end ZOP14
