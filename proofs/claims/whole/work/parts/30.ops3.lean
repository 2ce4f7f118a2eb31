/-! OPERATIONS 3: the common divisor; share, off, scale, seeds -/
section ZOP3
variable {x s : ZMem} {c n : Nat}
theorem div_loop : ∀ (d : Nat) (a b k : Int) (q q' : Nat), 0 ≤ a → a ≤ 2147483647 → 0 ≤ b → b ≤ 2147483647 → b < 2 ^ d → (1 ≤ a ∨ 1 ≤ b) → 0 ≤ k → k + 2 * (d : Int) ≤ 64 → 2 * d < q → 2 * d < q' → ∃ g, 1 ≤ g ∧ L_X8_commonDivisor_7 n q a b k x = some (g, x) ∧ L_X12_divisor_4 n q' a b s = some (g, s) := by
  have base : ∀ (a k : Int) (q q' : Nat), 1 ≤ a → 0 < q → 0 < q' → ∃ g, 1 ≤ g ∧ L_X8_commonDivisor_7 n q a 0 k x = some (g, x) ∧ L_X12_divisor_4 n q' a 0 s = some (g, s) := by
    intro a k q q' ha hq hq'
    obtain ⟨q, rfl⟩ : ∃ p, q = p + 1 := ⟨q - 1, by omega⟩
    obtain ⟨q', rfl⟩ : ∃ p, q' = p + 1 := ⟨q' - 1, by omega⟩
    refine ⟨a, ha, ?_, ?_⟩
    · show B_X8_commonDivisor_7 n (L_X8_commonDivisor_7 n q) a 0 k x = _
      unfold B_X8_commonDivisor_7
      exact E_ite (fun _ => rfl) (fun _ => by rw [if_pos (by decide)])
    · show B_X12_divisor_4 n (L_X12_divisor_4 n q') a 0 s = _
      unfold B_X12_divisor_4
      rw [if_pos rfl]
  have step : ∀ (a b k : Int) (q q' : Nat), 0 ≤ a → 1 ≤ b → 0 ≤ k → k < 64 → (∃ g, 1 ≤ g ∧ L_X8_commonDivisor_7 n q b (a % b) (k + 1) x = some (g, x) ∧ L_X12_divisor_4 n q' b (a % b) s = some (g, s)) → ∃ g, 1 ≤ g ∧ L_X8_commonDivisor_7 n (q + 1) a b k x = some (g, x) ∧ L_X12_divisor_4 n (q' + 1) a b s = some (g, s) := by
    intro a b k q q' ha hb hk hk2 ⟨g, h1, h2, h3⟩
    refine ⟨g, h1, ?_, ?_⟩
    · show B_X8_commonDivisor_7 n (L_X8_commonDivisor_7 n q) a b k x = _
      unfold B_X8_commonDivisor_7 F_X8_rest
      rw [if_neg (by omega), if_neg (by omega), if_pos hb, chk_pos ⟨ha, by omega⟩]
      exact E_bnd rfl (E_chk (by omega) h2)
    · show B_X12_divisor_4 n (L_X12_divisor_4 n q') a b s = _
      unfold B_X12_divisor_4
      rw [if_neg (by omega)]
      exact E_chk ⟨ha, by omega⟩ h3
  intro d
  induction d with
  | zero =>
    intro a b k q q' h1 h2 h3 h4 h5 h6 h7 h8 h9 h10
    have : b = 0 := by have : (2 : Int) ^ 0 = 1 := rfl; omega
    subst this
    exact base a k q q' (by omega) (by omega) (by omega)
  | succ d ih =>
    intro a b k q q' h1 h2 h3 h4 h5 h6 h7 h8 h9 h10
    by_cases hb : b = 0
    · subst hb
      exact base a k q q' (by omega) (by omega) (by omega)
    obtain ⟨q, rfl⟩ : ∃ p, q = p + 1 := ⟨q - 1, by omega⟩
    obtain ⟨q', rfl⟩ : ∃ p, q' = p + 1 := ⟨q' - 1, by omega⟩
    have m1 := Int.emod_nonneg a hb
    have m2 := Int.emod_lt_of_pos a (show 0 < b by omega)
    refine step a b k q q' h1 (by omega) h7 (by omega) ?_
    by_cases hr : a % b = 0
    · rw [hr]
      exact base b (k + 1) q q' (by omega) (by omega) (by omega)
    obtain ⟨q, rfl⟩ : ∃ p, q = p + 1 := ⟨q - 1, by omega⟩
    obtain ⟨q', rfl⟩ : ∃ p, q' = p + 1 := ⟨q' - 1, by omega⟩
    refine step b (a % b) (k + 1) q q' h3 (by omega) (by omega) (by omega) ?_
    generalize a % b = r at *
    have m3 := Int.emod_nonneg b hr
    have m4 := Int.emod_lt_of_pos b (show 0 < r by omega)
    have m5 := Int.mul_ediv_add_emod b r
    have m6 : 1 ≤ b / r := by
      have := Int.ediv_le_ediv (show 0 < r by omega) (show r ≤ b by omega)
      rw [Int.ediv_self hr] at this
      exact this
    have m7 : r * 1 ≤ r * (b / r) := Int.mul_le_mul_of_nonneg_left m6 (by omega)
    have m8 : (2 : Int) ^ (d + 1) = 2 ^ d * 2 := Int.pow_succ 2 d
    exact ih r (b % r) (k + 1 + 1) q q' (by omega) (by omega) m3 (by omega) (by omega) (by omega) (by omega) (by omega) (by omega) (by omega)
theorem terms_tw (hn : 10000 ≤ n) {a b w : Int} (ha : 0 ≤ a ∧ a ≤ 2147483647) (hb : 1 ≤ b ∧ b ≤ 2147483647) (hw : w = 0 ∨ w = 1) : TW x s (F_X8_inLeastTerms n a b w x) (F_X12_partOf n a b w s) := by
  obtain ⟨g, h2, h1, h3⟩ := div_loop (n := n) (x := x) (s := s) 31 a b 0 n n ha.1 ha.2 (by omega) hb.2 (by have : (2 : Int) ^ 31 = 2147483648 := rfl; omega) (Or.inr hb.1) (by omega) (by omega) (by omega) (by omega)
  unfold F_X8_inLeastTerms F_X12_partOf F_X8_commonDivisor F_X12_divisor
  by_cases h0 : a = 0
  · subst h0
    have e : g = b := by
      obtain ⟨q, hq⟩ : ∃ p, n = p + 2 := ⟨n - 2, by omega⟩
      have : L_X12_divisor_4 n (q + 2) 0 b s = some (b, s) := by
        show B_X12_divisor_4 n (L_X12_divisor_4 n (q + 1)) 0 b s = _
        unfold B_X12_divisor_4
        rw [if_neg (by omega)]
        refine E_chk ⟨by decide, by omega⟩ ?_
        show B_X12_divisor_4 n (L_X12_divisor_4 n q) b (0 % b) s = _
        unfold B_X12_divisor_4
        rw [if_pos (Int.zero_emod b)]
      have h3' : L_X12_divisor_4 n (q + 2) 0 b s = some (g, s) := by rw [← hq]; exact h3
      rw [this] at h3'
      injection h3' with h3'
      injection h3' with h4 h5
      exact h4.symm
    subst e
    rw [if_pos (rfl : (0 : Int) = 0)]
    rcases hw with rfl | rfl
    · rw [if_pos rfl]
      exact TW_bx h1 (TW_bx (X_cut (by omega) h2) (TW_some (Int.zero_ediv g)))
    · rw [if_neg (by decide)]
      exact TW_bx h1 (TW_bx (X_cut (by omega) h2) (TW_some (Int.ediv_self (by omega))))
  · rw [if_neg h0]
    rcases hw with rfl | rfl
    · rw [if_pos rfl]
      exact TW_bx h1 (TW_bx (X_cut ha.1 h2) (TW_bm h3 (by rw [if_pos rfl]; exact TW_cm ⟨ha.1, by omega⟩ (TW_some rfl))))
    · rw [if_neg (by decide)]
      exact TW_bx h1 (TW_bx (X_cut (by omega) h2) (TW_bm h3 (by rw [if_neg (by decide)]; exact TW_cm ⟨by omega, by omega⟩ (TW_some rfl))))
theorem TW_id {ox om : ZR} (h : TW x s ox om) : TW x s (bnd ox (fun v m => some (v, m))) (bnd om (fun v m => some (v, m))) := by
  obtain ⟨r, h1, h2⟩ := h
  exact ⟨r, by rw [h1]; rfl, by rw [h2]; rfl⟩
theorem SIM_refL {m : ZMem} (h : CP c x m) {r : Int} (hr : -6 ≤ r ∧ r ≤ -1) {fx fm : ZR} (hx : fx = some (4000000000000000000 - r, rfX x r)) (hm : fm = some (4000000000000000000 - r, rfM (wr m 0 16 0) r)) : SIM c fx fm := ⟨_, _, _, hx, hm, CP_ref h hr⟩
theorem share_neg {m : ZMem} (h : CP c x m) (hc : c ≤ 1000) {a g w r : Int} (hr : -6 ≤ r ∧ r ≤ -1) : B_X12_share_24 n a g w r (wr m 0 16 0) = some (4000000000000000000 - r, rfM (wr m 0 16 0) r) := by
  unfold B_X12_share_24
  rw [if_neg (by omega), if_neg (by omega)]
  exact E_bnd (M_ref h hc hr) (E_chk (by omega) rfl)
theorem op_share {m : ZMem} (h : CP c x m) (hc : c ≤ 1000) (hn : 10000 ≤ n) (a g w : Int) : SIM c (F_X11_share n a g w x) (F_X12_share n a g w m) := by
  have hw := WFs_t h.k.2
  have b1 := npS_bd (m 0 2) a
  have b2 := outS_bd 1 24 g
  have b3 := ncS_bd w 1
  have ex : ∀ r : Int, -6 ≤ r ∧ r ≤ -1 → refS (npS (m 0 2) a) (outS 1 24 g) (ncS w 1) = r → F_X11_share n a g w x = some (4000000000000000000 - r, rfX x r) := by
    intro r hr e
    unfold F_X11_share
    refine E_bnd (X_noPart h.k n a) (E_bnd (X_outside _ _ _ _ _) (E_bnd (X_noChoice _ _ _ _) (E_bnd (X_refused h.f hc b1 b2 b3 e (by omega)) ?_)))
    rw [if_neg (by omega)]
    exact E_chk (by omega) rfl
  by_cases hp : 0 ≤ a ∧ a < m 0 2
  · by_cases h4 : g < 1
    · exact SIM_refL h (r := -4) (by decide) (ex _ (by decide) (by simp only [refS, npS, ncS, outS, eiS, rmS, eaS]; (repeat' split) <;> omega)) (by unfold F_X12_share; exact E_bnd (M_part_t hw hp) (by rw [if_neg (by decide)]; exact E_bnd (M_wr4 h4) (share_neg h hc (by decide))))
    by_cases h6 : 24 < g
    · exact SIM_refL h (r := -6) (by decide) (ex _ (by decide) (by simp only [refS, npS, ncS, outS, eiS, rmS, eaS]; (repeat' split) <;> omega)) (by unfold F_X12_share; exact E_bnd (M_part_t hw hp) (by rw [if_neg (by decide)]; exact E_bnd (M_wr6 h4 h6) (share_neg h hc (by decide))))
    by_cases h2 : 0 ≤ w ∧ w ≤ 1
    · obtain ⟨p, rfl⟩ : ∃ p : Nat, a = (p : Int) := ⟨a.toNat, by omega⟩
      have hk := XK_t (k := 1) h.k.1
      have h8 := hw.np
      have hnp : wr m 0 16 0 0 2 = m 0 2 := rfl
      have a1 := ag_bd hw (p := p) (by exact hp.2) (g := g) (B := 24) (by omega)
      have hf := hw.f
      refine SIM_tw h ?_
      unfold F_X11_share F_X12_share
      refine TW_bx (X_noPart h.k n p) (TW_bx (X_outside _ _ _ _ _) (TW_bx (X_noChoice _ _ _ _) (TW_bx (X_notRef (by simp only [refS, npS, ncS, outS, eiS, rmS, eaS]; (repeat' split) <;> omega) b1) ?_)))
      rw [if_pos rfl]
      refine TW_bx (X_p3 hk hp.2) (TW_bm (M_part_t hw hp) ?_)
      rw [if_neg (by decide)]
      refine TW_bm (M_wr0 h4 h6) ?_
      unfold B_X12_share_24
      rw [if_pos rfl]
      refine TW_bm (M_in_t h2) ?_
      rw [if_neg (by decide), if_pos (by decide)]
      simp only [zM4, Int.toNat_natCast]
      rw [hk.fm]
      exact TW_cx (by omega) (TW_cm (by omega) (TW_cm (by omega) (TW_id (terms_tw hn (by omega) (by omega) (by omega)))))
    · refine SIM_refL h (r := -2) (by decide) (ex _ (by decide) (by simp only [refS, npS, ncS, outS, eiS, rmS, eaS]; (repeat' split) <;> omega)) ?_
      unfold F_X12_share
      refine E_bnd (M_part_t hw hp) ?_
      rw [if_neg (by decide)]
      refine E_bnd (M_wr0 h4 h6) ?_
      unfold B_X12_share_24
      rw [if_pos rfl]
      refine E_bnd (M_in_f h2) ?_
      rw [if_pos rfl]
      exact E_bnd (M_ref h hc (by decide)) (E_chk (by omega) rfl)
  · exact SIM_refL h (r := -1) (by decide) (ex _ (by decide) (by simp only [refS, npS, ncS, outS, eiS, rmS, eaS]; (repeat' split) <;> omega)) (by unfold F_X12_share; exact E_bnd (M_part_f hw hp) (by rw [if_pos rfl]; exact share_neg h hc (by decide)))
theorem off_neg {m : ZMem} (h : CP c x m) (hc : c ≤ 1000) {a w r : Int} (hr : -6 ≤ r ∧ r ≤ -1) : B_X12_off_38 n a w r (wr m 0 16 0) = some (4000000000000000000 - r, rfM (wr m 0 16 0) r) := by
  unfold B_X12_off_38
  rw [if_neg (by omega)]
  exact E_bnd (M_ref h hc hr) (E_chk (by omega) rfl)
theorem op_off {m : ZMem} (h : CP c x m) (hc : c ≤ 1000) (hn : 10000 ≤ n) (a w : Int) : SIM c (F_X11_off n a w x) (F_X12_off n a w m) := by
  have hw := WFs_t h.k.2
  have hk := XK_t (k := 1) h.k.1
  have hf := hw.f
  have hg := hw.g
  have b1 := npS_bd (m 0 2) a
  have b3 := ncS_bd w 1
  have hnp : wr m 0 16 0 0 2 = m 0 2 := rfl
  have ex : ∀ v r : Int, -6 ≤ v ∧ v ≤ 0 → -6 ≤ r ∧ r ≤ -1 → refS v (ncS w 1) 0 = r → B_X11_off_15 n a w v x = some (4000000000000000000 - r, rfX x r) := by
    intro v r hv hr e
    unfold B_X11_off_15
    refine E_bnd (X_noChoice _ _ _ _) (E_bnd (X_ref2 h.f hc hv b3 e (by omega)) ?_)
    rw [if_neg (by omega)]
    exact E_chk (by omega) rfl
  by_cases h0 : a = -1
  · subst h0
    unfold F_X11_off F_X12_off
    rw [if_pos rfl, if_pos rfl]
    by_cases h2 : 0 ≤ w ∧ w ≤ 1
    · refine SIM_tw h ?_
      have hbd := allOff_bd hw hg
      unfold B_X11_off_15
      refine TW_bx (X_noChoice _ _ _ _) (TW_bx (X_not2 (by simp only [refS, npS, ncS, outS, eiS, rmS, eaS]; (repeat' split) <;> omega) (by decide)) ?_)
      rw [if_pos rfl, if_pos rfl, hk.gu]
      refine TW_bx (X_allOff hk hw hn hg) (TW_bm (M_in_t h2) ?_)
      rw [if_neg (by decide)]
      unfold B_X12_off_38
      rw [if_pos (by decide), if_neg (by decide)]
      refine TW_bm (M_offOf hw hn hg) ?_
      rw [hk.fm]
      exact TW_id (terms_tw hn (by omega) (by omega) (by omega))
    · exact SIM_refL h (r := -2) (by decide) (ex 0 _ (by decide) (by decide) (by unfold refS ncS; rw [if_pos rfl, if_neg h2, if_neg (by decide)])) (E_bnd (M_in_f h2) (by rw [if_pos rfl]; exact off_neg h hc (by decide)))
  · unfold F_X11_off F_X12_off
    rw [if_neg h0, if_neg h0]
    by_cases hp : 0 ≤ a ∧ a < m 0 2
    · by_cases h2 : 0 ≤ w ∧ w ≤ 1
      · obtain ⟨p, rfl⟩ : ∃ p : Nat, a = (p : Int) := ⟨a.toNat, by omega⟩
        have h8 := hw.np
        have a1 := ag_bd hw (p := p) (by exact hp.2) (g := wr m 0 16 0 0 1) (B := 24) (by omega)
        have hbd := offS_bd hw (p := p) (by exact hp.2) (a := wr m 0 16 0 4 p * wr m 0 16 0 0 1) (b := wr m 0 16 0 0 0) (by omega) hf
        refine SIM_tw h ?_
        refine TW_bx (X_noPart h.k n p) ?_
        unfold B_X11_off_15
        refine TW_bx (X_noChoice _ _ _ _) (TW_bx (X_not2 (by simp only [refS, npS, ncS, outS, eiS, rmS, eaS]; (repeat' split) <;> omega) b1) ?_)
        rw [if_pos rfl, if_neg h0, hk.gu, hk.fm]
        refine TW_bx (X_offAtCost hk hw hp.2 (by omega) hf) (TW_bm (M_part_t hw hp) ?_)
        rw [if_neg (by decide)]
        refine TW_bm (M_in_t h2) ?_
        rw [if_neg (by decide)]
        unfold B_X12_off_38
        rw [if_pos (by decide), if_pos (by omega)]
        simp only [zM4, Int.toNat_natCast]
        refine TW_cm (by omega) (TW_cm (by omega) (TW_bm (M_offBy hw hp.2 (by omega) hf) ?_))
        rw [hk.fm]
        exact TW_id (terms_tw hn (by omega) (by omega) (by omega))
      · exact SIM_refL h (r := -2) (by decide) (E_bnd (X_noPart h.k n a) (ex _ _ b1 (by decide) (by simp only [refS, npS, ncS, outS, eiS, rmS, eaS]; (repeat' split) <;> omega))) (E_bnd (M_part_t hw hp) (by rw [if_neg (by decide)]; exact E_bnd (M_in_f h2) (by rw [if_pos rfl]; exact off_neg h hc (by decide))))
    · exact SIM_refL h (r := -1) (by decide) (E_bnd (X_noPart h.k n a) (ex _ _ b1 (by decide) (by simp only [refS, npS, ncS, outS, eiS, rmS, eaS]; (repeat' split) <;> omega))) (E_bnd (M_part_f hw hp) (by rw [if_pos rfl]; exact off_neg h hc (by decide)))
theorem scale_loop (h : XK x 1 s) (hw : WFs s) (hn : 10000 ≤ n) {b w : Int} (hb : b ≤ 240) : ∀ (d : Nat) (f g : Int) (q : Nat), g + (d : Int) = b + 1 → 1 ≤ f ∧ f ≤ 240 → 1 ≤ g → d < q → ∃ B, (1 ≤ B ∧ B ≤ 240) ∧ L_X6_bestScale_16 n q b f (greatS s f) g x = some (B, x) ∧ L_X12_scale_96 n q b w f (greatS s f) g s = (if w = 0 then some (B, s) else chk (R32 (w - 1)) (bnd (F_X12_partOf n (greatS s B) 24 (w - 1) s) (fun v m => some (v, m)))) := by
  intro d
  induction d with
  | zero =>
    intro f g q h1 h2 h3 hq
    obtain ⟨q, rfl⟩ : ∃ q', q = q' + 1 := ⟨q - 1, by omega⟩
    refine ⟨f, h2, ?_, ?_⟩
    · show B_X6_bestScale_16 n (L_X6_bestScale_16 n q) b f _ g x = _
      unfold B_X6_bestScale_16
      rw [if_pos (by omega)]
    · show B_X12_scale_96 n (L_X12_scale_96 n q) b w f _ g s = _
      unfold B_X12_scale_96
      rw [if_pos (by omega)]
  | succ d ih =>
    intro f g q h1 h2 h3 hq
    obtain ⟨q, rfl⟩ : ∃ q', q = q' + 1 := ⟨q - 1, by omega⟩
    by_cases hc : greatS s f ≤ greatS s g
    · obtain ⟨B, hB, e1, e2⟩ := ih f (g + 1) q (by omega) h2 (by omega) (by omega)
      refine ⟨B, hB, ?_, ?_⟩
      · show B_X6_bestScale_16 n (L_X6_bestScale_16 n q) b f _ g x = _
        unfold B_X6_bestScale_16
        rw [if_neg (by omega)]
        refine E_bnd (X_greatest h hw hn (by omega)) ?_
        rw [if_pos hc]
        exact E_chk (by omega) e1
      · show B_X12_scale_96 n (L_X12_scale_96 n q) b w f _ g s = _
        unfold B_X12_scale_96
        rw [if_neg (by omega)]
        refine E_bnd (M_greatest hw hn (by omega)) ?_
        rw [if_pos hc, if_pos hc]
        exact E_chk (by omega) e2
    · obtain ⟨B, hB, e1, e2⟩ := ih g (g + 1) q (by omega) (by omega) (by omega) (by omega)
      refine ⟨B, hB, ?_, ?_⟩
      · show B_X6_bestScale_16 n (L_X6_bestScale_16 n q) b f _ g x = _
        unfold B_X6_bestScale_16
        rw [if_neg (by omega)]
        refine E_bnd (X_greatest h hw hn (by omega)) ?_
        rw [if_neg hc]
        exact E_chk (by omega) e1
      · show B_X12_scale_96 n (L_X12_scale_96 n q) b w f _ g s = _
        unfold B_X12_scale_96
        rw [if_neg (by omega)]
        refine E_bnd (M_greatest hw hn (by omega)) ?_
        rw [if_neg hc, if_neg hc]
        exact E_chk (by omega) e2
theorem op_scale {m : ZMem} (h : CP c x m) (hc : c ≤ 1000) (hn : 10000 ≤ n) (a b w : Int) (ra : R32 a) (rb : R32 b) : SIM c (F_X11_scale n a b w x) (F_X12_scale n a b w m) := by
  have hw := WFs_t h.k.2
  have hk := XK_t (k := 1) h.k.1
  have b1 := eiS_bd 1 240 a b
  have b3 := ncS_bd w 2
  have ex : ∀ r : Int, -6 ≤ r ∧ r ≤ -1 → refS (eiS 1 240 a b) (if a ≤ b then 0 else -3) (ncS w 2) = r → F_X11_scale n a b w x = some (r, rfX x r) := by
    intro r hr e
    unfold F_X11_scale B_X11_scale_21
    refine E_bnd (X_either _ _ _ _ _ _) (E_ite (fun h1 => ?_) (fun h1 => ?_))
    · rw [if_pos h1] at e
      refine E_bnd (X_noChoice _ _ _ _) (E_bnd (X_refused h.f hc b1 (by decide) b3 e (by omega)) ?_)
      rw [if_neg (by omega)]
    · rw [if_neg h1] at e
      refine E_bnd (X_noChoice _ _ _ _) (E_bnd (X_refused h.f hc b1 (by decide) b3 e (by omega)) ?_)
      rw [if_neg (by omega)]
  by_cases h1 : a < 1 ∨ b < 1
  · refine SIM_ref h (r := -4) (by decide) (ex _ (by decide) (by simp only [refS, npS, ncS, outS, eiS, rmS, eaS]; (repeat' split) <;> omega)) ?_
    unfold F_X12_scale
    refine E_ite (fun _ => E_bnd (M_ref h hc (by decide)) rfl) (fun h2 => ?_)
    rw [if_neg (by omega)]
    exact E_bnd (M_ref h hc (by decide)) rfl
  by_cases h2 : 240 < a ∨ 240 < b
  · refine SIM_ref h (r := -6) (by decide) (ex _ (by decide) (by simp only [refS, npS, ncS, outS, eiS, rmS, eaS]; (repeat' split) <;> omega)) ?_
    unfold F_X12_scale
    rw [if_neg (by omega), if_pos (by omega)]
    refine E_ite (fun _ => E_bnd (M_ref h hc (by decide)) rfl) (fun h3 => ?_)
    rw [if_neg (by omega)]
    exact E_bnd (M_ref h hc (by decide)) rfl
  by_cases h3 : b < a
  · refine SIM_ref h (r := -3) (by decide) (ex _ (by decide) (by simp only [refS, npS, ncS, outS, eiS, rmS, eaS]; (repeat' split) <;> omega)) ?_
    unfold F_X12_scale
    rw [if_neg (by omega), if_pos (by omega), if_neg (by omega), if_pos (by omega), if_neg (by omega)]
    exact E_bnd (M_ref h hc (by decide)) rfl
  by_cases h4 : 0 ≤ w ∧ w ≤ 2
  · refine SIM_tw h ?_
    obtain ⟨B, hB, e1, e2⟩ := scale_loop (n := n) hk hw hn (b := b) (w := w) (by omega) (b - a).toNat a (a + 1) n (by omega) (by omega) (by omega) (by omega)
    have gb := great_bd hw (g := B) hB
    unfold F_X11_scale F_X12_scale
    refine TW_bx (X_either _ _ _ _ _ _) ?_
    rw [if_pos (by omega), if_neg (by omega), if_pos (by omega), if_neg (by omega), if_pos (by omega), if_pos (by omega)]
    unfold B_X11_scale_21
    refine TW_bx (X_noChoice _ _ _ _) (TW_bx (X_notRef (by simp only [refS, npS, ncS, outS, eiS, rmS, eaS]; (repeat' split) <;> omega) b1) ?_)
    rw [if_pos rfl]
    refine TW_bm (M_in_t h4) ?_
    rw [if_neg (by decide)]
    refine TW_bm (M_greatest hw hn (by omega)) (TW_cm (by omega) (TW_m e2 ?_))
    refine TW_bx (by unfold F_X6_bestScale; exact E_bnd (X_greatest hk hw hn (by omega)) (E_chk (by omega) e1)) ?_
    refine TW_i2 (fun _ => TW_some rfl) (fun h5 => ?_)
    refine TW_bx (X_greatest hk hw hn hB) (TW_cx (by omega) (TW_cm (by omega) (TW_id (terms_tw hn (by omega) (by decide) (by omega)))))
  · refine SIM_ref h (r := -2) (by decide) (ex _ (by decide) (by simp only [refS, npS, ncS, outS, eiS, rmS, eaS]; (repeat' split) <;> omega)) ?_
    unfold F_X12_scale
    rw [if_neg (by omega), if_pos (by omega), if_neg (by omega), if_pos (by omega), if_pos (by omega)]
    refine E_bnd (M_in_f h4) ?_
    rw [if_pos rfl]
    exact E_bnd (M_ref h hc (by decide)) rfl
def gB (a : Int) : Int := ((a % 2 ^ 31) / 65536) % 24 + 1
theorem gB_bd (a : Int) : 1 ≤ gB a ∧ gB a ≤ 24 := by unfold gB; omega
theorem X_guestsBy (n : Nat) (a : Int) (x : ZMem) : F_X6_guestsBy n a x = some (gB a, x) := by unfold F_X6_guestsBy; exact E_chk (by omega) (E_chk (by omega) (E_chk (by omega) rfl))
theorem seeds_loop (h : XK x 1 s) (hw : WFs s) (hn : 10000 ≤ n) {b : Int} (hb : b ≤ 20) : ∀ (d : Nat) (sum fed seed i : Int) (q : Nat), i + (d : Int) = b → 0 ≤ i → (0 ≤ sum ∧ sum ≤ i * 2073600) → (0 ≤ fed ∧ fed ≤ i) → d < q → ∃ S F, (0 ≤ S ∧ S ≤ 41472000) ∧ L_X6_bakingsOff_8 n q b sum seed i x = some (S, x) ∧ L_X6_bakingsFed_8 n q b fed seed i x = some (F, x) ∧ ∀ w, L_X12_seeds_69 n q b w seed sum fed i s = (if w = 2 then some (F, s) else bnd (F_X12_partOf n S (s 0 0) w s) (fun v m => some (v, m))) := by
  intro d
  induction d with
  | zero =>
    intro sum fed seed i q h1 h2 h3 h4 hq
    obtain ⟨q, rfl⟩ : ∃ q', q = q' + 1 := ⟨q - 1, by omega⟩
    refine ⟨sum, fed, by omega, ?_, ?_, fun w => ?_⟩
    · show B_X6_bakingsOff_8 n (L_X6_bakingsOff_8 n q) b sum seed i x = _
      unfold B_X6_bakingsOff_8
      rw [if_pos (by omega)]
    · show B_X6_bakingsFed_8 n (L_X6_bakingsFed_8 n q) b fed seed i x = _
      unfold B_X6_bakingsFed_8
      rw [if_pos (by omega)]
    · show B_X12_seeds_69 n (L_X12_seeds_69 n q) b w seed sum fed i s = _
      unfold B_X12_seeds_69
      rw [if_pos (by omega)]
  | succ d ih =>
    intro sum fed seed i q h1 h2 h3 h4 hq
    obtain ⟨q, rfl⟩ : ∃ q', q = q' + 1 := ⟨q - 1, by omega⟩
    have hsd : ∃ sd, ((((seed * 1103515245).bmod 4294967296) + 12345).bmod 4294967296) = sd := ⟨_, rfl⟩
    obtain ⟨sd, hsd⟩ := hsd
    have g1 := gB_bd sd
    have ab := allOff_bd hw g1
    obtain ⟨S, F, hS, e1, e2, e3⟩ := ih (sum + allOffS s (gB sd)) (fed + b01 (feedS s (gB sd))) sd (i + 1) q (by omega) (by omega) (by omega) (by unfold b01; split <;> omega) (by omega)
    refine ⟨S, F, hS, ?_, ?_, fun w => ?_⟩
    · show B_X6_bakingsOff_8 n (L_X6_bakingsOff_8 n q) b sum seed i x = _
      unfold B_X6_bakingsOff_8 F_X6_nextSeed
      rw [if_neg (by omega), hsd]
      refine E_bnd rfl (E_bnd (X_guestsBy n sd x) (E_bnd (X_allOff h hw hn g1) ?_))
      exact E_chk (by omega) (E_chk (by omega) e1)
    · show B_X6_bakingsFed_8 n (L_X6_bakingsFed_8 n q) b fed seed i x = _
      unfold B_X6_bakingsFed_8 F_X6_nextSeed
      rw [if_neg (by omega), hsd]
      refine E_bnd rfl (E_bnd (X_guestsBy n sd x) (E_bnd (X_feeds h hw hn g1) ?_))
      cases hf : feedS s (gB sd) with
      | true =>
        rw [hf, b01_t] at e2
        rw [b01_t, if_neg (by decide)]
        exact E_chk (by omega) (E_chk (by omega) e2)
      | false =>
        rw [hf, b01_f, Int.add_zero] at e2
        rw [b01_f, if_pos rfl]
        exact E_chk (by omega) e2
    · show B_X12_seeds_69 n (L_X12_seeds_69 n q) b w seed sum fed i s = _
      unfold B_X12_seeds_69
      rw [if_neg (by omega), hsd]
      refine E_chk (by omega) (E_chk (by omega) (E_chk (by omega) (E_bnd (M_offOf (g := gB sd) hw hn g1) (E_chk (by omega) (E_bnd (M_enough (g := gB sd) hw hn g1) ?_)))))
      have e3 := e3 w
      cases hf : feedS s (gB sd) with
      | true =>
        rw [hf, b01_t] at e3
        rw [b01_t, if_neg (by decide)]
        exact E_chk (by omega) (E_chk (by omega) e3)
      | false =>
        rw [hf, b01_f] at e3
        rw [b01_f, if_pos rfl]
        exact E_chk (by omega) (E_chk (by omega) e3)
theorem op_seeds {m : ZMem} (h : CP c x m) (hc : c ≤ 1000) (hn : 10000 ≤ n) (a seed w : Int) : SIM c (F_X11_seeds n a seed w x) (F_X12_seeds n a seed w m) := by
  have hw := WFs_t h.k.2
  have hk := XK_t (k := 1) h.k.1
  have hf := hw.f
  have b1 := outS_bd 1 20 a
  have b3 := ncS_bd w 2
  have ex : ∀ r : Int, -6 ≤ r ∧ r ≤ -1 → refS (outS 1 20 a) (ncS w 2) 0 = r → F_X11_seeds n a seed w x = some (4000000000000000000 - r, rfX x r) := by
    intro r hr e
    unfold F_X11_seeds
    refine E_bnd (X_outside _ _ _ _ _) (E_bnd (X_noChoice _ _ _ _) (E_bnd (X_ref2 h.f hc b1 b3 e (by omega)) ?_))
    rw [if_neg (by omega)]
    exact E_chk (by omega) rfl
  by_cases h4 : a < 1
  · refine SIM_refL h (r := -4) (by decide) (ex _ (by decide) (by simp only [refS, npS, ncS, outS, eiS, rmS, eaS]; (repeat' split) <;> omega)) ?_
    unfold F_X12_seeds
    refine E_bnd (M_wr4 h4) ?_
    rw [if_neg (by decide), if_neg (by decide)]
    exact E_bnd (M_ref h hc (by decide)) (E_chk (by omega) rfl)
  by_cases h6 : 20 < a
  · refine SIM_refL h (r := -6) (by decide) (ex _ (by decide) (by simp only [refS, npS, ncS, outS, eiS, rmS, eaS]; (repeat' split) <;> omega)) ?_
    unfold F_X12_seeds
    refine E_bnd (M_wr6 h4 h6) ?_
    rw [if_neg (by decide), if_neg (by decide)]
    exact E_bnd (M_ref h hc (by decide)) (E_chk (by omega) rfl)
  by_cases h2 : 0 ≤ w ∧ w ≤ 2
  · refine SIM_tw h ?_
    obtain ⟨S, F, hS, e1, e2, e3⟩ := seeds_loop (n := n) hk hw hn (b := a) (by omega) a.toNat 0 0 seed 0 n (by omega) (by omega) (by omega) (by omega) (by omega)
    have em : F_X12_seeds n a seed w m = L_X12_seeds_69 n n a w seed 0 0 0 (wr m 0 16 0) := by
      unfold F_X12_seeds
      refine E_bnd (M_wr0 h4 h6) (Eq.trans (if_pos rfl) (E_bnd (M_in_t h2) ?_))
      exact Eq.trans (if_neg (by decide)) (if_pos (by decide))
    unfold F_X11_seeds
    refine TW_bx (X_outside _ _ _ _ _) (TW_bx (X_noChoice _ _ _ _) (TW_bx (X_not2 (by simp only [refS, npS, ncS, outS, eiS, rmS, eaS]; (repeat' split) <;> omega) b1) ?_))
    rw [if_pos rfl]
    refine TW_m (em.trans (e3 w)) (TW_i2 (fun _ => ?_) (fun h5 => ?_))
    · exact TW_bx (by unfold F_X6_bakingsFed; exact e2) (TW_some rfl)
    · refine TW_bx (by unfold F_X6_bakingsOff; exact e1) ?_
      rw [hk.fm]
      exact TW_id (terms_tw hn (by omega) (by omega) (by omega))
  · refine SIM_refL h (r := -2) (by decide) (ex _ (by decide) (by simp only [refS, npS, ncS, outS, eiS, rmS, eaS]; (repeat' split) <;> omega)) ?_
    unfold F_X12_seeds
    refine E_bnd (M_wr0 h4 h6) ?_
    rw [if_pos rfl]
    refine E_bnd (M_in_f h2) ?_
    rw [if_pos rfl]
    exact E_bnd (M_ref h hc (by decide)) (E_chk (by omega) rfl)
end ZOP3
