/-! OPERATIONS 6: lots -/
section ZOP6
variable {x s m : ZMem} {c n : Nat}
/-- the best so far, on both sides -/
def LR (nf : Prop) (xb l p mb sc : Int) : Prop := (nf ∧ xb = -9 ∧ l = 1000000000 ∧ p = 1000000000 ∧ mb = -1) ∨ (mb = xb ∧ 0 ≤ xb ∧ sc = 1000 * l + p ∧ 0 ≤ l ∧ l ≤ 1152 ∧ 0 ≤ p ∧ p ≤ 48)
theorem lots_in {a b i : Int} (hg : 1 ≤ s 0 1 ∧ s 0 1 ≤ 24) (ha : 1 ≤ a ∧ a ≤ 24) (hb : 1 ≤ b ∧ b ≤ 24) (hi : 0 ≤ i ∧ i ≤ 24) (rx : Int → Int → Int → Int → Int → Int → Int → ZMem → ZR) (rm : Int → Int → Int → Int → Int → ZMem → ZR) (K : ∀ xb l p mb sc, LR False xb l p mb sc → TW x s (rx (s 0 1) a b xb l p (i + 1) x) (rm a b mb sc (i + 1) s)) : ∀ (d : Nat) (j xb l p mb sc : Int) (q q' : Nat), j + (d : Int) = 25 → 0 ≤ j → LR (i = 0 ∧ j ≤ 24) xb l p mb sc → d < q → d < q' → TW x s (L_X6_lotsFor_24 n rx q (s 0 1) a b xb l p i j x) (L_X12_lots_68 n rm q' a b mb sc i j s) := by
  intro d
  induction d with
  | zero =>
    intro j xb l p mb sc q q' h1 h2 h3 hq hq'
    obtain ⟨q, rfl⟩ : ∃ z, q = z + 1 := ⟨q - 1, by omega⟩
    obtain ⟨q', rfl⟩ : ∃ z, q' = z + 1 := ⟨q' - 1, by omega⟩
    show TW x s (B_X6_lotsFor_24 n rx (L_X6_lotsFor_24 n rx q) (s 0 1) a b xb l p i j x) (B_X12_lots_68 n rm (L_X12_lots_68 n rm q') a b mb sc i j s)
    unfold B_X6_lotsFor_24 B_X12_lots_68
    rw [if_pos (by omega), if_pos (by omega)]
    refine TW_cx (by omega) (TW_cm (by omega) (K _ _ _ _ _ ?_))
    rcases h3 with h3 | h3
    · omega
    · exact Or.inr h3
  | succ d ih =>
    intro j xb l p mb sc q q' h1 h2 h3 hq hq'
    obtain ⟨q, rfl⟩ : ∃ z, q = z + 1 := ⟨q - 1, by omega⟩
    obtain ⟨q', rfl⟩ : ∃ z, q' = z + 1 := ⟨q' - 1, by omega⟩
    have m1 := mul_bd (a := i) (b := a) (A := 24) (B := 24) hi.1 hi.2 (by omega) ha.2
    have m2 := mul_bd (a := j) (b := b) (A := 24) (B := 24) h2 (by omega) (by omega) hb.2
    have m3 : j * 1 ≤ j * b := Int.mul_le_mul_of_nonneg_left hb.1 h2
    have hx : L_X6_lotsFor_24 n rx (q + 1) (s 0 1) a b xb l p i j x = if 0 ≤ i * a + j * b - s 0 1 ∧ (i * a + j * b - s 0 1 < l ∨ (i * a + j * b - s 0 1 = l ∧ i + j < p)) then L_X6_lotsFor_24 n rx q (s 0 1) a b (100 * i + j) (i * a + j * b - s 0 1) (i + j) i (j + 1) x else L_X6_lotsFor_24 n rx q (s 0 1) a b xb l p i (j + 1) x := by
      show B_X6_lotsFor_24 n rx (L_X6_lotsFor_24 n rx q) (s 0 1) a b xb l p i j x = _
      unfold B_X6_lotsFor_24
      rw [if_neg (by omega)]
      by_cases T : 0 ≤ i * a + j * b - s 0 1 ∧ (i * a + j * b - s 0 1 < l ∨ (i * a + j * b - s 0 1 = l ∧ i + j < p))
      · rw [if_pos T]
        refine E_chk (by omega) (E_chk (by omega) (E_chk (by omega) (E_chk (by omega) (E_ite (fun k1 => E_chk (by omega) (E_ite (fun k2 => ?_) (fun k2 => ?_))) (fun k1 => ?_)))))
        all_goals
          unfold B_X6_lotsFor_66
          refine E_ite (fun k3 => by omega) (fun k3 => E_ite (fun k4 => E_chk (by omega) (E_chk (by omega) (E_chk (by omega) (E_chk (by omega) rfl)))) (fun k4 => E_ite (fun k5 => by omega) (fun k5 => E_chk (by omega) (E_chk (by omega) (E_chk (by omega) (E_chk (by omega) rfl))))))
      · rw [if_neg T]
        refine E_chk (by omega) (E_chk (by omega) (E_chk (by omega) (E_chk (by omega) (E_ite (fun k1 => E_chk (by omega) (E_ite (fun k2 => ?_) (fun k2 => ?_))) (fun k1 => ?_)))))
        all_goals
          unfold B_X6_lotsFor_66
          refine E_ite (fun k3 => E_chk (by omega) rfl) (fun k3 => E_ite (fun k4 => by omega) (fun k4 => E_ite (fun k5 => E_chk (by omega) rfl) (fun k5 => by omega)))
    have hm : L_X12_lots_68 n rm (q' + 1) a b mb sc i j s = if 0 ≤ i * a + j * b - s 0 1 ∧ (mb < 0 ∨ 1000 * (i * a + j * b - s 0 1) + i + j < sc) then L_X12_lots_68 n rm q' a b (100 * i + j) (1000 * (i * a + j * b - s 0 1) + i + j) i (j + 1) s else L_X12_lots_68 n rm q' a b mb sc i (j + 1) s := by
      show B_X12_lots_68 n rm (L_X12_lots_68 n rm q') a b mb sc i j s = _
      unfold B_X12_lots_68
      rw [if_neg (by omega)]
      by_cases T : 0 ≤ i * a + j * b - s 0 1 ∧ (mb < 0 ∨ 1000 * (i * a + j * b - s 0 1) + i + j < sc)
      · rw [if_pos T]
        refine E_chk (by omega) (E_chk (by omega) (E_chk (by omega) (E_chk (by omega) (E_chk (by omega) (E_chk (by omega) (E_chk (by omega) (E_ite (fun k1 => by omega) (fun k1 => E_ite (fun k2 => ?_) (fun k2 => E_ite (fun k3 => by omega) (fun k3 => ?_))))))))))
        all_goals
          unfold B_X12_lots_127
          rw [if_neg (by decide)]
          refine E_chk (by omega) (E_chk (by omega) ?_)
          rw [if_neg (by decide)]
          exact E_chk (by omega) rfl
      · rw [if_neg T]
        refine E_chk (by omega) (E_chk (by omega) (E_chk (by omega) (E_chk (by omega) (E_chk (by omega) (E_chk (by omega) (E_chk (by omega) (E_ite (fun k1 => ?_) (fun k1 => E_ite (fun k2 => by omega) (fun k2 => E_ite (fun k3 => ?_) (fun k3 => by omega)))))))))) 
        all_goals
          unfold B_X12_lots_127
          rw [if_pos rfl, if_pos rfl]
          exact E_chk (by omega) rfl
    refine TW_x hx (TW_m hm ?_)
    refine TW_ix (fun t => TW_im (fun t' => ?_) (fun t' => ?_)) (fun t => TW_im (fun t' => ?_) (fun t' => ?_))
    · exact ih _ _ _ _ _ _ q q' (by omega) (by omega) (Or.inr ⟨rfl, by omega, by omega, by omega, by omega, by omega, by omega⟩) (by omega) (by omega)
    · exact absurd (show False by rcases h3 with h3 | h3 <;> omega) id
    · exact absurd (show False by rcases h3 with h3 | h3 <;> omega) id
    · refine ih _ _ _ _ _ _ q q' (by omega) (by omega) ?_ (by omega) (by omega)
      rcases h3 with h3 | h3
      · exact Or.inl ⟨by omega, by omega, by omega, by omega, by omega⟩
      · exact Or.inr h3
theorem lots_out {a b : Int} (hg : 1 ≤ s 0 1 ∧ s 0 1 ≤ 24) (ha : 1 ≤ a ∧ a ≤ 24) (hb : 1 ≤ b ∧ b ≤ 24) (hn : 10000 ≤ n) : ∀ (d : Nat) (i xb l p mb sc : Int) (q q' : Nat), i + (d : Int) = 25 → 0 ≤ i → LR (i = 0) xb l p mb sc → d < q → d < q' → TW x s (L_X6_lotsFor_14 n q (s 0 1) a b xb l p i x) (L_X12_lots_58 n q' a b mb sc i s) := by
  intro d
  induction d with
  | zero =>
    intro i xb l p mb sc q q' h1 h2 h3 hq hq'
    obtain ⟨q, rfl⟩ : ∃ z, q = z + 1 := ⟨q - 1, by omega⟩
    obtain ⟨q', rfl⟩ : ∃ z, q' = z + 1 := ⟨q' - 1, by omega⟩
    show TW x s (B_X6_lotsFor_14 n (L_X6_lotsFor_14 n q) (s 0 1) a b xb l p i x) (B_X12_lots_58 n (L_X12_lots_58 n q') a b mb sc i s)
    unfold B_X6_lotsFor_14 B_X12_lots_58
    rw [if_pos (by omega), if_pos (by omega)]
    refine TW_some ?_
    rcases h3 with h3 | h3 <;> omega
  | succ d ih =>
    intro i xb l p mb sc q q' h1 h2 h3 hq hq'
    obtain ⟨q, rfl⟩ : ∃ z, q = z + 1 := ⟨q - 1, by omega⟩
    obtain ⟨q', rfl⟩ : ∃ z, q' = z + 1 := ⟨q' - 1, by omega⟩
    show TW x s (B_X6_lotsFor_14 n (L_X6_lotsFor_14 n q) (s 0 1) a b xb l p i x) (B_X12_lots_58 n (L_X12_lots_58 n q') a b mb sc i s)
    unfold B_X6_lotsFor_14 B_X12_lots_58
    rw [if_neg (by omega), if_neg (by omega)]
    refine lots_in hg ha hb ⟨h2, by omega⟩ _ _ ?_ 25 0 xb l p mb sc n n (by omega) (by omega) ?_ (by omega) (by omega)
    · intro xb l p mb sc h
      refine ih _ _ _ _ _ _ q q' (by omega) (by omega) ?_ (by omega) (by omega)
      rcases h with h | h
      · exact absurd h.1 id
      · exact Or.inr h
    · rcases h3 with h3 | h3
      · exact Or.inl ⟨⟨h3.1, by decide⟩, h3.2⟩
      · exact Or.inr h3
theorem op_lots (h : CP c x m) (hc : c ≤ 1000) (hn : 10000 ≤ n) (a b : Int) : SIM c (F_X11_lots n a b x) (F_X12_lots n a b m) := by
  have hw := WFs_t h.k.2
  have hk := XK_t (k := 1) h.k.1
  unfold F_X11_lots F_X12_lots
  by_cases h1 : a < 1 ∨ b < 1
  · have eo : eiS 1 24 a b = -4 := by unfold eiS; (repeat' split) <;> omega
    refine SIM_ref h (r := -4) (by decide) ?_ ?_
    · refine E_bnd (X_either _ _ _ _ _ _) ?_
      rw [eo]
      refine E_bnd (X_refo h.f hc (by decide) (by decide)) ?_
      rw [if_neg (by decide)]
    · refine E_ite (fun _ => E_bnd (M_ref h hc (by decide)) rfl) (fun h2 => ?_)
      rw [if_neg (by omega)]
      exact E_bnd (M_ref h hc (by decide)) rfl
  by_cases h2 : 24 < a ∨ 24 < b
  · have eo : eiS 1 24 a b = -6 := by unfold eiS; (repeat' split) <;> omega
    refine SIM_ref h (r := -6) (by decide) ?_ ?_
    · refine E_bnd (X_either _ _ _ _ _ _) ?_
      rw [eo]
      refine E_bnd (X_refo h.f hc (by decide) (by decide)) ?_
      rw [if_neg (by decide)]
    · rw [if_neg (by omega), if_pos (by omega)]
      refine E_ite (fun _ => E_bnd (M_ref h hc (by decide)) rfl) (fun h3 => ?_)
      rw [if_neg (by omega)]
      exact E_bnd (M_ref h hc (by decide)) rfl
  · have eo : eiS 1 24 a b = 0 := by unfold eiS; (repeat' split) <;> omega
    refine SIM_tw h ?_
    refine TW_bx (X_either _ _ _ _ _ _) ?_
    rw [eo]
    refine TW_bx (X_noto rfl) ?_
    rw [if_pos rfl, if_neg (by omega), if_pos (by omega), if_neg (by omega), if_pos (by omega), hk.gu]
    unfold F_X6_lotsFor
    obtain ⟨r, e1, e2⟩ := lots_out (x := x) (n := n) (a := a) (b := b) hw.g (by omega) (by omega) hn 25 0 (-9) 1000000000 1000000000 (-1) 0 n n (by omega) (by omega) (Or.inl ⟨rfl, rfl, rfl, rfl, rfl⟩) (by omega) (by omega)
    exact TW_bx e1 ⟨r, rfl, e2⟩
end ZOP6
