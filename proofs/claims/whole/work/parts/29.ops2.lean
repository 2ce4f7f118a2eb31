/-! TWINS: both sides read alone, and answer the same. OPERATIONS 2: best, enough, out -/
def TW (x s : ZMem) (ox om : ZR) : Prop := ∃ r, ox = some (r, x) ∧ om = some (r, s)
section ZTW
variable {x s : ZMem} {c n : Nat}
theorem TW_some {r r' : Int} (h : r = r') : TW x s (some (r, x)) (some (r', s)) := ⟨r, rfl, by rw [h]⟩
theorem TW_x {a b o : ZR} (h : a = b) (k : TW x s b o) : TW x s a o := by rw [h]; exact k
theorem TW_m {a b o : ZR} (h : a = b) (k : TW x s o b) : TW x s o a := by rw [h]; exact k
theorem TW_bx {o om : ZR} {f : Int → ZMem → ZR} {r : Int} {m' : ZMem} (h : o = some (r, m')) (k : TW x s (f r m') om) : TW x s (bnd o f) om := by rw [h]; exact k
theorem TW_bm {o ox : ZR} {f : Int → ZMem → ZR} {r : Int} {m' : ZMem} (h : o = some (r, m')) (k : TW x s ox (f r m')) : TW x s ox (bnd o f) := by rw [h]; exact k
theorem TW_b2 {ox om : ZR} {f g : Int → ZMem → ZR} (h : TW x s ox om) (k : ∀ r, TW x s (f r x) (g r s)) : TW x s (bnd ox f) (bnd om g) := by
  obtain ⟨r, h1, h2⟩ := h
  rw [h1, h2]
  exact k r
theorem TW_cx {P : Prop} [Decidable P] {o om : ZR} (h : P) (k : TW x s o om) : TW x s (chk P o) om := by rw [chk_pos h]; exact k
theorem TW_cm {P : Prop} [Decidable P] {o ox : ZR} (h : P) (k : TW x s ox o) : TW x s ox (chk P o) := by rw [chk_pos h]; exact k
theorem TW_ix {P : Prop} [Decidable P] {a b om : ZR} (ha : P → TW x s a om) (hb : ¬ P → TW x s b om) : TW x s (if P then a else b) om := by
  by_cases h : P
  · rw [if_pos h]; exact ha h
  · rw [if_neg h]; exact hb h
theorem TW_im {P : Prop} [Decidable P] {a b ox : ZR} (ha : P → TW x s ox a) (hb : ¬ P → TW x s ox b) : TW x s ox (if P then a else b) := by
  by_cases h : P
  · rw [if_pos h]; exact ha h
  · rw [if_neg h]; exact hb h
theorem TW_i2 {P : Prop} [Decidable P] {a b a' b' : ZR} (ha : P → TW x s a a') (hb : ¬ P → TW x s b b') : TW x s (if P then a else b) (if P then a' else b') := by
  by_cases h : P
  · rw [if_pos h, if_pos h]; exact ha h
  · rw [if_neg h, if_neg h]; exact hb h
theorem SIM_tw {m : ZMem} (h : CP c x m) {fx fm : ZR} (k : TW x (wr m 0 16 0) fx fm) : SIM c fx fm := by
  obtain ⟨r, h1, h2⟩ := k
  exact ⟨r, x, _, h1, h2, CP_thrown h⟩
theorem best_loop (h : XK x 1 s) (hw : WFs s) (hn : 10000 ≤ n) {b : Int} (hb : b ≤ 24) : ∀ (d : Nat) (f g : Int) (q : Nat), g + (d : Int) = b + 1 → 1 ≤ f ∧ f ≤ 24 → 1 ≤ g → d < q → TW x s (L_X6_leastOff_7 n q b f g x) (L_X12_best_67 n q b f g s) := by
  intro d
  induction d with
  | zero =>
    intro f g q h1 h2 h3 hq
    obtain ⟨q, rfl⟩ : ∃ q', q = q' + 1 := ⟨q - 1, by omega⟩
    show TW x s (B_X6_leastOff_7 n (L_X6_leastOff_7 n q) b f g x) (B_X12_best_67 n (L_X12_best_67 n q) b f g s)
    unfold B_X6_leastOff_7 B_X12_best_67
    exact TW_i2 (fun _ => TW_some rfl) (fun hc => by omega)
  | succ d ih =>
    intro f g q h1 h2 h3 hq
    obtain ⟨q, rfl⟩ : ∃ q', q = q' + 1 := ⟨q - 1, by omega⟩
    show TW x s (B_X6_leastOff_7 n (L_X6_leastOff_7 n q) b f g x) (B_X12_best_67 n (L_X12_best_67 n q) b f g s)
    unfold B_X6_leastOff_7 B_X12_best_67
    refine TW_i2 (fun hc => by omega) (fun hc => ?_)
    refine TW_bx (X_allOff h hw hn (by omega)) (TW_bx (X_allOff h hw hn h2) (TW_bm (M_offOf hw hn (by omega)) (TW_bm (M_offOf hw hn h2) ?_)))
    refine TW_i2 (fun hc => ?_) (fun hc => ?_)
    · exact TW_cx (by omega) (TW_cm (by omega) (ih f (g + 1) q (by omega) h2 (by omega) (by omega)))
    · exact TW_cx (by omega) (TW_cm (by omega) (ih g (g + 1) q (by omega) (by omega) (by omega) (by omega)))
theorem best_tw (h : XK x 1 s) (hw : WFs s) (hn : 10000 ≤ n) {a b : Int} (ha : 1 ≤ a) (hab : a ≤ b) (hb : b ≤ 24) : TW x s (F_X6_leastOff n a b x) (L_X12_best_67 n n b a (a + 1) s) := by
  unfold F_X6_leastOff
  exact TW_cx (by omega) (best_loop h hw hn hb (b - a).toNat a (a + 1) n (by omega) (by omega) (by omega) (by omega))
theorem op_best {m : ZMem} (h : CP c x m) (hc : c ≤ 1000) (hn : 10000 ≤ n) (a b : Int) (ra : R32 a) (rb : R32 b) : SIM c (F_X11_best n a b x) (F_X12_best n a b m) := by
  have b1 := eiS_bd 1 24 a b
  unfold F_X11_best F_X12_best
  by_cases h1 : a < 1 ∨ b < 1
  · refine SIM_ref h (r := -4) (by decide) ?_ ?_
    · refine E_bnd (X_either _ _ _ _ _ _) (E_ite (fun _ => E_bnd (X_ref2 h.f hc b1 (by decide) (r := -4) (by simp only [refS, npS, ncS, outS, eiS, rmS, eaS]; (repeat' split) <;> omega) (by decide)) (by rw [if_neg (by decide)])) (fun _ => E_bnd (X_ref2 h.f hc b1 (by decide) (r := -4) (by simp only [refS, npS, ncS, outS, eiS, rmS, eaS]; (repeat' split) <;> omega) (by decide)) (by rw [if_neg (by decide)])))
    · refine E_ite (fun _ => E_bnd (M_ref h hc (by decide)) rfl) (fun h2 => ?_)
      rw [if_neg (by omega)]
      exact E_bnd (M_ref h hc (by decide)) rfl
  by_cases h2 : 24 < a ∨ 24 < b
  · refine SIM_ref h (r := -6) (by decide) ?_ ?_
    · refine E_bnd (X_either _ _ _ _ _ _) (E_ite (fun _ => E_bnd (X_ref2 h.f hc b1 (by decide) (r := -6) (by simp only [refS, npS, ncS, outS, eiS, rmS, eaS]; (repeat' split) <;> omega) (by decide)) (by rw [if_neg (by decide)])) (fun _ => E_bnd (X_ref2 h.f hc b1 (by decide) (r := -6) (by simp only [refS, npS, ncS, outS, eiS, rmS, eaS]; (repeat' split) <;> omega) (by decide)) (by rw [if_neg (by decide)])))
    · rw [if_neg (by omega), if_pos (by omega)]
      refine E_ite (fun _ => E_bnd (M_ref h hc (by decide)) rfl) (fun h3 => ?_)
      rw [if_neg (by omega)]
      exact E_bnd (M_ref h hc (by decide)) rfl
  by_cases h3 : b < a
  · refine SIM_ref h (r := -3) (by decide) ?_ ?_
    · refine E_bnd (X_either _ _ _ _ _ _) ?_
      rw [if_neg (by omega)]
      exact E_bnd (X_ref2 h.f hc b1 (by decide) (r := -3) (by simp only [refS, npS, ncS, outS, eiS, rmS, eaS]; (repeat' split) <;> omega) (by decide)) (by rw [if_neg (by decide)])
    · rw [if_neg (by omega), if_pos (by omega), if_neg (by omega), if_pos (by omega), if_neg (by omega)]
      exact E_bnd (M_ref h hc (by decide)) rfl
  · refine SIM_tw h ?_
    refine TW_bx (X_either _ _ _ _ _ _) ?_
    rw [if_pos (by omega), if_neg (by omega), if_pos (by omega), if_neg (by omega), if_pos (by omega), if_pos (by omega)]
    refine TW_bx (X_not2 (by simp only [refS, npS, ncS, outS, eiS, rmS, eaS]; (repeat' split) <;> omega) b1) ?_
    rw [if_pos rfl]
    refine TW_cm (by omega) ?_
    obtain ⟨r, e1, e2⟩ := best_tw (n := n) (XK_t h.k.1) (WFs_t h.k.2) hn (a := a) (b := b) (by omega) (by omega) (by omega)
    exact TW_bx e1 ⟨r, rfl, e2⟩
theorem enough_loop (h : XK x 1 s) (hw : WFs s) (hn : 10000 ≤ n) : ∀ (g q : Nat), g ≤ 24 → g < q → TW x s (L_X6_mostFed_3 n q (g : Int) x) (L_X12_enough_8 n q (g : Int) s) := by
  intro g
  induction g with
  | zero =>
    intro q h1 hq
    obtain ⟨q, rfl⟩ : ∃ q', q = q' + 1 := ⟨q - 1, by omega⟩
    show TW x s (B_X6_mostFed_3 n (L_X6_mostFed_3 n q) _ x) (B_X12_enough_8 n (L_X12_enough_8 n q) _ s)
    unfold B_X6_mostFed_3 B_X12_enough_8
    rw [if_pos (by omega), if_pos (by omega)]
    exact TW_some rfl
  | succ g ih =>
    intro q h1 hq
    obtain ⟨q, rfl⟩ : ∃ q', q = q' + 1 := ⟨q - 1, by omega⟩
    show TW x s (B_X6_mostFed_3 n (L_X6_mostFed_3 n q) _ x) (B_X12_enough_8 n (L_X12_enough_8 n q) _ s)
    unfold B_X6_mostFed_3 B_X12_enough_8
    rw [if_neg (by omega), if_neg (by omega)]
    refine TW_bx (X_feeds h hw hn (by omega)) (TW_bm (M_enough hw hn (by omega)) ?_)
    refine TW_i2 (fun hc => ?_) (fun hc => TW_some rfl)
    have e : (((g + 1 : Nat) : Int) + (-1)) = (g : Int) := by omega
    rw [e]
    exact TW_cx (by omega) (TW_cm (by omega) (ih q (by omega) (by omega)))
theorem op_enough {m : ZMem} (h : CP c x m) (hn : 10000 ≤ n) : SIM c (F_X11_enough n x) (F_X12_enough n m) := by
  refine SIM_tw h ?_
  unfold F_X11_enough F_X12_enough F_X6_mostFed
  obtain ⟨r, e1, e2⟩ := enough_loop (n := n) (XK_t h.k.1) (WFs_t h.k.2) hn 24 n (by decide) (by omega)
  exact TW_bx e1 ⟨r, rfl, e2⟩
/-- no part is off at all -/
def outB (s : ZMem) (g : Int) (p : Nat) : Bool := decide (takS s p (s 4 p * g) (s 0 0) * s 0 0 = 12 * (s 4 p * g))
def noneS (s : ZMem) (g : Int) : Bool := allS (outB s g) (s 0 2).toNat
theorem zabs_0 (a : Int) : zabs a = 0 ↔ a = 0 := by unfold zabs; split <;> omega
theorem X_noneOff (h : XK x 1 s) (hw : WFs s) (hn : 10000 ≤ n) {g : Int} (hg : 1 ≤ g ∧ g ≤ 24) : F_X6_noneIsOff n g x = some (b01 (noneS s g), x) := by
  have h8 := np_le hw
  have key := loop_all (L := fun q (z : Int × ZMem) => L_X6_noneIsOff_2 n q g z.1 z.2) (s 0 2).toNat (outB s g) (fun k => ((k : Int), x)) (some (1, x)) (some (0, x)) ?_ ?_ ?_ n (by omega)
  · refine Eq.trans key ?_
    unfold noneS b01
    split <;> rfl
  all_goals
    first
    | (intro k q hk hf
       have hk2 := np_lt hw hk
       have a1 := ag_bd hw hk2 (g := g) (B := 24) (by omega)
       show B_X6_noneIsOff_2 n (L_X6_noneIsOff_2 n q) g (k : Int) x = _
       unfold B_X6_noneIsOff_2
       refine E_bnd (X_size n 2 x) ?_
       rw [h.s2, if_neg (by omega), h.fm]
       refine E_bnd (X_offBy h hw hk2 (by omega) hw.f) ?_
       unfold offA
       simp only [zabs_0]
       simp only [outB, decide_eq_true_eq, decide_eq_false_iff_not] at hf
       first
       | (rw [if_pos (by omega)]
          refine E_chk (by omega) ?_
          rw [cast1])
       | rw [if_neg (by omega)])
    | (intro q
       show B_X6_noneIsOff_2 n (L_X6_noneIsOff_2 n q) g _ x = _
       unfold B_X6_noneIsOff_2
       refine E_bnd (X_size n 2 x) ?_
       rw [h.s2, if_pos (by have := np_cast hw; omega)])
theorem M_isOut (hw : WFs s) (hn : 10000 ≤ n) {g : Int} (hg : 1 ≤ g ∧ g ≤ 24) : F_X12_isOut n g s = some (b01 (noneS s g), s) := by
  have h8 := np_le hw
  refine loop_run (L := fun q (z : Int × Int × ZMem) => L_X12_isOut_4 n q g z.1 z.2.1 z.2.2) (s 0 2).toNat (fun k => (b01 (allS (outB s g) k), (k : Int), s)) _ ?_ ?_ n (by omega)
  · intro k q hk
    have hk2 := np_lt hw hk
    have hpt := hw.pt k hk2
    have hf := hw.f
    have a1 := ag_bd hw hk2 (g := g) (B := 24) (by omega)
    have t := takS_bd hw hk2 (a := s 4 k * g) (b := s 0 0) (by omega) hw.f
    have w2 := mul_bd (a := takS s k (s 4 k * g) (s 0 0)) (b := s 0 0) t.1 t.2 (by omega) hf.2
    show B_X12_isOut_4 n (L_X12_isOut_4 n q) g _ (k : Int) s = L_X12_isOut_4 n q g (b01 (allS (outB s g) k && outB s g k)) ((k + 1 : Nat) : Int) s
    unfold B_X12_isOut_4
    simp only [zM4, Int.toNat_natCast, Int.mul_assoc]
    rw [if_neg (by omega)]
    cases ha : allS (outB s g) k with
    | false =>
      rw [b01_f, if_pos rfl]
      refine E_chk (by omega) ?_
      rw [cast1]
      rfl
    | true =>
      rw [b01_t, if_neg (by decide)]
      refine E_bnd (M_takenFor hw hk2 hg) (E_chk (by omega) (E_chk (by omega) (E_chk (by omega) (E_chk (by omega) (E_ite (fun hc => E_chk (by omega) ?_) (fun hc => E_chk (by omega) ?_))))))
      · rw [cast1, show outB s g k = true by simp only [outB, decide_eq_true_eq]; omega]
        rfl
      · rw [cast1, show outB s g k = false by simp only [outB, decide_eq_false_iff_not]; omega]
        rfl
  · intro q
    show B_X12_isOut_4 n (L_X12_isOut_4 n q) g _ ((s 0 2).toNat : Int) s = _
    unfold B_X12_isOut_4
    rw [if_pos (by have := np_cast hw; omega)]
    refine E_chk ?_ rfl
    unfold b01
    split
    · exact Or.inr rfl
    · exact Or.inl rfl
theorem out_loop (h : XK x 1 s) (hw : WFs s) (hn : 10000 ≤ n) (i : Int) : ∀ (d : Nat) (f g : Int) (q : Nat), g + (d : Int) = 25 → 0 ≤ f ∧ f ≤ 100 - d → 1 ≤ g → d < q → TW x s (L_X6_comesOut_4 n q i f g x) (L_X12_out_21 n q i f g s) := by
  intro d
  induction d with
  | zero =>
    intro f g q h1 h2 h3 hq
    obtain ⟨q, rfl⟩ : ∃ q', q = q' + 1 := ⟨q - 1, by omega⟩
    show TW x s (B_X6_comesOut_4 n (L_X6_comesOut_4 n q) i f g x) (B_X12_out_21 n (L_X12_out_21 n q) i f g s)
    unfold B_X6_comesOut_4 B_X12_out_21
    exact TW_i2 (fun _ => TW_i2 (fun _ => TW_some rfl) (fun _ => TW_some rfl)) (fun hc => by omega)
  | succ d ih =>
    intro f g q h1 h2 h3 hq
    obtain ⟨q, rfl⟩ : ∃ q', q = q' + 1 := ⟨q - 1, by omega⟩
    show TW x s (B_X6_comesOut_4 n (L_X6_comesOut_4 n q) i f g x) (B_X12_out_21 n (L_X12_out_21 n q) i f g s)
    unfold B_X6_comesOut_4 B_X12_out_21
    refine TW_i2 (fun hc => by omega) (fun hc => ?_)
    refine TW_bx (X_noneOff h hw hn (by omega)) (TW_bm (M_isOut hw hn (by omega)) ?_)
    refine TW_i2 (fun hc => ?_) (fun hc => TW_i2 (fun _ => TW_some rfl) (fun _ => ?_))
    · exact TW_cx (by omega) (TW_cm (by omega) (ih f (g + 1) q (by omega) (by omega) (by omega) (by omega)))
    · exact TW_cx (by omega) (TW_cx (by omega) (TW_cm (by omega) (TW_cm (by omega) (ih (f + 1) (g + 1) q (by omega) (by omega) (by omega) (by omega)))))
theorem op_out {m : ZMem} (h : CP c x m) (hc : c ≤ 1000) (hn : 10000 ≤ n) (i : Int) : SIM c (F_X11_out n i x) (F_X12_out n i m) := by
  unfold F_X11_out F_X12_out F_X6_comesOut
  by_cases h1 : -1 ≤ i
  · refine SIM_tw h ?_
    rw [if_pos h1, if_pos h1]
    refine TW_bx (X_noto rfl) ?_
    rw [if_pos rfl]
    obtain ⟨r, e1, e2⟩ := out_loop (n := n) (XK_t h.k.1) (WFs_t h.k.2) hn i 24 0 1 n (by omega) (by omega) (by omega) (by omega)
    exact TW_bx e1 ⟨r, rfl, e2⟩
  · refine SIM_ref h (r := -4) (by decide) ?_ ?_
    · rw [if_neg h1]
      exact E_bnd (X_refo h.f hc (by decide) (by decide)) (by rw [if_neg (by decide)])
    · rw [if_neg h1]
      exact E_bnd (M_ref h hc (by decide)) rfl
end ZTW
