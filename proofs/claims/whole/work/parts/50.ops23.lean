/-! OPERATIONS 23: stead -/
/-- the least loss with up to t uses more -/
def gS (L : Nat → Int) (mk : Nat) (ls : Int) : Nat → Nat → Int
  | 0, w => L w
  | t + 1, w => min (gS L mk ls t w) (L (w - (t + 1) * mk) + ((t + 1 : Nat) : Int) * ls)
theorem gS_le {L : Nat → Int} {mk : Nat} {ls : Int} {u w : Nat} : ∀ t, u ≤ t → gS L mk ls t w ≤ L (w - u * mk) + (u : Int) * ls
  | 0, h => by
    have e : u = 0 := by omega
    subst e
    rw [Nat.zero_mul]
    simp [gS]
  | t + 1, h => by
    show min (gS L mk ls t w) (L (w - (t + 1) * mk) + ((t + 1 : Nat) : Int) * ls) ≤ _
    by_cases e : u = t + 1
    · subst e
      omega
    · have := gS_le (L := L) (mk := mk) (ls := ls) (u := u) (w := w) t (by omega)
      omega
theorem gS_ex {L : Nat → Int} {mk : Nat} {ls : Int} {w : Nat} : ∀ t, ∃ u, u ≤ t ∧ gS L mk ls t w = L (w - u * mk) + (u : Int) * ls
  | 0 => ⟨0, by omega, by rw [Nat.zero_mul]; simp [gS]⟩
  | t + 1 => by
    obtain ⟨u, h1, h2⟩ := gS_ex (L := L) (mk := mk) (ls := ls) (w := w) t
    by_cases e : gS L mk ls t w ≤ L (w - (t + 1) * mk) + ((t + 1 : Nat) : Int) * ls
    · refine ⟨u, by omega, ?_⟩
      show min (gS L mk ls t w) (L (w - (t + 1) * mk) + ((t + 1 : Nat) : Int) * ls) = _
      rw [Int.min_eq_left e, h2]
    · refine ⟨t + 1, by omega, ?_⟩
      show min (gS L mk ls t w) (L (w - (t + 1) * mk) + ((t + 1 : Nat) : Int) * ls) = _
      rw [Int.min_eq_right (by omega)]
theorem g_add {L : Nat → Int} {mk : Nat} {ls : Int} {t k : Nat} (hk : k ≤ t + 1) (w : Nat) : min (gS L mk ls t w) (gS L mk ls t (w - k * mk) + (k : Int) * ls) = gS L mk ls (t + k) w := by
  have sub : ∀ u, w - k * mk - u * mk = w - (u + k) * mk := fun u => by rw [Nat.add_mul]; omega
  have mul : ∀ u : Nat, ((u + k : Nat) : Int) * ls = (u : Int) * ls + (k : Int) * ls := fun u => by rw [Int.natCast_add, Int.add_mul]
  refine Int.le_antisymm ?_ ?_
  · obtain ⟨u, h1, h2⟩ := gS_ex (L := L) (mk := mk) (ls := ls) (w := w) (t + k)
    rw [h2]
    by_cases e : u ≤ t
    · have := gS_le (L := L) (mk := mk) (ls := ls) (w := w) t e
      omega
    · have := gS_le (L := L) (mk := mk) (ls := ls) (w := w - k * mk) (u := u - k) t (by omega)
      have m2 := mul (u - k)
      rw [sub, show u - k + k = u by omega] at this
      rw [show u - k + k = u by omega] at m2
      omega
  · obtain ⟨u, h1, h2⟩ := gS_ex (L := L) (mk := mk) (ls := ls) (w := w) t
    obtain ⟨u', h3, h4⟩ := gS_ex (L := L) (mk := mk) (ls := ls) (w := w - k * mk) t
    have a := gS_le (L := L) (mk := mk) (ls := ls) (w := w) (u := u) (t + k) (by omega)
    have b := gS_le (L := L) (mk := mk) (ls := ls) (w := w) (u := u' + k) (t + k) (by omega)
    rw [mul] at b
    rw [sub] at h4
    omega
theorem gS_bd {L : Nat → Int} {mk : Nat} {ls A : Int} (hl : 0 ≤ ls) {t w lack : Nat} (hL : ∀ w, w ≤ lack → 0 ≤ L w ∧ L w ≤ A) (hw : w ≤ lack) : 0 ≤ gS L mk ls t w ∧ gS L mk ls t w ≤ A := by
  have a := gS_le (L := L) (mk := mk) (ls := ls) (w := w) (u := 0) t (by omega)
  obtain ⟨u, h1, h2⟩ := gS_ex (L := L) (mk := mk) (ls := ls) (w := w) t
  have b := hL w hw
  have d := hL (w - u * mk) (by omega)
  have e := Int.mul_nonneg (show (0 : Int) ≤ (u : Int) by omega) hl
  rw [Nat.zero_mul] at a
  simp at a
  omega
/-- the same loss, or none on both sides -/
def rlP (B a b : Int) : Prop := (a = 1000000 ∧ b = 99999) ∨ (a = b ∧ 0 ≤ a ∧ a ≤ B)
theorem RL_mono {B B' a b : Int} (h : rlP B a b) (hB : B ≤ B') : rlP B' a b := by
  rcases h with h | ⟨h1, h2, h3⟩
  · exact Or.inl h
  · exact Or.inr ⟨h1, h2, by omega⟩
theorem gS_RL {LX LM : Nat → Int} {mk lack : Nat} {ls B : Int} (hl : 0 ≤ ls) (hB : 0 ≤ B) (h : ∀ w, w ≤ lack → rlP B (LX w) (LM w)) : ∀ t : Nat, B + (t : Int) * ls < 99999 → ∀ w, w ≤ lack → rlP (B + (t : Int) * ls) (gS LX mk ls t w) (gS LM mk ls t w)
  | 0, _, w, hw => by
    rw [show B + ((0 : Nat) : Int) * ls = B by simp]
    exact h w hw
  | t + 1, hb, w, hw => by
    have e : ((t + 1 : Nat) : Int) * ls = (t : Int) * ls + ls := by rw [Int.natCast_add, Int.add_mul]; simp
    have tl := Int.mul_nonneg (show (0 : Int) ≤ (t : Int) by omega) hl
    have a := gS_RL (mk := mk) hl hB h t (by omega) w hw
    have b := h (w - (t + 1) * mk) (by omega)
    show rlP _ (min (gS LX mk ls t w) (LX (w - (t + 1) * mk) + ((t + 1 : Nat) : Int) * ls)) (min (gS LM mk ls t w) (LM (w - (t + 1) * mk) + ((t + 1 : Nat) : Int) * ls))
    rw [e]
    unfold rlP at a b ⊢
    omega
def tiS (s : ZMem) (i : Nat) : Int := max (s 5 (s 8 (5 * i + 1)).toNat - upS (takS s (s 8 (5 * i + 1)).toNat (s 4 (s 8 (5 * i + 1)).toNat * s 0 1) (s 0 0)) 12) 0 / s 8 (5 * i + 2)
def kE (i j : Nat) : Bool := decide (i ≠ 53) && !(decide (i = 52) && decide (j = 3))
def k18 (i _ : Nat) : Bool := decide (i ≠ 18)
section ZOP23
variable {x s m y : ZMem} {c n p : Nat}
theorem ti_bds (hw : WFs s) {i : Nat} (hi : (i : Int) < s 0 4) : ((((s 8 (5 * i + 1)).toNat : Nat) : Int) < s 0 2 ∧ (((s 8 (5 * i + 1)).toNat : Nat) : Int) = s 8 (5 * i + 1)) ∧ (0 ≤ takS s (s 8 (5 * i + 1)).toNat (s 4 (s 8 (5 * i + 1)).toNat * s 0 1) (s 0 0) ∧ takS s (s 8 (5 * i + 1)).toNat (s 4 (s 8 (5 * i + 1)).toNat * s 0 1) (s 0 0) ≤ 290000) ∧ (0 ≤ upS (takS s (s 8 (5 * i + 1)).toNat (s 4 (s 8 (5 * i + 1)).toNat * s 0 1) (s 0 0)) 12 ∧ upS (takS s (s 8 (5 * i + 1)).toNat (s 4 (s 8 (5 * i + 1)).toNat * s 0 1) (s 0 0)) 12 ≤ 290000) ∧ (0 ≤ s 5 (s 8 (5 * i + 1)).toNat ∧ s 5 (s 8 (5 * i + 1)).toNat ≤ 99) ∧ (1 ≤ s 8 (5 * i + 2) ∧ s 8 (5 * i + 2) ≤ 9) := by
  obtain ⟨-, a2, a3, -⟩ := hw.si i hi
  have ho : (((s 8 (5 * i + 1)).toNat : Nat) : Int) < s 0 2 := by omega
  have hg := hw.g
  have hf := hw.f
  obtain ⟨h1, h2, h3, h4, h5, -⟩ := hw.pt _ ho
  have a1 := ag_bd hw ho (g := s 0 1) (B := 24) (by omega)
  have t := takS_bd hw ho (a := s 4 (s 8 (5 * i + 1)).toNat * s 0 1) (b := s 0 0) (by omega) hf
  have u := upS_bd (a := takS s (s 8 (5 * i + 1)).toNat (s 4 (s 8 (5 * i + 1)).toNat * s 0 1) (s 0 0)) (b := 12) t.1 (by decide)
  omega
theorem ti_bd (hw : WFs s) {i : Nat} (hi : (i : Int) < s 0 4) : 0 ≤ tiS s i ∧ tiS s i ≤ 99 := by
  obtain ⟨-, -, b3, b4, b5⟩ := ti_bds hw hi
  have := div_bd (a := max (s 5 (s 8 (5 * i + 1)).toNat - upS (takS s (s 8 (5 * i + 1)).toNat (s 4 (s 8 (5 * i + 1)).toNat * s 0 1) (s 0 0)) 12) 0) (b := s 8 (5 * i + 2)) (by omega) (by omega)
  unfold tiS
  omega
theorem X_times (h : XK y 1 s) (hw : WFs s) {i : Nat} (hi : (i : Int) < s 0 4) : F_X7_timesThatItLets n (i : Int) y = some (tiS s i, y) := by
  obtain ⟨⟨b0, b1⟩, b2, b3, b4, b5⟩ := ti_bds hw hi
  have e1 : F_X9_at n 6 (i : Int) 1 y = some ((((s 8 (5 * i + 1)).toNat : Nat) : Int), y) := by rw [b1]; exact X_s6 (k := 1) h hi (by decide)
  have e2 : F_X9_at n 6 (i : Int) 2 y = some (s 8 (5 * i + 2), y) := X_s6 (k := 2) h hi (by decide)
  unfold F_X7_timesThatItLets tiS
  refine E_bnd e1 (E_bnd (X_p4 h b0) (E_bnd (X_takenNow h hw b0) (E_bnd (X_up (by omega) (by decide)) (E_chk (by omega) (E_bnd e2 (E_bnd (X_cut (by omega) (by omega)) rfl))))))
theorem M_times (hw : WFs s) {i : Nat} (hi : (i : Int) < s 0 4) : F_X12_timesOf n (i : Int) s = some (tiS s i, s) := by
  obtain ⟨⟨b0, b1⟩, b2, b3, b4, b5⟩ := ti_bds hw hi
  have hg := hw.g
  have h6 := hw.ns
  have h8 := hw.np
  have tk := M_takenFor (n := n) hw b0 hg
  rw [b1] at tk
  unfold F_X12_timesOf tiS
  simp only [zM1, zM2, zM3, zM4, zM5, zM6, zM7, zM8, zM9, zM10, zM11, zM12, zM13, zM14, zM15, zM16, zM17, zM18, zM19, zM20, zM21, zM22, zM23, zM24, zM25, zM26, zM27, zM28, zM29, show (5 * (i : Int) + 1).toNat = 5 * i + 1 by omega, show (5 * (i : Int) + 2).toNat = 5 * i + 2 by omega]
  refine E_chk (by omega) (E_chk (by omega) (E_chk (by omega) (E_chk (by omega) (E_bnd tk (E_bnd (M_up (by omega) (by decide)) (E_chk (by omega) (E_ite (fun e => ?_) (fun e => ?_))))))))
  · refine E_chk (by omega) (E_chk (by omega) (E_chk (by omega) (E_chk (by omega) (E_some ?_ rfl))))
    rw [Int.max_eq_left e]
  · refine E_some ?_ rfl
    rw [Int.max_eq_right (by omega), Int.zero_ediv]
/-- the class's table tells F -/
def ET (x : ZMem) (lack : Nat) (F : Nat → Int) (y : ZMem) : Prop := AG kE x y ∧ TB y 52 100 1 ∧ y 52 3 = (lack : Int) + 1 ∧ ∀ w : Nat, w ≤ lack → y 53 w = F w
theorem kE_xk (h : XK x 1 s) (hA : AG kE x y) : XK y 1 s := XK_fr h (fun i j h1 h2 => hA i j (by simp [kE]; omega)) AG.rf
theorem make_loop {lack mk : Nat} (hl : lack ≤ 99) (hmk : 1 ≤ mk ∧ mk ≤ 1000) {ls : Int} (hls : 0 ≤ ls ∧ ls ≤ 1000) {F : Nat → Int} (hF : ∀ w, w ≤ lack → 0 ≤ F w ∧ F w ≤ 1000000) : ∀ (k : Nat) (y : ZMem) (q : Nat), k ≤ lack → ET x lack (fun w => if k < w then min (F w) (F (w - mk) + ls) else F w) y → k < q → ∃ y', L_X7_letMake_3 n q (mk : Int) ls (k : Int) y = some (0, y') ∧ ET x lack (fun w => min (F w) (F (w - mk) + ls)) y' := by
  intro k
  induction k with
  | zero =>
    intro y q h1 hE hq
    obtain ⟨q, rfl⟩ : ∃ z, q = z + 1 := ⟨q - 1, by omega⟩
    refine ⟨y, ?_, hE.1, hE.2.1, hE.2.2.1, fun w hw => ?_⟩
    · show B_X7_letMake_3 n (L_X7_letMake_3 n q) (mk : Int) ls ((0 : Nat) : Int) y = _
      unfold B_X7_letMake_3
      rw [if_pos (by decide)]
    · rw [hE.2.2.2 w hw]
      show (if 0 < w then min (F w) (F (w - mk) + ls) else F w) = min (F w) (F (w - mk) + ls)
      by_cases e : 0 < w
      · rw [if_pos e]
      · have e0 : w = 0 := by omega
        subst e0
        rw [if_neg (by omega), Nat.zero_sub]
        omega
  | succ k ih =>
    intro y q h1 hE hq
    obtain ⟨q, rfl⟩ : ∃ z, q = z + 1 := ⟨q - 1, by omega⟩
    obtain ⟨e1, e2, e3, e4⟩ := hE
    have v1 : y 53 (k + 1 - mk) = F (k + 1 - mk) := (e4 (k + 1 - mk) (by omega)).trans (if_neg (by omega))
    have v2 : y 53 (k + 1) = F (k + 1) := (e4 (k + 1) (by omega)).trans (if_neg (by omega))
    have f1 := hF (k + 1 - mk) (by omega)
    have f2 := hF (k + 1) (by omega)
    show ∃ y', B_X7_letMake_3 n (L_X7_letMake_3 n q) (mk : Int) ls ((k + 1 : Nat) : Int) y = some (0, y') ∧ ET x lack (fun w => min (F w) (F (w - mk) + ls)) y'
    unfold B_X7_letMake_3
    rw [if_neg (by omega), chk_pos (by omega), show max (((k + 1 : Nat) : Int) - (mk : Int)) 0 = ((k + 1 - mk : Nat) : Int) by omega]
    rw [E_bnd (X_at0 (i := k + 1 - mk) e2 (by omega)) rfl, chk_pos (by show R32 (y 53 (k + 1 - mk) + ls); rw [v1]; omega), E_bnd (X_at0 (i := k + 1) e2 (by omega)) rfl, E_bnd (X_put0 (i := k + 1) e2 (by omega)) rfl, chk_pos (by omega), show ((k + 1 : Nat) : Int) + (-1) = (k : Int) by omega]
    refine ih _ q (by omega) ⟨e1.wr rfl, TB_fr e2 (wr_nr (by decide)) (wr_nr (by decide)) (wr_nr (by decide)), by rw [wr_nr (by decide)]; exact e3, fun w hw => ?_⟩ (by omega)
    show _ = if k < w then min (F w) (F (w - mk) + ls) else F w
    by_cases e : w = k + 1
    · subst e
      show wr y 53 (k + 1) (min (y 53 (k + 1)) (y 53 (k + 1 - mk) + ls)) 53 (k + 1) = _
      rw [wr_eq, v1, v2, if_pos (by omega)]
    · rw [wr_nk e]
      have : y 53 w = if k + 1 < w then min (F w) (F (w - mk) + ls) else F w := e4 w hw
      by_cases e5 : k + 1 < w
      · rw [if_pos e5] at this
        rw [if_pos (by omega)]
        exact this
      · rw [if_neg e5] at this
        rw [if_neg (by omega)]
        exact this
theorem ET_ext {lack : Nat} {F G : Nat → Int} (h : ET x lack F y) (e : ∀ w, w ≤ lack → F w = G w) : ET x lack G y := ⟨h.1, h.2.1, h.2.2.1, fun w hw => (h.2.2.2 w hw).trans (e w hw)⟩
theorem let_loop {lack mk : Nat} (hn : 10000 ≤ n) (hl : lack ≤ 99) (hmk : 1 ≤ mk ∧ mk ≤ 9) {ls : Int} (hls : 0 ≤ ls ∧ ls ≤ 9) {L : Nat → Int} (hL : ∀ w, w ≤ lack → 0 ≤ L w ∧ L w ≤ 1000000) {T : Nat} (hT : T ≤ 99) : ∀ (r u tg : Nat) (y : ZMem) (q : Nat), u + r = T → (r = 0 ∨ u + 1 = tg) → ET x lack (gS L mk ls u) y → r < q → ∃ y', L_X7_letStandIn_32 n q (lack : Int) (mk : Int) ls (r : Int) (tg : Int) y = some (0, y') ∧ ET x lack (gS L mk ls T) y' := by
  intro r
  induction r using Nat.strongRecOn with
  | _ r ih =>
    intro u tg y q h1 h2 hE hq
    obtain ⟨q, rfl⟩ : ∃ z, q = z + 1 := ⟨q - 1, by omega⟩
    show ∃ y', B_X7_letStandIn_32 n (L_X7_letStandIn_32 n q) (lack : Int) (mk : Int) ls (r : Int) (tg : Int) y = some (0, y') ∧ ET x lack (gS L mk ls T) y'
    unfold B_X7_letStandIn_32
    by_cases hr : r = 0
    · subst hr
      refine ⟨y, ?_, by rw [show T = u by omega]; exact hE⟩
      split
      · rfl
      · rw [if_pos (by decide)]
    · have htg : u + 1 = tg := by omega
      obtain ⟨k, hk⟩ : ∃ k : Nat, k = min tg r := ⟨_, rfl⟩
      have ek : min (tg : Int) (r : Int) = (k : Int) := by omega
      have kb : 1 ≤ k ∧ k ≤ 99 := by omega
      have m1 := mul_bd1 (a := (k : Int)) (b := (mk : Int)) (A := 99) (B := 9) (by omega) (by omega) (by omega) (by omega)
      have m2 := mul_bd (a := (k : Int)) (b := ls) (A := 99) (B := 9) (by omega) (by omega) hls.1 hls.2
      have cm : (k : Int) * (mk : Int) = ((k * mk : Nat) : Int) := (Int.natCast_mul k mk).symm
      rw [if_neg (by omega), if_neg (by omega), ek, cm, chk_pos (by omega), chk_pos (by omega)]
      have gb : ∀ w, w ≤ lack → 0 ≤ gS L mk ls u w ∧ gS L mk ls u w ≤ 1000000 := fun w hw => gS_bd hls.1 hL hw
      obtain ⟨y', e, hE'⟩ := make_loop (x := x) (n := n) (lack := lack) (mk := k * mk) hl (by omega) (ls := (k : Int) * ls) (by omega) gb lack y n (Nat.le_refl _) (ET_ext hE fun w hw => (if_neg (by omega)).symm) (by omega)
      have e' : F_X7_letMake n ((k * mk : Nat) : Int) ((k : Int) * ls) (lack : Int) y = some (0, y') := e
      rw [E_bnd e' rfl, chk_pos (by omega), chk_pos (by omega), show (r : Int) - (k : Int) = ((r - k : Nat) : Int) by omega, show (tg : Int) * 2 = ((tg * 2 : Nat) : Int) by omega]
      exact ih (r - k) (by omega) (u + k) (tg * 2) y' q (by omega) (by omega) (ET_ext hE' fun w hw => g_add (by omega) w) (by omega)
theorem X_letStandIn {lack : Nat} (h : XK x 1 s) (hw : WFs s) (hn : 10000 ≤ n) (hl : lack ≤ 99) {i : Nat} (hi : (i : Int) < s 0 4) {L : Nat → Int} (hL : ∀ w, w ≤ lack → 0 ≤ L w ∧ L w ≤ 1000000) (hE : ET x lack L y) : ∃ y', F_X7_letStandIn n (i : Int) (lack : Int) y = some (0, y') ∧ ET x lack (gS L (s 8 (5 * i + 3)).toNat (s 8 (5 * i + 4)) (tiS s i).toNat) y' := by
  have hk := kE_xk h hE.1
  have ti := ti_bd hw hi
  obtain ⟨-, -, -, a3, a4⟩ := hw.si i hi
  have e3 : F_X9_at n 6 (i : Int) 3 y = some (s 8 (5 * i + 3), y) := X_s6 (k := 3) hk hi (by decide)
  have e4 : F_X9_at n 6 (i : Int) 4 y = some (s 8 (5 * i + 4), y) := X_s6 (k := 4) hk hi (by decide)
  obtain ⟨y', e, hE'⟩ := let_loop (x := x) (n := n) (mk := (s 8 (5 * i + 3)).toNat) hn hl (by omega) (ls := s 8 (5 * i + 4)) a4 hL (T := (tiS s i).toNat) (by omega) (tiS s i).toNat 0 1 y n (by omega) (Or.inr rfl) hE (by omega)
  rw [show (((s 8 (5 * i + 3)).toNat : Nat) : Int) = s 8 (5 * i + 3) by omega, show (((tiS s i).toNat : Nat) : Int) = tiS s i by omega] at e
  unfold F_X7_letStandIn
  rw [E_bnd e3 rfl, E_bnd e4 rfl, E_bnd (X_times hk hw hi) rfl]
  exact ⟨y', e, hE'⟩
/-! the reference's side -/
def M18 (s : ZMem) (F : Nat → Int) (m' : ZMem) : Prop := AG k18 s m' ∧ ∀ w : Nat, w ≤ 99 → m' 18 w = F w
theorem once_loop {mk : Nat} (hmk : 1 ≤ mk ∧ mk ≤ 9) {ls : Int} (hls : 0 ≤ ls ∧ ls ≤ 9) {F : Nat → Int} (hF : ∀ w, w ≤ 99 → 0 ≤ F w ∧ F w ≤ 99999) : ∀ (k : Nat) (m' : ZMem) (q : Nat), k ≤ 99 → M18 s (fun w => if k < w then min (F w) (F (w - mk) + ls) else F w) m' → k < q → ∃ m2, L_X12_useOnce_3 n q (mk : Int) ls (k : Int) m' = some (0, m2) ∧ M18 s (fun w => min (F w) (F (w - mk) + ls)) m2 := by
  intro k
  induction k with
  | zero =>
    intro m' q h1 hE hq
    obtain ⟨q, rfl⟩ : ∃ z, q = z + 1 := ⟨q - 1, by omega⟩
    refine ⟨m', ?_, hE.1, fun w hw => ?_⟩
    · show B_X12_useOnce_3 n (L_X12_useOnce_3 n q) (mk : Int) ls ((0 : Nat) : Int) m' = _
      unfold B_X12_useOnce_3
      rw [if_pos (by decide)]
    · rw [hE.2 w hw]
      show (if 0 < w then min (F w) (F (w - mk) + ls) else F w) = min (F w) (F (w - mk) + ls)
      by_cases e : 0 < w
      · rw [if_pos e]
      · have e0 : w = 0 := by omega
        subst e0
        rw [if_neg (by omega), Nat.zero_sub]
        have := hF 0 (by decide)
        omega
  | succ k ih =>
    intro m' q h1 hE hq
    obtain ⟨q, rfl⟩ : ∃ z, q = z + 1 := ⟨q - 1, by omega⟩
    obtain ⟨e1, e4⟩ := hE
    have v1 : m' 18 (k + 1 - mk) = F (k + 1 - mk) := (e4 (k + 1 - mk) (by omega)).trans (if_neg (by omega))
    have v2 : m' 18 (k + 1) = F (k + 1) := (e4 (k + 1) (by omega)).trans (if_neg (by omega))
    have f1 := hF (k + 1 - mk) (by omega)
    have f2 := hF (k + 1) (by omega)
    have eB : B_X12_useOnce_3 n (L_X12_useOnce_3 n q) (mk : Int) ls ((k + 1 : Nat) : Int) m' = L_X12_useOnce_3 n q (mk : Int) ls (k : Int) (wr m' 18 (k + 1) (min (F (k + 1)) (F (k + 1 - mk) + ls))) := by
      have e23 : B_X12_useOnce_23 n (L_X12_useOnce_3 n q) (mk : Int) ls ((k + 1 : Nat) : Int) ((k + 1 - mk : Nat) : Int) m' = L_X12_useOnce_3 n q (mk : Int) ls (k : Int) (wr m' 18 (k + 1) (min (F (k + 1)) (F (k + 1 - mk) + ls))) := by
        unfold B_X12_useOnce_23
        simp only [zM18, Int.toNat_natCast, v1, v2]
        rw [chk_pos (by omega), chk_pos (by omega), chk_pos (by omega)]
        by_cases c1 : F (k + 1) ≤ F (k + 1 - mk) + ls
        · rw [if_pos c1, chk_pos (by omega), chk_pos (by omega), chk_pos (by omega), show ((k + 1 : Nat) : Int) + (-1) = (k : Int) by omega, Int.min_eq_left c1]
        · rw [if_neg c1, chk_pos (by omega), chk_pos (by omega), chk_pos (by omega), show ((k + 1 : Nat) : Int) + (-1) = (k : Int) by omega, Int.min_eq_right (by omega)]
      unfold B_X12_useOnce_3
      rw [if_neg (by omega)]
      by_cases c2 : ((k + 1 : Nat) : Int) ≤ (mk : Int)
      · rw [if_pos c2, ← e23, show k + 1 - mk = 0 by omega]
        rfl
      · rw [if_neg c2, chk_pos (by omega), ← e23, show ((k + 1 : Nat) : Int) - (mk : Int) = ((k + 1 - mk : Nat) : Int) by omega]
    show ∃ m2, B_X12_useOnce_3 n (L_X12_useOnce_3 n q) (mk : Int) ls ((k + 1 : Nat) : Int) m' = some (0, m2) ∧ M18 s (fun w => min (F w) (F (w - mk) + ls)) m2
    rw [eB]
    refine ih _ q (by omega) ⟨e1.wr rfl, fun w hw => ?_⟩ (by omega)
    show _ = if k < w then min (F w) (F (w - mk) + ls) else F w
    by_cases e : w = k + 1
    · subst e
      rw [wr_eq, if_pos (by omega)]
    · rw [wr_nk e]
      have : m' 18 w = if k + 1 < w then min (F w) (F (w - mk) + ls) else F w := e4 w hw
      by_cases e5 : k + 1 < w
      · rw [if_pos e5] at this
        rw [if_pos (by omega)]
        exact this
      · rw [if_neg e5] at this
        rw [if_neg (by omega)]
        exact this
theorem M18_ext {F G : Nat → Int} {m' : ZMem} (h : M18 s F m') (e : ∀ w, w ≤ 99 → F w = G w) : M18 s G m' := ⟨h.1, fun w hw => (h.2 w hw).trans (e w hw)⟩
theorem rep_loop (hw : WFs s) (hn : 10000 ≤ n) {i : Nat} (hi : (i : Int) < s 0 4) {L : Nat → Int} (hL : ∀ w, w ≤ 99 → 0 ≤ L w ∧ L w ≤ 99999) (r67 : Int → Int → Int → ZMem → ZR) (pt lack : Int) {T : Nat} (hT : T ≤ 99) : ∀ (d u : Nat) (m' : ZMem) (q : Nat), u + d = T → M18 s (gS L (s 8 (5 * i + 3)).toNat (s 8 (5 * i + 4)) u) m' → d < q → ∃ m2, L_X12_stead_101 n r67 q pt lack (i : Int) (T : Int) (u : Int) m' = r67 pt lack ((i + 1 : Nat) : Int) m2 ∧ M18 s (gS L (s 8 (5 * i + 3)).toNat (s 8 (5 * i + 4)) T) m2 := by
  intro d
  have h6 := hw.ns
  obtain ⟨-, -, -, a3, a4⟩ := hw.si i hi
  induction d with
  | zero =>
    intro u m' q h1 hM hq
    obtain ⟨q, rfl⟩ : ∃ z, q = z + 1 := ⟨q - 1, by omega⟩
    refine ⟨m', ?_, by rw [show T = u by omega]; exact hM⟩
    show B_X12_stead_101 n r67 (L_X12_stead_101 n r67 q) pt lack (i : Int) (T : Int) (u : Int) m' = _
    unfold B_X12_stead_101
    rw [if_pos (by omega), chk_pos (by omega), cast1]
  | succ d ih =>
    intro u m' q h1 hM hq
    obtain ⟨q, rfl⟩ : ∃ z, q = z + 1 := ⟨q - 1, by omega⟩
    have e83 : m' 8 (5 * i + 3) = s 8 (5 * i + 3) := hM.1 8 _ rfl
    have e84 : m' 8 (5 * i + 4) = s 8 (5 * i + 4) := hM.1 8 _ rfl
    obtain ⟨m2, e, hM2⟩ := once_loop (s := s) (n := n) (mk := (s 8 (5 * i + 3)).toNat) (by omega) a4 (F := gS L (s 8 (5 * i + 3)).toNat (s 8 (5 * i + 4)) u) (fun w hw => gS_bd a4.1 hL hw) 99 m' n (Nat.le_refl _) (M18_ext hM fun w hw => (if_neg (by omega)).symm) (by omega)
    rw [show (((s 8 (5 * i + 3)).toNat : Nat) : Int) = s 8 (5 * i + 3) by omega] at e
    have e' : F_X12_useOnce n (s 8 (5 * i + 3)) (s 8 (5 * i + 4)) m' = some (0, m2) := e
    show ∃ m2, B_X12_stead_101 n r67 (L_X12_stead_101 n r67 q) pt lack (i : Int) (T : Int) (u : Int) m' = r67 pt lack ((i + 1 : Nat) : Int) m2 ∧ M18 s (gS L (s 8 (5 * i + 3)).toNat (s 8 (5 * i + 4)) T) m2
    unfold B_X12_stead_101
    rw [zM8, show (5 * (i : Int) + 3).toNat = 5 * i + 3 by omega, show (5 * (i : Int) + 4).toNat = 5 * i + 4 by omega, e83, e84, if_neg (by omega), chk_pos (by omega), chk_pos (by omega), chk_pos (by omega), chk_pos (by omega), chk_pos (by omega), chk_pos (by omega), E_bnd e' rfl, chk_pos (by omega), cast1]
    refine ih (u + 1) m2 q (by omega) (M18_ext hM2 fun w hw => ?_) (by omega)
    have := g_add (L := L) (mk := (s 8 (5 * i + 3)).toNat) (ls := s 8 (5 * i + 4)) (t := u) (k := 1) (by omega) w
    rw [Nat.one_mul] at this
    rw [← this]
    simp
def TWS (x s : ZMem) (ox om : ZR) : Prop := ∃ r y' m2, ox = some (r, y') ∧ om = some (r, m2) ∧ AG kE x y' ∧ TB y' 52 100 1 ∧ AG k18 s m2
theorem ti_ag {m' : ZMem} (h : AG k18 s m') (i : Nat) : tiS m' i = tiS s i := by
  have e : ∀ r, r ≠ 18 → m' r = s r := fun r hr => funext fun j => h r j (by simp [k18, hr])
  unfold tiS takS
  rw [e 0 (by decide), e 1 (by decide), e 2 (by decide), e 4 (by decide), e 5 (by decide), e 8 (by decide)]
theorem stead_loop (h : XK x 1 s) (hw : WFs s) (hn : 10000 ≤ n) (pt : Int) {lack : Nat} (hl : lack ≤ 99) : ∀ (d i : Nat) (LX LM : Nat → Int) (y m' : ZMem) (q q' : Nat), (i : Int) + (d : Int) = s 0 4 → ET x lack LX y → M18 s LM m' → (∀ w, w ≤ lack → rlP (891 * (i : Int)) (LX w) (LM w)) → (∀ w, w ≤ 99 → 0 ≤ LM w ∧ LM w ≤ 99999) → d < q → d < q' → TWS x s (L_X7_leastLoss_44 n q pt (lack : Int) (i : Int) y) (L_X12_stead_67 n q' pt (lack : Int) (i : Int) m') := by
  intro d
  have h6 := hw.ns
  induction d with
  | zero =>
    intro i LX LM y m' q q' h1 hE hM hR hb hq hq'
    obtain ⟨q, rfl⟩ : ∃ z, q = z + 1 := ⟨q - 1, by omega⟩
    obtain ⟨q', rfl⟩ : ∃ z, q' = z + 1 := ⟨q' - 1, by omega⟩
    have hk := kE_xk h hE.1
    obtain ⟨e1, e2, e3, e4⟩ := hE
    have e04 : m' 0 4 = s 0 4 := hM.1 0 4 rfl
    have rl := hR lack (Nat.le_refl _)
    show TWS x s (B_X7_leastLoss_44 n (L_X7_leastLoss_44 n q) pt (lack : Int) (i : Int) y) (B_X12_stead_67 n (L_X12_stead_67 n q') pt (lack : Int) (i : Int) m')
    have eX : B_X7_leastLoss_44 n (L_X7_leastLoss_44 n q) pt (lack : Int) (i : Int) y = if LX lack < 1000000 then some (LX lack, y) else some (-9, y) := by
      unfold B_X7_leastLoss_44
      rw [E_bnd (X_size n 6 y) rfl, hk.s6, if_pos (by omega), E_bnd (X_at0 (i := lack) e2 (by omega)) rfl]
      show (if y 53 lack < 1000000 then some (y 53 lack, y) else some (-9, y)) = _
      rw [e4 lack (Nat.le_refl _)]
    have eM : B_X12_stead_67 n (L_X12_stead_67 n q') pt (lack : Int) (i : Int) m' = if 99999 ≤ LM lack then some (-9, m') else some (LM lack, m') := by
      unfold B_X12_stead_67
      rw [e04, if_pos (by omega), zM18, Int.toNat_natCast, chk_pos (by omega), chk_pos (by omega), hM.2 lack hl]
    rw [eX, eM]
    rcases rl with ⟨a, b⟩ | ⟨a, b1, b2⟩
    · rw [if_neg (by omega), if_pos (by omega)]
      exact ⟨-9, y, m', rfl, rfl, e1, e2, hM.1⟩
    · rw [if_pos (by omega), if_neg (by omega), a]
      exact ⟨_, y, m', rfl, rfl, e1, e2, hM.1⟩
  | succ d ih =>
    intro i LX LM y m' q q' h1 hE hM hR hb hq hq'
    obtain ⟨q, rfl⟩ : ∃ z, q = z + 1 := ⟨q - 1, by omega⟩
    obtain ⟨q', rfl⟩ : ∃ z, q' = z + 1 := ⟨q' - 1, by omega⟩
    have hk := kE_xk h hE.1
    have hi : (i : Int) < s 0 4 := by omega
    have e04 : m' 0 4 = s 0 4 := hM.1 0 4 rfl
    have e80 : m' 8 (5 * i) = s 8 (5 * i) := hM.1 8 _ rfl
    have ti := ti_bd hw hi
    have hw' : WFs m' := WFs_fr hw (hM.1.sub (by
      intro a b hab
      simp only [kMk, k18, decide_eq_true_eq] at hab ⊢
      rintro rfl
      simp at hab))
    obtain ⟨-, -, -, a3, a4⟩ := hw.si i hi
    have LXb : ∀ w, w ≤ lack → 0 ≤ LX w ∧ LX w ≤ 1000000 := fun w hw => by
      rcases hR w hw with ⟨a, b⟩ | ⟨a, b1, b2⟩ <;> omega
    have eX0 : F_X9_at n 6 (i : Int) 0 y = some (s 8 (5 * i), y) := X_s6 (k := 0) hk hi (by decide)
    show TWS x s (B_X7_leastLoss_44 n (L_X7_leastLoss_44 n q) pt (lack : Int) (i : Int) y) (B_X12_stead_67 n (L_X12_stead_67 n q') pt (lack : Int) (i : Int) m')
    unfold B_X7_leastLoss_44 B_X12_stead_67
    rw [E_bnd (X_size n 6 y) rfl, hk.s6, if_neg (by omega), e04, if_neg (by omega), E_bnd eX0 rfl, zM8, show (5 * (i : Int)).toNat = 5 * i by omega, e80, chk_pos (by omega), chk_pos (by omega)]
    by_cases c1 : s 8 (5 * i) = pt
    · have eT : F_X12_timesOf n (i : Int) m' = some (tiS s i, m') := by
        have := M_times (n := n) hw' (i := i) (by omega)
        rw [ti_ag hM.1] at this
        exact this
      rw [if_pos c1, if_pos c1, E_bnd eT rfl]
      obtain ⟨y', ey, hE'⟩ := X_letStandIn (n := n) h hw hn hl hi LXb hE
      obtain ⟨m2, em, hM'⟩ := rep_loop (n := n) hw hn hi hb (L_X12_stead_67 n q') pt (lack : Int) (T := (tiS s i).toNat) (by omega) (tiS s i).toNat 0 m' n (by omega) hM (by omega)
      rw [show (((tiS s i).toNat : Nat) : Int) = tiS s i by omega] at em
      have em' : L_X12_stead_101 n (L_X12_stead_67 n q') n pt (lack : Int) (i : Int) (tiS s i) 0 m' = _ := em
      rw [E_bnd ey rfl, chk_pos (by omega), cast1, em']
      have mb := mul_bd (a := (((tiS s i).toNat : Nat) : Int)) (b := s 8 (5 * i + 4)) (A := 99) (B := 9) (by omega) (by omega) a4.1 a4.2
      rw [chk_pos (show (0 : Int) ≤ 5 * (i : Int) ∧ 5 * (i : Int) < 30 by omega)]
      refine ih (i + 1) _ _ y' m2 q q' (by omega) hE' hM' (fun w hw => RL_mono (gS_RL a4.1 (by omega) hR _ (by omega) w hw) (by omega)) (fun w hw => gS_bd a4.1 hb hw) (by omega) (by omega)
    · rw [if_neg c1, if_neg c1, chk_pos (by omega), cast1]
      obtain ⟨m2, em, hM'⟩ := rep_loop (n := n) hw hn hi hb (L_X12_stead_67 n q') pt (lack : Int) (T := 0) (by omega) 0 0 m' n (by omega) hM (by omega)
      have em' : L_X12_stead_101 n (L_X12_stead_67 n q') n pt (lack : Int) (i : Int) 0 0 m' = _ := em
      rw [em']
      exact ih (i + 1) LX LM y m2 q q' (by omega) hE hM' (fun w hw => RL_mono (hR w hw) (by omega)) hb (by omega) (by omega)
theorem stead_clear (hw : WFs s) (pt lack : Int) : ∀ (d k : Nat) (m1 : ZMem) (q : Nat), k + d = 100 → AG k18 s m1 → (∀ o, o < k → m1 18 o = if o = 0 then 0 else 99999) → d < q → ∃ m', L_X12_stead_36 n q pt lack (k : Int) m1 = L_X12_stead_67 n n pt lack 0 m' ∧ M18 s (fun w => if w = 0 then 0 else 99999) m' := by
  intro d
  induction d with
  | zero =>
    intro k m1 q h1 h2 hi hq
    obtain ⟨q, rfl⟩ : ∃ z, q = z + 1 := ⟨q - 1, by omega⟩
    refine ⟨m1, ?_, h2, fun w hw => hi w (by omega)⟩
    show B_X12_stead_36 n (L_X12_stead_36 n q) pt lack (k : Int) m1 = _
    unfold B_X12_stead_36
    rw [if_pos (by omega)]
  | succ d ih =>
    intro k m1 q h1 h2 hi hq
    obtain ⟨q, rfl⟩ : ∃ z, q = z + 1 := ⟨q - 1, by omega⟩
    show ∃ m', B_X12_stead_36 n (L_X12_stead_36 n q) pt lack (k : Int) m1 = L_X12_stead_67 n n pt lack 0 m' ∧ M18 s (fun w => if w = 0 then 0 else 99999) m'
    unfold B_X12_stead_36
    rw [if_neg (by omega), zM18, Int.toNat_natCast]
    have go : ∀ v : Int, v = (if k = 0 then 0 else 99999) → ∃ m', chk (0 ≤ (k : Int) ∧ (k : Int) < 100) (chk (R32 ((k : Int) + 1)) (L_X12_stead_36 n q pt lack ((k : Int) + 1) (wr m1 18 k v))) = L_X12_stead_67 n n pt lack 0 m' ∧ M18 s (fun w => if w = 0 then 0 else 99999) m' := by
      intro v hv
      rw [chk_pos (by omega), chk_pos (by omega), cast1]
      refine ih (k + 1) _ q (by omega) (h2.wr rfl) (fun o ho => ?_) (by omega)
      by_cases e : o = k
      · rw [e, wr_eq, hv]
      · rw [wr_nk e]
        exact hi o (by omega)
    by_cases c1 : (k : Int) = 0
    · rw [if_pos c1]
      exact go 0 (by rw [if_pos (by omega)])
    · rw [if_neg c1]
      exact go 99999 (by rw [if_neg (by omega)])
theorem op_stead (h : CP c x m) (hc : c ≤ 1000) (hn : 10000 ≤ n) (a : Int) : SIM c (F_X11_stead n a x) (F_X12_stead n a m) := by
  have hw := WFs_t h.k.2
  have hk := XK_t (k := 1) h.k.1
  have b1 := npS_bd (m 0 2) a
  unfold F_X11_stead F_X12_stead
  by_cases hp : 0 ≤ a ∧ a < m 0 2
  · obtain ⟨p, rfl⟩ : ∃ p : Nat, a = (p : Int) := ⟨a.toNat, by omega⟩
    have hp2 : (p : Int) < wr m 0 16 0 0 2 := hp.2
    have hg := hw.g
    rw [E_bnd (X_noPart h.k n _) rfl, npS_t hp, E_bnd (X_noto rfl) rfl, if_pos rfl, bnd_id, E_bnd (M_part_t hw hp) rfl, if_neg (by decide), E_bnd (M_lackOf hw hp2) rfl]
    have lb := lack_bd hw hp2 hg
    have eL : F_X7_wholesLacking n (p : Int) (x 1 1) x = some (lackS (wr m 0 16 0) p (wr m 0 16 0 0 1), x) := by
      rw [hk.gu]
      exact X_lack hk hw hp2 hg
    unfold F_X7_leastLoss
    rw [E_bnd eL rfl]
    have hT := h.s.2.1
    by_cases c1 : lackS (wr m 0 16 0) p (wr m 0 16 0 0 1) ≤ 99
    · rw [if_pos c1, if_pos c1, chk_pos (by omega)]
      obtain ⟨lack, hl⟩ : ∃ l : Nat, lackS (wr m 0 16 0) p (wr m 0 16 0 0 1) = (l : Int) := ⟨(lackS (wr m 0 16 0) p (wr m 0 16 0 0 1)).toNat, by omega⟩
      rw [hl]
      rw [E_bnd (X_reset (n := n) (v := 1000000) hT hn (l := lack + 1) (by omega) (a := (lack : Int) + 1) (cast1 lack)) rfl]
      have t1 : TB (rsT (wr x 52 3 ((lack + 1 : Nat) : Int)) 52 1000000 ((lack + 1) * 1)) 52 100 1 := TB_sz hT (by rw [rsT_t, wr_nk (by decide)]) (by rw [rsT_t, wr_nk (by decide)]) (by rw [rsT_t, wr_eq]; omega)
      have t2 : rsT (wr x 52 3 ((lack + 1 : Nat) : Int)) 52 1000000 ((lack + 1) * 1) 52 3 = (lack : Int) + 1 := by rw [rsT_t, wr_eq]; omega
      have ep : F_X9_put n 52 0 0 0 (rsT (wr x 52 3 ((lack + 1 : Nat) : Int)) 52 1000000 ((lack + 1) * 1)) = some (0, wr (rsT (wr x 52 3 ((lack + 1 : Nat) : Int)) 52 1000000 ((lack + 1) * 1)) 53 0 0) := X_put0 (i := 0) t1 (by omega)
      rw [E_bnd ep rfl]
      have hE : ET x lack (fun w => if w = 0 then 0 else 1000000) (wr (rsT (wr x 52 3 ((lack + 1 : Nat) : Int)) 52 1000000 ((lack + 1) * 1)) 53 0 0) := by
        refine ⟨((AG.rf.wr rfl).rs (fun _ => rfl)).wr rfl, TB_fr t1 (wr_nr (by decide)) (wr_nr (by decide)) (wr_nr (by decide)), by rw [wr_nr (by decide)]; exact t2, fun w hw => ?_⟩
        show _ = if w = 0 then (0 : Int) else 1000000
        by_cases e : w = 0
        · subst e
          rw [wr_eq]
          rfl
        · rw [wr_nk e, if_neg e]
          show (if 53 = 52 + 1 ∧ w < (lack + 1) * 1 then _ else _) = _
          rw [if_pos ⟨rfl, by omega⟩]
      obtain ⟨m', em, hM⟩ := stead_clear (n := n) hw (p : Int) (lack : Int) 100 0 (wr m 0 16 0) n (by decide) AG.rf (fun o ho => by omega) (by omega)
      have em' : L_X12_stead_36 n n (p : Int) (lack : Int) 0 (wr m 0 16 0) = _ := em
      rw [em']
      obtain ⟨r, y, m2, r1, r2, i1, i2, i3⟩ := stead_loop (n := n) hk hw hn (p : Int) (lack := lack) (by omega) (wr m 0 16 0 0 4).toNat 0 _ _ _ m' n n (by have := hw.ns; omega) hE hM (fun w hw => by
        by_cases e : w = 0
        · exact Or.inr (by rw [if_pos e, if_pos e]; decide)
        · exact Or.inl (by rw [if_neg e, if_neg e]; decide)) (fun w hw => by split <;> decide) (by have := hw.ns; omega) (by have := hw.ns; omega)
      refine ⟨r, y, m2, r1, r2, ?_⟩
      refine CP_same h (i1.sub (by intro i j hij; simp only [kXa, kXl, kXr, kXe, kXf, kXt, kE, Bool.or_eq_true, Bool.and_eq_true, decide_eq_true_eq, Bool.not_eq_true', Bool.and_eq_false_iff, decide_eq_false_iff_not] at hij ⊢; omega)) ?_ (AG.tr (AG.rf.wr rfl) (i3.sub (by
        intro i j hij
        simp only [k18, decide_eq_true_eq]
        rintro rfl
        cases hij)))
      obtain ⟨t1, t2, t3, t4, t5, t6⟩ := h.s
      exact ⟨TB_fr t1 (i1 _ _ rfl) (i1 _ _ rfl) (i1 _ _ rfl), i2, TB_fr t3 (i1 _ _ rfl) (i1 _ _ rfl) (i1 _ _ rfl), TB_fr t4 (i1 _ _ rfl) (i1 _ _ rfl) (i1 _ _ rfl), TB_fr t5 (i1 _ _ rfl) (i1 _ _ rfl) (i1 _ _ rfl), TB_fr t6 (i1 _ _ rfl) (i1 _ _ rfl) (i1 _ _ rfl)⟩
    · rw [if_neg c1, if_neg c1]
      exact ⟨-9, x, wr m 0 16 0, rfl, rfl, CP_thrown h⟩
  · refine SIM_ref h (r := -1) (by decide) ?_ ?_
    · rw [E_bnd (X_noPart h.k n _) rfl, npS_f hp, E_bnd (X_refo h.f hc (by decide) (by decide)) rfl, if_neg (by decide)]
    · rw [E_bnd (M_part_f hw hp) rfl, if_pos rfl]
      exact E_bnd (M_ref h hc (by decide)) rfl
end ZOP23
