/-! REFUSALS on both sides -/
def npS (np a : Int) : Int := if 0 ≤ a ∧ a < np then 0 else -1
def ncS (w last : Int) : Int := if 0 ≤ w ∧ w ≤ last then 0 else -2
def outS (lo hi v : Int) : Int := if v < lo then -4 else if hi < v then -6 else 0
def eiS (lo hi a b : Int) : Int := if a < lo ∨ b < lo then -4 else if hi < a ∨ hi < b then -6 else 0
def rmS (sz room : Int) : Int := if sz < room then 0 else -6
def refS (a b c : Int) : Int := if a = 0 then (if b = 0 then c else b) else a
def rfX (x : ZMem) (r : Int) : ZMem := wr x 50 (-r).toNat (x 50 (-r).toNat + 1)
def rfM (m : ZMem) (r : Int) : ZMem := wr m 10 (-r).toNat (m 10 (-r).toNat + 1)
theorem npS_bd (a b : Int) : -6 ≤ npS a b ∧ npS a b ≤ 0 := by unfold npS; split <;> omega
theorem ncS_bd (a b : Int) : -6 ≤ ncS a b ∧ ncS a b ≤ 0 := by unfold ncS; split <;> omega
theorem outS_bd (a b c : Int) : -6 ≤ outS a b c ∧ outS a b c ≤ 0 := by unfold outS; split <;> (try split) <;> omega
theorem eiS_bd (a b c d : Int) : -6 ≤ eiS a b c d ∧ eiS a b c d ≤ 0 := by unfold eiS; split <;> (try split) <;> omega
theorem rmS_bd (a b : Int) : -6 ≤ rmS a b ∧ rmS a b ≤ 0 := by unfold rmS; split <;> omega
section ZREF
variable {c n : Nat} {x m : ZMem}
theorem X_ref1 (hf : CPf c x m) (hc : c ≤ 1000) {w : Int} (hw : -6 ≤ w ∧ w ≤ -1) : ∃ k : Nat, -w = (k : Int) ∧ 1 ≤ k ∧ k ≤ 6 ∧ F_X9_at n 49 (-w) 0 x = some (x 50 k, x) ∧ (0 ≤ x 50 k ∧ x 50 k ≤ 1000) ∧ F_X9_put n 49 (-w) 0 (x 50 k + 1) x = some (0, rfX x w) := by
  obtain ⟨h1, h2, h3⟩ := hf
  refine ⟨(-w).toNat, by omega, by omega, by omega, ?_, ?_, ?_⟩
  · have := X_at0 (n := n) (i := (-w).toNat) h1 (by omega)
    rw [show ((-w).toNat : Int) = -w by omega] at this
    exact this
  · have := h3 (-w).toNat (by omega) (by omega)
    omega
  · have := X_put0 (n := n) (i := (-w).toNat) (v := x 50 (-w).toNat + 1) h1 (by omega)
    rw [show ((-w).toNat : Int) = -w by omega] at this
    exact this
theorem X_refused (hf : CPf c x m) (hc : c ≤ 1000) {a b d r : Int} (ha : -6 ≤ a ∧ a ≤ 0) (hb : -6 ≤ b ∧ b ≤ 0) (hd : -6 ≤ d ∧ d ≤ 0) (hr : refS a b d = r) (h0 : r ≠ 0) : F_X11_refused n a b d x = some (r, rfX x r) := by
  unfold refS at hr
  unfold F_X11_refused
  refine E_ite (fun c1 => E_ite (fun c2 => E_ite (fun c3 => ?_) (fun c3 => ?_)) (fun c2 => ?_)) (fun c1 => ?_)
  · rw [if_pos c1, if_pos c2] at hr
    omega
  · rw [if_pos c1, if_pos c2] at hr
    subst hr
    obtain ⟨k, hk, k1, k2, e1, e2, e3⟩ := X_ref1 (n := n) hf hc (w := d) (by omega)
    exact E_chk (by omega) (E_chk (by omega) (E_bnd e1 (E_chk (by omega) (E_bnd e3 rfl))))
  · rw [if_pos c1, if_neg c2] at hr
    subst hr
    rw [if_neg c2]
    obtain ⟨k, hk, k1, k2, e1, e2, e3⟩ := X_ref1 (n := n) hf hc (w := b) (by omega)
    exact E_chk (by omega) (E_chk (by omega) (E_bnd e1 (E_chk (by omega) (E_bnd e3 rfl))))
  · rw [if_neg c1] at hr
    subst hr
    rw [if_neg c1]
    obtain ⟨k, hk, k1, k2, e1, e2, e3⟩ := X_ref1 (n := n) hf hc (w := a) (by omega)
    exact E_chk (by omega) (E_chk (by omega) (E_bnd e1 (E_chk (by omega) (E_bnd e3 rfl))))
theorem X_notRef {a b d : Int} (hr : refS a b d = 0) (ha : -6 ≤ a ∧ a ≤ 0) : F_X11_refused n a b d x = some (0, x) := by
  unfold refS at hr
  unfold F_X11_refused
  refine E_ite (fun c1 => E_ite (fun c2 => E_ite (fun c3 => ?_) (fun c3 => ?_)) (fun c2 => ?_)) (fun c1 => ?_)
  · rw [c3]
  · rw [if_pos c1, if_pos c2] at hr
    exact absurd hr c3
  · rw [if_pos c1, if_neg c2] at hr
    exact absurd hr c2
  · rw [if_neg c1] at hr
    exact absurd hr c1
theorem X_ref2 (hf : CPf c x m) (hc : c ≤ 1000) {a b r : Int} (ha : -6 ≤ a ∧ a ≤ 0) (hb : -6 ≤ b ∧ b ≤ 0) (hr : refS a b 0 = r) (h0 : r ≠ 0) : F_X11_refused_ n a b x = some (r, rfX x r) := by
  unfold F_X11_refused_
  exact E_bnd (X_refused hf hc ha hb (by decide) hr h0) rfl
theorem X_not2 {a b : Int} (hr : refS a b 0 = 0) (ha : -6 ≤ a ∧ a ≤ 0) : F_X11_refused_ n a b x = some (0, x) := by
  unfold F_X11_refused_
  exact E_bnd (X_notRef hr ha) rfl
theorem X_refo (hf : CPf c x m) (hc : c ≤ 1000) {a : Int} (ha : -6 ≤ a ∧ a ≤ 0) (h0 : a ≠ 0) : F_X11_refused__ n a x = some (a, rfX x a) := by
  unfold F_X11_refused__
  exact E_bnd (X_refused hf hc ha (by decide) (by decide) (by unfold refS; rw [if_neg h0]) h0) rfl
theorem X_noto {a : Int} (h0 : a = 0) : F_X11_refused__ n a x = some (0, x) := by
  unfold F_X11_refused__
  exact E_bnd (X_notRef (by unfold refS; rw [if_pos h0]; rfl) (by omega)) rfl
theorem X_either (n : Nat) (x : ZMem) (lo hi a b : Int) : F_X11_either n lo hi a b x = some (eiS lo hi a b, x) := by
  unfold F_X11_either eiS
  refine E_ite (fun h => E_ite (fun h2 => ?_) (fun h2 => ?_)) (fun h => ?_)
  · rw [if_neg (by omega), if_neg (by omega)]
  · rw [if_neg (by omega), if_pos (by omega)]
  · rw [if_pos (by omega)]
theorem X_outside (n : Nat) (x : ZMem) (lo hi v : Int) : F_X11_outside n lo hi v x = some (outS lo hi v, x) := by
  unfold F_X11_outside
  refine E_bnd (X_either _ _ _ _ _ _) (E_some ?_ rfl)
  unfold eiS outS
  (repeat' split) <;> omega
def eaS (hi a b d : Int) : Int := if a < 0 ∨ b < 0 ∨ d < 0 then -4 else if hi < a ∨ hi < b ∨ hi < d then -6 else 0
theorem eaS_bd (a b c d : Int) : -6 ≤ eaS a b c d ∧ eaS a b c d ≤ 0 := by unfold eaS; split <;> (try split) <;> omega
theorem X_each (n : Nat) (x : ZMem) (hi a b d : Int) : F_X11_each n hi a b d x = some (eaS hi a b d, x) := by
  unfold F_X11_each
  refine E_bnd (X_either _ _ _ _ _ _) (E_some ?_ rfl)
  unfold eiS eaS
  (repeat' split) <;> omega
theorem X_noChoice (n : Nat) (x : ZMem) (w last : Int) : F_X11_noChoice n w last x = some (ncS w last, x) := by
  unfold F_X11_noChoice ncS
  refine E_ite (fun h => ?_) (fun h => E_ite (fun h2 => ?_) (fun h2 => ?_))
  · rw [if_neg (by omega)]
  · rw [if_pos (by omega)]
  · rw [if_neg (by omega)]
theorem X_noSuch (n t : Nat) (x : ZMem) (a : Int) : F_X11_noSuch n t a x = some (npS (x t 3) a, x) := by
  unfold F_X11_noSuch npS
  refine E_bnd X_has ?_
  by_cases h : 0 ≤ a ∧ a < x t 3
  · rw [if_pos h, if_neg (by decide), if_pos h]
  · rw [if_neg h, if_pos (by decide), if_neg h]
theorem X_noRoom (n t : Nat) (x : ZMem) : F_X11_noRoom n t x = some (rmS (x t 3) (x t 1), x) := by
  unfold F_X11_noRoom rmS
  refine E_bnd X_full ?_
  by_cases h : x t 3 < x t 1
  · rw [if_pos h, if_pos (by decide), if_pos h]
  · rw [if_neg h, if_neg (by decide), if_neg h]
theorem X_noPart (h : CPk x m) (n : Nat) (a : Int) : F_X11_noPart n a x = some (npS (m 0 2) a, x) := by
  unfold F_X11_noPart
  have := X_noSuch n 2 x a
  rw [h.1.s2] at this
  exact E_bnd this rfl
theorem CPf_ref (h : CPf c x m) {r : Int} (hr : -6 ≤ r ∧ r ≤ -1) : CPf (c + 1) (rfX x r) (rfM (wr m 0 16 0) r) := by
  obtain ⟨h1, h2, h3⟩ := h
  refine ⟨TB_fr h1 (by simp [rfX, wr]) (by simp [rfX, wr]) (by simp [rfX, wr]), by simp [rfX, wr]; exact h2, fun k a b => ?_⟩
  have hk := h3 k a b
  have hj := h3 (-r).toNat (by omega) (by omega)
  have e : ∀ q, wr m 0 16 0 10 q = m 10 q := fun q => by simp [wr]
  show (if 50 = 50 ∧ k = (-r).toNat then _ else x 50 k) = (if 10 = 10 ∧ k = (-r).toNat then _ else wr m 0 16 0 10 k) ∧ (0 ≤ (if 10 = 10 ∧ k = (-r).toNat then _ else wr m 0 16 0 10 k) ∧ (if 10 = 10 ∧ k = (-r).toNat then _ else wr m 0 16 0 10 k) ≤ _)
  rw [e, e]
  by_cases hc : k = (-r).toNat
  · rw [if_pos ⟨rfl, hc⟩, if_pos ⟨rfl, hc⟩]
    omega
  · rw [if_neg (fun z => hc z.2), if_neg (fun z => hc z.2)]
    omega
theorem CP_ref (h : CP c x m) {r : Int} (hr : -6 ≤ r ∧ r ≤ -1) : CP (c + 1) (rfX x r) (rfM (wr m 0 16 0) r) := by
  refine ⟨CPk_fr h.k (AG.rf.wr rfl) ((AG.rf.wr rfl).wr rfl), CPi_fr h.i (AG.rf.wr rfl) ((AG.rf.wr rfl).wr rfl), CPt_fr h.t (AG.rf.wr rfl), CPl_fr h.l (AG.rf.wr rfl) ((AG.rf.wr rfl).wr rfl), CPr_fr h.r (AG.rf.wr rfl) ((AG.rf.wr rfl).wr rfl), CPe_fr h.e (AG.rf.wr rfl) ((AG.rf.wr rfl).wr rfl), CPf_ref h.f hr, CPs_fr h.s (AG.rf.wr rfl)⟩
/-- the reference's refusal, 'thrown' put to 0 before -/
theorem M_ref (h : CP c x m) (hc : c ≤ 1000) {r : Int} (hr : -6 ≤ r ∧ r ≤ -1) : F_X12_refuse n r (wr m 0 16 0) = some (r, rfM (wr m 0 16 0) r) := by
  have hk := h.f.2.2 (-r).toNat (by omega) (by omega)
  exact M_refuse (-r).toNat (by omega) (by omega) (by show 0 ≤ wr m 0 16 0 10 _ ∧ wr m 0 16 0 10 _ ≤ 100000; simp only [wr]; rw [if_neg (by omega)]; omega)
/-- both sides answer the same, the coupling goes on -/
def SIM (c : Nat) (fx fm : ZR) : Prop := ∃ r x' m', fx = some (r, x') ∧ fm = some (r, m') ∧ CP (c + 1) x' m'
theorem SIM_ref (h : CP c x m) {r : Int} (hr : -6 ≤ r ∧ r ≤ -1) {fx fm : ZR} (hx : fx = some (r, rfX x r)) (hm : fm = some (r, rfM (wr m 0 16 0) r)) : SIM c fx fm := ⟨r, _, _, hx, hm, CP_ref h hr⟩
theorem SIM_read (h : CP c x m) {r : Int} {m' : ZMem} (hk : AG kMa m m') {fx fm : ZR} (hx : fx = some (r, x)) (hm : fm = some (r, m')) : SIM c fx fm := ⟨r, _, _, hx, hm, CP_read h hk⟩
/-- the state with 'thrown' 0 is coupled as well (the same count) -/
theorem WFs_t (h : WFs m) : WFs (wr m 0 16 0) := WFs_fr h (AG.rf.wr rfl)
theorem XK_t {k : Nat} (h : XK x k m) : XK x k (wr m 0 16 0) := XK_fr h (fun _ _ _ _ => rfl) (AG.rf.wr rfl)
theorem wr_ne {i k a b : Nat} {v : Int} (h : a ≠ i ∨ b ≠ k) : wr m i k v a b = m a b := by
  show (if a = i ∧ b = k then v else m a b) = m a b
  rw [if_neg (by omega)]
theorem wr_eq {i k : Nat} {v : Int} : wr m i k v i k = v := by
  show (if i = i ∧ k = k then v else m i k) = v
  rw [if_pos ⟨rfl, rfl⟩]
theorem M_part_t (h : WFs m) {p : Int} (hp : 0 ≤ p ∧ p < m 0 2) : F_X12_isPart n p m = some (1, m) := by
  have := M_isPart (n := n) (a := p) h.np
  rw [if_pos hp] at this
  exact this
theorem M_part_f (h : WFs m) {p : Int} (hp : ¬ (0 ≤ p ∧ p < m 0 2)) : F_X12_isPart n p m = some (0, m) := by
  have := M_isPart (n := n) (a := p) h.np
  rw [if_neg hp] at this
  exact this
theorem M_in_t {a lo hi : Int} (hp : lo ≤ a ∧ a ≤ hi) : F_X12_in n a lo hi m = some (1, m) := by rw [M_in, if_pos hp]
theorem M_in_f {a lo hi : Int} (hp : ¬ (lo ≤ a ∧ a ≤ hi)) : F_X12_in n a lo hi m = some (0, m) := by rw [M_in, if_neg hp]
theorem M_wr4 {a lo hi : Int} (h : a < lo) : F_X12_wrongNumber n a lo hi m = some (-4, m) := by rw [M_wrong, if_pos h]
theorem M_wr6 {a lo hi : Int} (h : ¬ a < lo) (h2 : hi < a) : F_X12_wrongNumber n a lo hi m = some (-6, m) := by rw [M_wrong, if_neg h, if_pos h2]
theorem M_wr0 {a lo hi : Int} (h : ¬ a < lo) (h2 : ¬ hi < a) : F_X12_wrongNumber n a lo hi m = some (0, m) := by rw [M_wrong, if_neg h, if_neg h2]
end ZREF
