/-! THE SEARCH of the cups: what both sides reach -/
def un (c : Int) : Int := if c = 0 then 1 else if c = 1 then 13 else 169
def lvI (st c : Int) : Int := st / un c % 13
theorem un0 : un 0 = 1 := rfl
theorem un1 : un 1 = 13 := rfl
theorem un2 : un 2 = 169 := rfl
theorem un_bd (c : Int) : 1 ≤ un c ∧ un c ≤ 169 := by
  unfold un
  split
  · decide
  · split <;> decide
theorem lv_bd (st c : Int) : 0 ≤ lvI st c ∧ lvI st c ≤ 12 := by
  unfold lvI
  omega
def okL (s : ZMem) (st : Int) : Prop := lvI st 0 ≤ s 9 0 ∧ lvI st 1 ≤ s 9 1 ∧ lvI st 2 ≤ s 9 2
theorem okL_c {s : ZMem} {st : Int} (h : okL s st) {c : Nat} (hc : c < 3) : lvI st (c : Int) ≤ s 9 c := by
  have h3 : c = 0 ∨ c = 1 ∨ c = 2 := by omega
  rcases h3 with rfl | rfl | rfl
  · exact h.1
  · exact h.2.1
  · exact h.2.2
/-- visited states, counted -/
def visB (m : ZMem) (t : Nat) : Int := if 0 ≤ m 19 t then 1 else 0
def visS (m : ZMem) : Int := sumS (visB m) 2197
theorem sumS_up {f g : Nat → Int} {k i : Nat} (hi : i < k) (h : ∀ j, j < k → j ≠ i → g j = f j) : sumS g k = sumS f k + (g i - f i) := by
  induction k with
  | zero => omega
  | succ k ih =>
    show sumS g k + g k = sumS f k + f k + _
    by_cases e : i = k
    · subst e
      have : ∀ n, n ≤ i → sumS g n = sumS f n := by
        intro n
        induction n with
        | zero => intro _; rfl
        | succ n ihn =>
          intro hn
          show sumS g n + g n = sumS f n + f n
          rw [ihn (by omega), h n (by omega) (by omega)]
      rw [this i (Nat.le_refl _)]
      omega
    · rw [ih (by omega) (fun j hj hn => h j (by omega) hn), h k (by omega) (by omega)]
      omega
theorem visS_lt {m : ZMem} {t : Nat} (ht : t < 2197) (h : ¬ 0 ≤ m 19 t) : 0 ≤ visS m ∧ visS m ≤ 2196 := by
  have b : ∀ j, 0 ≤ visB m j ∧ visB m j ≤ 1 := fun j => by unfold visB; split <;> decide
  have e := sumS_up (f := visB m) (g := fun j => if j = t then 1 else visB m j) (k := 2197) ht (fun j _ hn => if_neg hn)
  have b1 := sumS_bd (f := fun j => if j = t then 1 else visB m j) (B := 1) (by decide) 2197 (fun j _ => by
    have := b j
    show 0 ≤ (if j = t then (1 : Int) else visB m j) ∧ (if j = t then (1 : Int) else visB m j) ≤ 1
    split <;> omega)
  have b2 := sumS_bd (f := visB m) (B := 1) (by decide) 2197 (fun j _ => b j)
  have e1 : (fun j => if j = t then (1 : Int) else visB m j) t = 1 := if_pos rfl
  have e2 : visB m t = 0 := by unfold visB; rw [if_neg h]
  rw [if_pos (rfl : t = t), e2] at e
  unfold visS
  omega
def kV (i j : Nat) : Bool := decide (i ≠ 56) && decide (i ≠ 58) && !(decide (i = 55) && decide (j = 3)) && !(decide (i = 57) && decide (j = 3))
def kP (i j : Nat) : Bool := decide (i ≠ 19) && decide (i ≠ 20) && decide (i ≠ 26) && decide (i ≠ 27) && !(decide (i = 0) && decide (j = 37))
/-- a visited state: how it was come to -/
def VS (b : Bool) (y m : ZMem) (t : Nat) : Prop := (t = 0 ∧ m 19 0 = 0 ∧ y 58 0 = 0) ∨ (t ≠ 0 ∧ ∃ bf : Nat, bf < 2197 ∧ y 58 (t * 2) = (bf : Int) ∧ 0 ≤ m 19 bf ∧ m 19 t = m 19 bf + 1 ∧ (b = true → m 26 t = (bf : Int) ∧ m 27 t = y 58 (t * 2 + 1)))
def BR (b : Bool) (x s y m : ZMem) : Prop :=
  (AG kV x y ∧ TB y 55 2197 1 ∧ TB y 57 2197 2 ∧ y 57 3 = 2197) ∧ AG kP s m ∧ (y 55 3 = m 0 37 ∧ m 0 37 = visS m) ∧
  (∀ j : Nat, (j : Int) < m 0 37 → y 56 j = m 20 j ∧ (0 ≤ m 20 j ∧ m 20 j < 2197) ∧ 0 ≤ m 19 (m 20 j).toNat) ∧
  (∀ t : Nat, t < 2197 → (m 19 t = -9 ∧ y 58 (t * 2) = -9) ∨ ((0 ≤ m 19 t ∧ m 19 t < m 0 37) ∧ okL s (t : Int) ∧ VS b y m t))
/-- what stays -/
def VM (m m' : ZMem) : Prop := (∀ t, t < 2197 → 0 ≤ m 19 t → m' 19 t = m 19 t) ∧ (∀ j : Nat, (j : Int) < m 0 37 → m' 20 j = m 20 j) ∧ m 0 37 ≤ m' 0 37
theorem VM.rf {m : ZMem} : VM m m := ⟨fun _ _ _ => rfl, fun _ _ => rfl, Int.le_refl _⟩
theorem VM.tr {m m' m'' : ZMem} (h : VM m m') (h' : VM m' m'') : VM m m'' :=
  ⟨fun t ht hv => by rw [h'.1 t ht (by rw [h.1 t ht hv]; exact hv)]; exact h.1 t ht hv, fun j hj => by rw [h'.2.1 j (by have := h.2.2; omega)]; exact h.2.1 j hj, Int.le_trans h.2.2 h'.2.2⟩
section ZSEA
variable {x s y m : ZMem} {n : Nat} {b : Bool}
theorem X_unit (c : Int) (y : ZMem) : F_X5_unit n c y = some (un c, y) := by
  unfold F_X5_unit un
  refine E_ite (fun e => ?_) (fun e => E_ite (fun e2 => ?_) (fun e2 => ?_))
  · rw [if_pos e]
  · rw [if_neg e, if_pos e2]
  · rw [if_neg e, if_neg e2]
theorem M_weightOf (c : Int) (y : ZMem) : F_X12_weightOf n c y = some (un c, y) := by
  unfold F_X12_weightOf un
  refine E_ite (fun e => ?_) (fun e => E_ite (fun e2 => ?_) (fun e2 => ?_))
  · rw [if_pos e]
  · rw [if_neg e, if_pos e2]
  · rw [if_neg e, if_neg e2]
theorem X_level {st c : Int} (hst : 0 ≤ st) (y : ZMem) : F_X5_levelOf n st c y = some (lvI st c, y) := by
  have u := un_bd c
  have d := div_bd (a := st) (b := un c) hst (by omega)
  unfold F_X5_levelOf
  refine E_bnd (X_unit c y) (E_bnd (X_cut hst u.1) (E_chk (by omega) rfl))
theorem M_inCup {st : Int} (hst : 0 ≤ st ∧ st < 2197) {c : Int} (hc : 0 ≤ c ∧ c ≤ 2) (y : ZMem) : F_X12_inCup n st c y = some (lvI st c, y) := by
  have h3 : c = 0 ∨ c = 1 ∨ c = 2 := by omega
  unfold F_X12_inCup lvI
  rcases h3 with rfl | rfl | rfl
  · rw [if_pos rfl, un0]
    exact E_chk (by omega) (E_some (by omega) rfl)
  · rw [if_neg (by decide), if_pos rfl, un1]
    exact E_chk (by omega) (E_chk (by omega) rfl)
  · rw [if_neg (by decide), if_neg (by decide), un2]
    exact E_chk (by omega) (E_some (by omega) rfl)
theorem lv_sum {st : Int} (hst : 0 ≤ st ∧ st < 2197) : st = lvI st 0 + 13 * lvI st 1 + 169 * lvI st 2 := by
  unfold lvI
  rw [un0, un1, un2]
  omega
theorem okL_mk {st l0 l1 l2 : Int} (e : st = l0 + 13 * l1 + 169 * l2) (h0 : 0 ≤ l0 ∧ l0 ≤ 12) (h1 : 0 ≤ l1 ∧ l1 ≤ 12) (h2 : 0 ≤ l2 ∧ l2 ≤ 12) (k0 : l0 ≤ s 9 0) (k1 : l1 ≤ s 9 1) (k2 : l2 ≤ s 9 2) : (0 ≤ st ∧ st < 2197) ∧ okL s st := by
  have e0 : lvI st 0 = l0 := by unfold lvI; rw [un0]; omega
  have e1 : lvI st 1 = l1 := by unfold lvI; rw [un1]; omega
  have e2 : lvI st 2 = l2 := by unfold lvI; rw [un2]; omega
  refine ⟨by omega, ?_⟩
  unfold okL
  rw [e0, e1, e2]
  exact ⟨k0, k1, k2⟩
theorem fill_ok (hw : WFs s) {st : Int} (hst : 0 ≤ st ∧ st < 2197) (h : okL s st) {c : Nat} (hc : c < 3) : (0 ≤ st - lvI st (c : Int) * un (c : Int) + s 9 c * un (c : Int) ∧ st - lvI st (c : Int) * un (c : Int) + s 9 c * un (c : Int) < 2197) ∧ okL s (st - lvI st (c : Int) * un (c : Int) + s 9 c * un (c : Int)) := by
  have c0 := hw.cu 0 (by decide)
  have c1 := hw.cu 1 (by decide)
  have c2 := hw.cu 2 (by decide)
  have h3 : c = 0 ∨ c = 1 ∨ c = 2 := by omega
  have v0 : ((0 : Nat) : Int) = 0 := rfl
  have v1 : ((1 : Nat) : Int) = 1 := rfl
  have v2 : ((2 : Nat) : Int) = 2 := rfl
  rcases h3 with rfl | rfl | rfl <;> simp only [okL, lvI, v0, v1, v2, un0, un1, un2] at h ⊢ <;> omega
theorem empty_ok (hw : WFs s) {st : Int} (hst : 0 ≤ st ∧ st < 2197) (h : okL s st) {c : Nat} (hc : c < 3) : (0 ≤ st - lvI st (c : Int) * un (c : Int) ∧ st - lvI st (c : Int) * un (c : Int) < 2197) ∧ okL s (st - lvI st (c : Int) * un (c : Int)) := by
  have c0 := hw.cu 0 (by decide)
  have c1 := hw.cu 1 (by decide)
  have c2 := hw.cu 2 (by decide)
  have h3 : c = 0 ∨ c = 1 ∨ c = 2 := by omega
  have v0 : ((0 : Nat) : Int) = 0 := rfl
  have v1 : ((1 : Nat) : Int) = 1 := rfl
  have v2 : ((2 : Nat) : Int) = 2 := rfl
  rcases h3 with rfl | rfl | rfl <;> simp only [okL, lvI, v0, v1, v2, un0, un1, un2] at h ⊢ <;> omega
theorem pour_ok (hw : WFs s) {st : Int} (hst : 0 ≤ st ∧ st < 2197) (h : okL s st) {c o : Nat} (hc : c < 3) (ho : o < 3) (hco : o ≠ c) {a : Int} (ha : 0 ≤ a) (h1 : a ≤ lvI st (c : Int)) (h2 : a ≤ s 9 o - lvI st (o : Int)) : (0 ≤ st - a * un (c : Int) + a * un (o : Int) ∧ st - a * un (c : Int) + a * un (o : Int) < 2197) ∧ okL s (st - a * un (c : Int) + a * un (o : Int)) := by
  have c0 := hw.cu 0 (by decide)
  have c1 := hw.cu 1 (by decide)
  have c2 := hw.cu 2 (by decide)
  have h3 : c = 0 ∨ c = 1 ∨ c = 2 := by omega
  have h4 : o = 0 ∨ o = 1 ∨ o = 2 := by omega
  have v0 : ((0 : Nat) : Int) = 0 := rfl
  have v1 : ((1 : Nat) : Int) = 1 := rfl
  have v2 : ((2 : Nat) : Int) = 2 := rfl
  obtain ⟨k0, k1, k2⟩ := h
  have b0 := lv_bd st 0
  have b1 := lv_bd st 1
  have b2 := lv_bd st 2
  have es := lv_sum hst
  rcases h3 with rfl | rfl | rfl <;> rcases h4 with rfl | rfl | rfl
  · exact absurd rfl hco
  · rw [v0] at h1
    rw [v1] at h2
    rw [v0, v1, un0, un1]
    exact okL_mk (l0 := (lvI st 0 - a)) (l1 := (lvI st 1 + a)) (l2 := lvI st 2) (by omega) (by omega) (by omega) (by omega) (by omega) (by omega) (by omega)
  · rw [v0] at h1
    rw [v2] at h2
    rw [v0, v2, un0, un2]
    exact okL_mk (l0 := (lvI st 0 - a)) (l1 := lvI st 1) (l2 := (lvI st 2 + a)) (by omega) (by omega) (by omega) (by omega) (by omega) (by omega) (by omega)
  · rw [v1] at h1
    rw [v0] at h2
    rw [v1, v0, un1, un0]
    exact okL_mk (l0 := (lvI st 0 + a)) (l1 := (lvI st 1 - a)) (l2 := lvI st 2) (by omega) (by omega) (by omega) (by omega) (by omega) (by omega) (by omega)
  · exact absurd rfl hco
  · rw [v1] at h1
    rw [v2] at h2
    rw [v1, v2, un1, un2]
    exact okL_mk (l0 := lvI st 0) (l1 := (lvI st 1 - a)) (l2 := (lvI st 2 + a)) (by omega) (by omega) (by omega) (by omega) (by omega) (by omega) (by omega)
  · rw [v2] at h1
    rw [v0] at h2
    rw [v2, v0, un2, un0]
    exact okL_mk (l0 := (lvI st 0 + a)) (l1 := lvI st 1) (l2 := (lvI st 2 - a)) (by omega) (by omega) (by omega) (by omega) (by omega) (by omega) (by omega)
  · rw [v2] at h1
    rw [v1] at h2
    rw [v2, v1, un2, un1]
    exact okL_mk (l0 := lvI st 0) (l1 := (lvI st 1 + a)) (l2 := (lvI st 2 - a)) (by omega) (by omega) (by omega) (by omega) (by omega) (by omega) (by omega)
  · exact absurd rfl hco
/-- the new state on both sides; k = what else the reference writes before -/
theorem BR_new (h : BR b x s y m) {t bf : Nat} (ht : t < 2197) (hbf : bf < 2197) (hv : 0 ≤ m 19 bf) (hn : ¬ 0 ≤ m 19 t) (hok : okL s (t : Int)) (sp : Int) (ht0 : t ≠ 0) {m1 : ZMem} (hm1 : AG kP s m1) (h19 : ∀ j, m1 19 j = m 19 j) (h20 : ∀ j, m1 20 j = m 20 j) (h37 : m1 0 37 = m 0 37) (h26 : ∀ j, j ≠ t → m1 26 j = m 26 j ∧ m1 27 j = m 27 j) (hb : b = true → m1 26 t = (bf : Int) ∧ m1 27 t = sp) : BR b x s (addT (wr (wr y 58 (t * 2 + 0) (bf : Int)) 58 (t * 2 + 1) sp) 55 1 (t : Int)) (wr (wr (wr m1 19 t (m 19 bf + 1)) 20 (m 0 37).toNat (t : Int)) 0 37 (m 0 37 + 1)) ∧ VM m (wr (wr (wr m1 19 t (m 19 bf + 1)) 20 (m 0 37).toNat (t : Int)) 0 37 (m 0 37 + 1)) := by
  obtain ⟨⟨a1, a2, a3, a4⟩, a5, ⟨a6, a7⟩, a8, a9⟩ := h
  have vc := visS_lt ht hn
  rw [← a7] at vc
  have bbf := a9 bf hbf
  have bt : bf ≠ t := by rintro rfl; exact hn hv
  have y55 : ∀ j, wr (wr y 58 (t * 2 + 0) (bf : Int)) 58 (t * 2 + 1) sp 55 j = y 55 j := fun j => by rw [wr_nr (by decide), wr_nr (by decide)]
  have hT' : TB (wr (wr y 58 (t * 2 + 0) (bf : Int)) 58 (t * 2 + 1) sp) 55 2197 1 := TB_fr a2 (y55 _) (y55 _) (y55 _)
  have n19 : ∀ j, wr (wr (wr m1 19 t (m 19 bf + 1)) 20 (m 0 37).toNat (t : Int)) 0 37 (m 0 37 + 1) 19 j = if j = t then m 19 bf + 1 else m 19 j := by
    intro j
    rw [wr_nr (by decide), wr_nr (by decide)]
    by_cases e : j = t
    · rw [e, wr_eq, if_pos rfl]
    · rw [wr_nk e, if_neg e, h19]
  have n20 : ∀ j, wr (wr (wr m1 19 t (m 19 bf + 1)) 20 (m 0 37).toNat (t : Int)) 0 37 (m 0 37 + 1) 20 j = if j = (m 0 37).toNat then (t : Int) else m 20 j := by
    intro j
    rw [wr_nr (by decide)]
    by_cases e : j = (m 0 37).toNat
    · rw [e, wr_eq, if_pos rfl]
    · rw [wr_nk e, if_neg e, wr_nr (by decide), h20]
  have n37 : wr (wr (wr m1 19 t (m 19 bf + 1)) 20 (m 0 37).toNat (t : Int)) 0 37 (m 0 37 + 1) 0 37 = m 0 37 + 1 := wr_eq
  have n26 : ∀ j, wr (wr (wr m1 19 t (m 19 bf + 1)) 20 (m 0 37).toNat (t : Int)) 0 37 (m 0 37 + 1) 26 j = m1 26 j := fun j => by rw [wr_nr (by decide), wr_nr (by decide), wr_nr (by decide)]
  have n27 : ∀ j, wr (wr (wr m1 19 t (m 19 bf + 1)) 20 (m 0 37).toNat (t : Int)) 0 37 (m 0 37 + 1) 27 j = m1 27 j := fun j => by rw [wr_nr (by decide), wr_nr (by decide), wr_nr (by decide)]
  have amm : AG kP s (wr (wr (wr m1 19 t (m 19 bf + 1)) 20 (m 0 37).toNat (t : Int)) 0 37 (m 0 37 + 1)) := ((hm1.wr rfl).wr rfl).wr rfl
  generalize hM : wr (wr (wr m1 19 t (m 19 bf + 1)) 20 (m 0 37).toNat (t : Int)) 0 37 (m 0 37 + 1) = M at n19 n20 n37 n26 n27 amm ⊢
  have z58 : ∀ j, addT (wr (wr y 58 (t * 2 + 0) (bf : Int)) 58 (t * 2 + 1) sp) 55 1 (t : Int) 58 j = if j = t * 2 + 1 then sp else if j = t * 2 then (bf : Int) else y 58 j := by
    intro j
    have e1 : addT (wr (wr y 58 (t * 2 + 0) (bf : Int)) 58 (t * 2 + 1) sp) 55 1 (t : Int) 58 j = wr (wr y 58 (t * 2 + 0) (bf : Int)) 58 (t * 2 + 1) sp 58 j := by
      unfold addT
      rw [wr_nr (by decide)]
      simp only [adT]
      rw [if_neg (fun z => absurd z.1 (by decide))]
    rw [e1]
    by_cases e2 : j = t * 2 + 1
    · rw [e2, wr_eq, if_pos rfl]
    · rw [wr_nk e2, if_neg e2]
      by_cases e3 : j = t * 2
      · rw [e3, if_pos rfl]
        exact wr_eq
      · rw [wr_nk (by omega), if_neg e3]
  have z56 : ∀ j, addT (wr (wr y 58 (t * 2 + 0) (bf : Int)) 58 (t * 2 + 1) sp) 55 1 (t : Int) 56 j = if j = (m 0 37).toNat then (t : Int) else y 56 j := by
    intro j
    have := addT1_get (wr (wr y 58 (t * 2 + 0) (bf : Int)) 58 (t * 2 + 1) sp) 55 j (t : Int)
    rw [y55, a6] at this
    refine this.trans ?_
    by_cases e : j = (m 0 37).toNat
    · rw [if_pos e, if_pos e]
    · rw [if_neg e, if_neg e]
      show wr (wr y 58 (t * 2 + 0) (bf : Int)) 58 (t * 2 + 1) sp 56 j = _
      rw [wr_nr (by decide), wr_nr (by decide)]
  have z55 : addT (wr (wr y 58 (t * 2 + 0) (bf : Int)) 58 (t * 2 + 1) sp) 55 1 (t : Int) 55 3 = m 0 37 + 1 := by rw [addT_sz, y55, a6]
  have z57 : ∀ j, addT (wr (wr y 58 (t * 2 + 0) (bf : Int)) 58 (t * 2 + 1) sp) 55 1 (t : Int) 57 j = y 57 j := by
    intro j
    unfold addT
    rw [wr_nr (by decide)]
    simp only [adT]
    rw [if_neg (fun z => absurd z.1 (by decide)), wr_nr (by decide), wr_nr (by decide)]
  have zAG : AG kV x (addT (wr (wr y 58 (t * 2 + 0) (bf : Int)) 58 (t * 2 + 1) sp) 55 1 (t : Int)) := ((a1.wr rfl).wr rfl).addT (fun _ => rfl) rfl
  have zT : TB (addT (wr (wr y 58 (t * 2 + 0) (bf : Int)) 58 (t * 2 + 1) sp) 55 1 (t : Int)) 55 2197 1 := TB_add hT' (by rw [y55, a6]; omega)
  generalize hY : addT (wr (wr y 58 (t * 2 + 0) (bf : Int)) 58 (t * 2 + 1) sp) 55 1 (t : Int) = Y at z58 z56 z55 z57 zAG zT ⊢
  have dbf : m 19 bf < m 0 37 := by
    rcases bbf with ⟨e, -⟩ | ⟨e, -⟩ <;> omega
  refine ⟨⟨⟨zAG, zT, TB_fr a3 (z57 _) (z57 _) (z57 _), by rw [z57]; exact a4⟩, amm, ⟨by rw [z55, n37], ?_⟩, fun j hj => ?_, fun u hu => ?_⟩, fun u hu hvu => ?_, fun j hj => ?_, by rw [n37]; omega⟩
  · have e := sumS_up (f := visB m) (g := visB M) (k := 2197) ht (fun j hj hne => by unfold visB; rw [n19, if_neg hne])
    have e1 : visB M t = 1 := by unfold visB; rw [n19, if_pos rfl, if_pos (by omega)]
    have e2 : visB m t = 0 := by unfold visB; rw [if_neg hn]
    rw [e1, e2] at e
    rw [n37, a7]
    unfold visS
    omega
  · rw [n37] at hj
    rw [z56, n20]
    by_cases e : j = (m 0 37).toNat
    · rw [if_pos e, if_pos e, n19, Int.toNat_natCast, if_pos rfl]
      exact ⟨rfl, by omega, by omega⟩
    · rw [if_neg e, if_neg e]
      obtain ⟨g1, g2, g3⟩ := a8 j (by omega)
      refine ⟨g1, g2, ?_⟩
      rw [n19, if_neg]
      · exact g3
      · intro e2
        rw [e2] at g3
        exact hn g3
  · by_cases e : u = t
    · subst e
      refine Or.inr ⟨?_, hok, Or.inr ⟨ht0, bf, hbf, ?_, ?_, ?_, fun hb' => ?_⟩⟩
      · rw [n19, if_pos rfl, n37]
        omega
      · rw [z58, if_neg (by omega), if_pos rfl]
      · rw [n19, if_neg bt]
        exact hv
      · rw [n19, if_pos rfl, n19, if_neg bt]
      · rw [n26, n27, z58, if_pos rfl]
        exact hb hb'
    · have zu : Y 58 (u * 2) = y 58 (u * 2) := by rw [z58, if_neg (by omega), if_neg (by omega)]
      have zu1 : Y 58 (u * 2 + 1) = y 58 (u * 2 + 1) := by rw [z58, if_neg (by omega), if_neg (by omega)]
      rcases a9 u hu with ⟨g1, g2⟩ | ⟨g1, g2, g3⟩
      · refine Or.inl ⟨?_, by rw [zu]; exact g2⟩
        rw [n19, if_neg e]
        exact g1
      · refine Or.inr ⟨?_, g2, ?_⟩
        · rw [n19, if_neg e, n37]
          omega
        · rcases g3 with ⟨k1, k2, k3⟩ | ⟨k0, bu, k1, k2, k3, k4, k5⟩
          · refine Or.inl ⟨k1, ?_, ?_⟩
            · rw [n19, if_neg (by omega)]
              exact k2
            · have := zu
              rw [k1] at this
              exact this.trans k3
          · refine Or.inr ⟨k0, bu, k1, by rw [zu]; exact k2, ?_, ?_, fun hb' => ?_⟩
            · rw [n19, if_neg]
              · exact k3
              · rintro rfl
                exact hn k3
            · rw [n19, if_neg e, n19, if_neg]
              · exact k4
              · rintro rfl
                exact hn k3
            · rw [n26, n27, zu1, (h26 u e).1, (h26 u e).2]
              exact k5 hb'
  · rw [n19, if_neg]
    rintro rfl
    exact hn hvu
  · rw [n20, if_neg (by omega)]
theorem X_comes_new (h : BR b x s y m) (hn : 10000 ≤ n) {t bf : Nat} (ht : t < 2197) (hnv : ¬ 0 ≤ m 19 t) (sp : Int) : F_X5_comes n (t : Int) (bf : Int) sp y = some (0, addT (wr (wr y 58 (t * 2 + 0) (bf : Int)) 58 (t * 2 + 1) sp) 55 1 (t : Int)) := by
  obtain ⟨⟨a1, a2, a3, a4⟩, a5, ⟨a6, a7⟩, a8, a9⟩ := h
  have vc := visS_lt ht hnv
  rw [← a7] at vc
  have e9 : y 58 (t * 2 + 0) = -9 := by
    rcases a9 t ht with ⟨-, g⟩ | ⟨g, -⟩
    · exact g
    · omega
  have e1 : F_X9_at n 57 (t : Int) 0 y = some (y 58 (t * 2 + 0), y) := X_at (j := 0) a3 (by omega) (by decide)
  have e2 : F_X9_put n 57 (t : Int) 0 (bf : Int) y = some (0, wr y 58 (t * 2 + 0) (bf : Int)) := X_put (j := 0) a3 (by omega) (by decide)
  have t3 : TB (wr y 58 (t * 2 + 0) (bf : Int)) 57 2197 2 := TB_fr a3 (wr_nr (by decide)) (wr_nr (by decide)) (wr_nr (by decide))
  have e3 : F_X9_put n 57 (t : Int) 1 sp (wr y 58 (t * 2 + 0) (bf : Int)) = some (0, wr (wr y 58 (t * 2 + 0) (bf : Int)) 58 (t * 2 + 1) sp) := X_put (j := 1) t3 (by rw [wr_nr (by decide)]; omega) (by decide)
  have t5 : TB (wr (wr y 58 (t * 2 + 0) (bf : Int)) 58 (t * 2 + 1) sp) 55 2197 1 := TB_fr a2 (by rw [wr_nr (by decide), wr_nr (by decide)]) (by rw [wr_nr (by decide), wr_nr (by decide)]) (by rw [wr_nr (by decide), wr_nr (by decide)])
  unfold F_X5_comes
  rw [E_bnd e1 rfl, e9, if_pos rfl, E_bnd e2 rfl, E_bnd e3 rfl, E_bnd (X_add t5 hn (by rw [wr_nr (by decide), wr_nr (by decide), a6]; omega)) rfl]
theorem X_comes_old (h : BR b x s y m) {t : Nat} (ht : t < 2197) (hv : 0 ≤ m 19 t) (bf sp : Int) : F_X5_comes n (t : Int) bf sp y = some (0, y) := by
  obtain ⟨⟨a1, a2, a3, a4⟩, a5, ⟨a6, a7⟩, a8, a9⟩ := h
  have e9 : y 58 (t * 2 + 0) ≠ -9 := by
    rcases a9 t ht with ⟨g, -⟩ | ⟨g, g2, ⟨k1, k2, k3⟩ | ⟨k0, bu, k1, k2, -⟩⟩
    · omega
    · rw [k1]
      show y 58 0 ≠ -9
      omega
    · show y 58 (t * 2) ≠ -9
      omega
  have e1 : F_X9_at n 57 (t : Int) 0 y = some (y 58 (t * 2 + 0), y) := X_at (j := 0) a3 (by omega) (by decide)
  unfold F_X5_comes
  rw [E_bnd e1 rfl, if_neg e9]
theorem zero_vis (h : BR b x s y m) (h0 : 0 ≤ m 19 0) {t : Nat} (hn : ¬ 0 ≤ m 19 t) : t ≠ 0 := by
  rintro rfl
  exact hn h0
/-- comes, against reach -/
theorem reach_tw (h : BR false x s y m) (hn : 10000 ≤ n) (h0 : 0 ≤ m 19 0) {t : Int} {bf : Nat} (ht : 0 ≤ t ∧ t < 2197) (hbf : bf < 2197) (hv : 0 ≤ m 19 bf) (hok : okL s t) (sp : Int) : ∃ y' m2, F_X5_comes n t (bf : Int) sp y = some (0, y') ∧ F_X12_reach n t (m 19 bf + 1) m = some (0, m2) ∧ BR false x s y' m2 ∧ VM m m2 := by
  obtain ⟨t, rfl⟩ : ∃ k : Nat, t = (k : Int) := ⟨t.toNat, by omega⟩
  have ht' : t < 2197 := by omega
  by_cases hvt : 0 ≤ m 19 t
  · refine ⟨y, m, X_comes_old h ht' hvt _ _, ?_, h, VM.rf⟩
    unfold F_X12_reach
    rw [zM19, chk_pos (by omega), Int.toNat_natCast, if_pos hvt]
  · obtain ⟨g1, g2⟩ := BR_new h ht' hbf hv hvt hok sp (zero_vis h h0 hvt) (m1 := m) h.2.1 (fun _ => rfl) (fun _ => rfl) rfl (fun _ _ => ⟨rfl, rfl⟩) (fun z => by cases z)
    have vc := visS_lt ht' hvt
    rw [← h.2.2.1.2] at vc
    refine ⟨_, _, X_comes_new h hn ht' hvt sp, ?_, g1, g2⟩
    have e37 : wr m 19 t (m 19 bf + 1) 0 37 = m 0 37 := wr_nr (by decide)
    have e37' : wr (wr m 19 t (m 19 bf + 1)) 20 (m 0 37).toNat (t : Int) 0 37 = m 0 37 := by rw [wr_nr (by decide), wr_nr (by decide)]
    unfold F_X12_reach
    rw [zM19, zM20, chk_pos (by omega), Int.toNat_natCast, if_neg hvt, chk_pos (by omega), e37, e37', chk_pos (by omega), chk_pos (by omega)]
/-- comes, against reachBy -/
theorem reachBy_tw (h : BR true x s y m) (hn : 10000 ≤ n) (h0 : 0 ≤ m 19 0) {t : Int} {bf : Nat} (ht : 0 ≤ t ∧ t < 2197) (hbf : bf < 2197) (hv : 0 ≤ m 19 bf) (hok : okL s t) (sp : Int) : ∃ y' m2, F_X5_comes n t (bf : Int) sp y = some (0, y') ∧ F_X12_reachBy n t (bf : Int) sp m = some (0, m2) ∧ BR true x s y' m2 ∧ VM m m2 := by
  obtain ⟨t, rfl⟩ : ∃ k : Nat, t = (k : Int) := ⟨t.toNat, by omega⟩
  have ht' : t < 2197 := by omega
  by_cases hvt : 0 ≤ m 19 t
  · refine ⟨y, m, X_comes_old h ht' hvt _ _, ?_, h, VM.rf⟩
    unfold F_X12_reachBy
    rw [zM19, chk_pos (by omega), Int.toNat_natCast, if_pos hvt]
  · obtain ⟨g1, g2⟩ := BR_new h ht' hbf hv hvt hok sp (zero_vis h h0 hvt) (m1 := wr (wr m 26 t (bf : Int)) 27 t sp) ((h.2.1.wr rfl).wr rfl) (fun j => by rw [wr_nr (by decide), wr_nr (by decide)]) (fun j => by rw [wr_nr (by decide), wr_nr (by decide)]) (by rw [wr_nr (by decide), wr_nr (by decide)]) (fun j hj => ⟨by rw [wr_nr (by decide), wr_nk hj], by rw [wr_nk hj, wr_nr (by decide)]⟩) (fun _ => ⟨by rw [wr_nr (by decide), wr_eq], by rw [wr_eq]⟩)
    have vc := visS_lt ht' hvt
    rw [← h.2.2.1.2] at vc
    have dbf : m 19 bf < m 0 37 := by
      rcases h.2.2.2.2 bf hbf with ⟨e, -⟩ | ⟨e, -⟩ <;> omega
    refine ⟨_, _, X_comes_new h hn ht' hvt sp, ?_, g1, g2⟩
    have e19 : ∀ j, wr (wr m 26 t (bf : Int)) 27 t sp 19 j = m 19 j := fun j => by rw [wr_nr (by decide), wr_nr (by decide)]
    have e37 : wr (wr (wr m 26 t (bf : Int)) 27 t sp) 19 t (m 19 bf + 1) 0 37 = m 0 37 := by rw [wr_nr (by decide), wr_nr (by decide), wr_nr (by decide)]
    have e37' : wr (wr (wr (wr m 26 t (bf : Int)) 27 t sp) 19 t (m 19 bf + 1)) 20 (m 0 37).toNat (t : Int) 0 37 = m 0 37 := by rw [wr_nr (by decide), wr_nr (by decide), wr_nr (by decide), wr_nr (by decide)]
    unfold F_X12_reachBy
    rw [zM19, zM26, zM27, chk_pos (by omega), Int.toNat_natCast, if_neg hvt, chk_pos (by omega), chk_pos (by omega), Int.toNat_natCast, chk_pos (by omega), e19, chk_pos (by omega)]
    have er : F_X12_reach n (t : Int) (m 19 bf + 1) (wr (wr m 26 t (bf : Int)) 27 t sp) = some (0, wr (wr (wr (wr (wr m 26 t (bf : Int)) 27 t sp) 19 t (m 19 bf + 1)) 20 (m 0 37).toNat (t : Int)) 0 37 (m 0 37 + 1)) := by
      unfold F_X12_reach
      rw [zM19, zM20, chk_pos (by omega), Int.toNat_natCast, e19, if_neg hvt, chk_pos (by omega), e37, e37', chk_pos (by omega), chk_pos (by omega)]
    rw [E_bnd er rfl]
end ZSEA
