/-! THE COUPLING of the class's memory x and the reference's m -/
/-- what the image keeps, in the order of carryAll -/
def im (m : ZMem) : ZMem := fun a b => match a with
  | 0 => if b ≤ 6 then m 16 b else if b = 41 then m 16 63 else m 16 64
  | 1 => m 16 (7 + 7 * b)
  | 2 => m 16 (8 + 7 * b)
  | 3 => m 16 (9 + 7 * b)
  | 4 => m 16 (10 + 7 * b)
  | 5 => m 16 (11 + 7 * b)
  | 21 => m 16 (12 + 7 * b)
  | 22 => m 16 (13 + 7 * b)
  | 23 => m 16 (65 + b)
  | 28 => m 16 (70 + b)
  | 6 => m 16 (90 + 2 * b)
  | 7 => m 16 (91 + 2 * b)
  | 8 => m 16 (100 + b)
  | 9 => m 16 (130 + b)
  | _ => 0
def XT (x : ZMem) (k : Nat) : Prop := TB x (k + 1) 8 7 ∧ TB x (k + 3) 5 2 ∧ TB x (k + 5) 6 5 ∧ TB x (k + 7) 3 1 ∧ TB x (k + 9) 5 1 ∧ TB x (k + 11) 4 5
def CPk (x m : ZMem) : Prop := XK x 1 m ∧ WFs m
def CPi (x m : ZMem) : Prop := (x 0 3 = 0 ∧ m 0 28 = 0) ∨ (x 0 3 = 1 ∧ m 0 28 = 1 ∧ XK x 14 (im m) ∧ WFs (im m))
def CPt (x : ZMem) : Prop := XT x 14 ∧ XT x 27
def CPl (x m : ZMem) : Prop := TB x 41 96 1 ∧ x 41 3 = m 0 19 ∧ ∀ j : Nat, (j : Int) < m 0 19 → x 42 j = m 11 j ∧ (0 ≤ m 11 j ∧ m 11 j ≤ 255)
def CPr (x m : ZMem) : Prop := TB x 45 8 1 ∧ x 45 3 = m 0 49 ∧ ∀ j : Nat, (j : Int) < m 0 49 → x 46 j = m 29 j ∧ (0 ≤ m 29 j ∧ m 29 j ≤ 99)
def CPe (x m : ZMem) : Prop := TB x 47 8 1 ∧ x 47 3 = m 0 33 ∧ ∀ j : Nat, (j : Int) < m 0 33 → x 48 j = m 17 j ∧ (1 ≤ m 17 j ∧ m 17 j ≤ 24)
def CPf (c : Nat) (x m : ZMem) : Prop := TB x 49 7 1 ∧ x 49 3 = 7 ∧ ∀ k : Nat, 1 ≤ k → k ≤ 6 → x 50 k = m 10 k ∧ (0 ≤ m 10 k ∧ m 10 k ≤ (c : Int))
def CPs (x : ZMem) : Prop := TB x 43 5 1 ∧ TB x 52 100 1 ∧ TB x 55 2197 1 ∧ TB x 57 2197 2 ∧ TB x 60 201 1 ∧ TB x 63 3 1
def CP (c : Nat) (x m : ZMem) : Prop := CPk x m ∧ CPi x m ∧ CPt x ∧ CPl x m ∧ CPr x m ∧ CPe x m ∧ CPf c x m ∧ CPs x
theorem CP.k {c : Nat} {x m : ZMem} (h : CP c x m) : CPk x m := h.1
theorem CP.i {c : Nat} {x m : ZMem} (h : CP c x m) : CPi x m := h.2.1
theorem CP.t {c : Nat} {x m : ZMem} (h : CP c x m) : CPt x := h.2.2.1
theorem CP.l {c : Nat} {x m : ZMem} (h : CP c x m) : CPl x m := h.2.2.2.1
theorem CP.r {c : Nat} {x m : ZMem} (h : CP c x m) : CPr x m := h.2.2.2.2.1
theorem CP.e {c : Nat} {x m : ZMem} (h : CP c x m) : CPe x m := h.2.2.2.2.2.1
theorem CP.f {c : Nat} {x m : ZMem} (h : CP c x m) : CPf c x m := h.2.2.2.2.2.2.1
theorem CP.s {c : Nat} {x m : ZMem} (h : CP c x m) : CPs x := h.2.2.2.2.2.2.2
/-- agreement where a row is told to be kept -/
def AG (keep : Nat → Nat → Bool) (m m' : ZMem) : Prop := ∀ i j, keep i j = true → m' i j = m i j
theorem AG.rf {keep : Nat → Nat → Bool} {m : ZMem} : AG keep m m := fun _ _ _ => rfl
theorem AG.tr {keep : Nat → Nat → Bool} {m m' m'' : ZMem} (h : AG keep m m') (h' : AG keep m' m'') : AG keep m m'' := fun i j hk => (h' i j hk).trans (h i j hk)
theorem AG.wr {keep : Nat → Nat → Bool} {m m' : ZMem} {a b : Nat} {v : Int} (h : AG keep m m') (hk : keep a b = false) : AG keep m (wr m' a b v) := by
  intro i j hij
  show (if i = a ∧ j = b then v else m' i j) = m i j
  rw [if_neg]
  · exact h i j hij
  · rintro ⟨rfl, rfl⟩
    rw [hk] at hij
    cases hij
theorem AG.rs {keep : Nat → Nat → Bool} {m m' : ZMem} {t k : Nat} {v : Int} (h : AG keep m m') (hk : ∀ j, keep (t + 1) j = false) : AG keep m (rsT m' t v k) := by
  intro i j hij
  show (if i = t + 1 ∧ j < k then v else m' i j) = m i j
  rw [if_neg]
  · exact h i j hij
  · rintro ⟨rfl, -⟩
    rw [hk] at hij
    cases hij
theorem AG.ad {keep : Nat → Nat → Bool} {m m' : ZMem} {t b W k : Nat} {v : Int} (h : AG keep m m') (hk : ∀ j, keep (t + 1) j = false) : AG keep m (adT m' t b W v k) := by
  intro i j hij
  show (if i = t + 1 ∧ b ≤ j ∧ j < b + k then (if j = b then v else 0) else m' i j) = m i j
  rw [if_neg]
  · exact h i j hij
  · rintro ⟨rfl, -⟩
    rw [hk] at hij
    cases hij
theorem AG.cp {keep : Nat → Nat → Bool} {m m' : ZMem} {t o k : Nat} (h : AG keep m m') (hk : ∀ j, keep (t + 1) j = false) : AG keep m (cpT m' t o k) := by
  intro i j hij
  show (if i = t + 1 ∧ j < k then m' (o + 1) j else m' i j) = m i j
  rw [if_neg]
  · exact h i j hij
  · rintro ⟨rfl, -⟩
    rw [hk] at hij
    cases hij
theorem AG.sub {keep keep' : Nat → Nat → Bool} {m m' : ZMem} (h : AG keep m m') (hs : ∀ i j, keep' i j = true → keep i j = true) : AG keep' m m' := fun i j hk => h i j (hs i j hk)
/-- a table stays, where its three numbers stay -/
theorem TB_fr {x x' : ZMem} {t R W : Nat} (h : TB x t R W) (h1 : x' t 1 = x t 1) (h2 : x' t 2 = x t 2) (h3 : x' t 3 = x t 3) : TB x' t R W := by
  obtain ⟨a1, a2, a3, a4⟩ := h
  exact ⟨by rw [h1]; exact a1, by rw [h2]; exact a2, by rw [h3]; exact a3, a4⟩
theorem TB_sz {x x' : ZMem} {t R W : Nat} (h : TB x t R W) (h1 : x' t 1 = x t 1) (h2 : x' t 2 = x t 2) (h3 : 0 ≤ x' t 3 ∧ x' t 3 ≤ R) : TB x' t R W := by
  obtain ⟨a1, a2, a3, a4⟩ := h
  exact ⟨by rw [h1]; exact a1, by rw [h2]; exact a2, h3, a4⟩
def kXk (i _ : Nat) : Bool := decide (1 ≤ i) && decide (i ≤ 13)
def kMk (i j : Nat) : Bool := if i = 0 then decide (j ≤ 6) || decide (j = 41) || decide (j = 47) else decide (i ≤ 9) || decide (i = 21) || decide (i = 22) || decide (i = 23) || decide (i = 28)
theorem XK_fr {x x' s s' : ZMem} {k : Nat} (h : XK x k s) (hx : ∀ i j, k ≤ i → i ≤ k + 12 → x' i j = x i j) (hs : AG kMk s s') : XK x' k s' := by
  obtain ⟨⟨f1, f2, f3, f4⟩, ⟨t1, t2, t3, t4, t5, t6⟩, ⟨s1, s2, s3, s4, s5, s6⟩, h4, h5, h6, h7, h8, h9⟩ := h
  have z : ∀ j, j ≤ 6 → s' 0 j = s 0 j := fun j hj => hs 0 j (by simp [kMk, hj])
  have z41 := hs 0 41 rfl
  have z47 := hs 0 47 rfl
  have fr : ∀ t j, k ≤ t → t ≤ k + 12 → x' t j = x t j := fun t j a b => hx t j a b
  refine ⟨⟨?_, ?_, ?_, ?_⟩, ⟨?_, ?_, ?_, ?_, ?_, ?_⟩, ⟨?_, ?_, ?_, ?_, ?_, ?_⟩, ?_, ?_, ?_, ?_, ?_, ?_⟩
  · rw [fr k 0 (by omega) (by omega), z 0 (by omega)]; exact f1
  · rw [fr k 1 (by omega) (by omega), z 1 (by omega)]; exact f2
  · rw [fr k 2 (by omega) (by omega), z 5 (by omega)]; exact f3
  · rw [fr k 3 (by omega) (by omega), z 6 (by omega)]; exact f4
  · exact TB_fr t1 (fr _ _ (by omega) (by omega)) (fr _ _ (by omega) (by omega)) (fr _ _ (by omega) (by omega))
  · exact TB_fr t2 (fr _ _ (by omega) (by omega)) (fr _ _ (by omega) (by omega)) (fr _ _ (by omega) (by omega))
  · exact TB_fr t3 (fr _ _ (by omega) (by omega)) (fr _ _ (by omega) (by omega)) (fr _ _ (by omega) (by omega))
  · exact TB_fr t4 (fr _ _ (by omega) (by omega)) (fr _ _ (by omega) (by omega)) (fr _ _ (by omega) (by omega))
  · exact TB_fr t5 (fr _ _ (by omega) (by omega)) (fr _ _ (by omega) (by omega)) (fr _ _ (by omega) (by omega))
  · exact TB_fr t6 (fr _ _ (by omega) (by omega)) (fr _ _ (by omega) (by omega)) (fr _ _ (by omega) (by omega))
  · rw [fr _ 3 (by omega) (by omega), z 2 (by omega)]; exact s1
  · rw [fr _ 3 (by omega) (by omega), z 3 (by omega)]; exact s2
  · rw [fr _ 3 (by omega) (by omega), z 4 (by omega)]; exact s3
  · rw [fr _ 3 (by omega) (by omega)]; exact s4
  · rw [fr _ 3 (by omega) (by omega), z41]; exact s5
  · rw [fr _ 3 (by omega) (by omega), z47]; exact s6
  · intro p hp
    rw [z 2 (by omega)] at hp
    simp only [fr (k + 2) _ (by omega) (by omega), hs 1 p rfl, hs 2 p rfl, hs 3 p rfl, hs 4 p rfl, hs 5 p rfl, hs 21 p rfl, hs 22 p rfl]
    exact h4 p hp
  · intro p hp
    rw [z 3 (by omega)] at hp
    simp only [fr (k + 4) _ (by omega) (by omega), hs 6 p rfl, hs 7 p rfl]
    exact h5 p hp
  · intro p hp c hc
    rw [z 4 (by omega)] at hp
    rw [fr (k + 6) _ (by omega) (by omega), hs 8 _ rfl]
    exact h6 p hp c hc
  · intro c hc
    rw [fr (k + 8) _ (by omega) (by omega), hs 9 _ rfl]
    exact h7 c hc
  · intro w hw
    rw [z41] at hw
    rw [fr (k + 10) _ (by omega) (by omega), hs 23 _ rfl]
    exact h8 w hw
  · intro d hd c hc
    rw [z47] at hd
    rw [fr (k + 12) _ (by omega) (by omega), hs 28 _ rfl]
    exact h9 d hd c hc
theorem WFs_fr {s s' : ZMem} (h : WFs s) (hs : AG kMk s s') : WFs s' := by
  have z : ∀ j, j ≤ 6 → s' 0 j = s 0 j := fun j hj => hs 0 j (by simp [kMk, hj])
  have e1 : ∀ p, s' 1 p = s 1 p := fun p => hs 1 p rfl
  have e2 : ∀ p, s' 2 p = s 2 p := fun p => hs 2 p rfl
  have e3 : ∀ p, s' 3 p = s 3 p := fun p => hs 3 p rfl
  have e4 : ∀ p, s' 4 p = s 4 p := fun p => hs 4 p rfl
  have e5 : ∀ p, s' 5 p = s 5 p := fun p => hs 5 p rfl
  have e6 : ∀ p, s' 6 p = s 6 p := fun p => hs 6 p rfl
  have e7 : ∀ p, s' 7 p = s 7 p := fun p => hs 7 p rfl
  have e8 : ∀ p, s' 8 p = s 8 p := fun p => hs 8 p rfl
  have e9 : ∀ p, s' 9 p = s 9 p := fun p => hs 9 p rfl
  have e21 : ∀ p, s' 21 p = s 21 p := fun p => hs 21 p rfl
  have e22 : ∀ p, s' 22 p = s 22 p := fun p => hs 22 p rfl
  have e23 : ∀ p, s' 23 p = s 23 p := fun p => hs 23 p rfl
  have e28 : ∀ p, s' 28 p = s 28 p := fun p => hs 28 p rfl
  unfold WFs
  simp only [z 0 (by omega), z 1 (by omega), z 2 (by omega), z 3 (by omega), z 4 (by omega), z 5 (by omega), z 6 (by omega), hs 0 41 rfl, hs 0 47 rfl, e1, e2, e3, e4, e5, e6, e7, e8, e9, e21, e22, e23, e28]
  exact h
theorem CPk_fr {x x' m m' : ZMem} (h : CPk x m) (hx : AG kXk x x') (hm : AG kMk m m') : CPk x' m' :=
  ⟨XK_fr h.1 (fun i j h1 h2 => hx i j (by simp [kXk]; omega)) hm, WFs_fr h.2 hm⟩
def kXi (i j : Nat) : Bool := (decide (14 ≤ i) && decide (i ≤ 26)) || (decide (i = 0) && decide (j = 3))
def kMi (i j : Nat) : Bool := decide (i = 16) || (decide (i = 0) && decide (j = 28))
theorem im_fr {m m' : ZMem} (hm : AG kMi m m') : im m' = im m := by
  have e : ∀ j, m' 16 j = m 16 j := fun j => hm 16 j rfl
  funext a b
  unfold im
  simp only [e]
theorem CPi_fr {x x' m m' : ZMem} (h : CPi x m) (hx : AG kXi x x') (hm : AG kMi m m') : CPi x' m' := by
  unfold CPi
  rw [hx 0 3 rfl, hm 0 28 rfl, im_fr hm]
  rcases h with h | ⟨h1, h2, h3, h4⟩
  · exact Or.inl h
  · exact Or.inr ⟨h1, h2, XK_fr h3 (fun i j h1 h2 => hx i j (by simp [kXi]; omega)) AG.rf, h4⟩
def kXt (i j : Nat) : Bool := decide (14 ≤ i) && decide (i ≤ 39) && decide (1 ≤ j) && decide (j ≤ 3)
theorem XT_fr {x x' : ZMem} {k : Nat} (h : XT x k) (hk : 14 ≤ k ∧ k ≤ 27) (hx : AG kXt x x') : XT x' k := by
  obtain ⟨t1, t2, t3, t4, t5, t6⟩ := h
  have fr : ∀ t j, 14 ≤ t → t ≤ 39 → 1 ≤ j → j ≤ 3 → x' t j = x t j := fun t j a b c d => hx t j (by simp [kXt]; omega)
  exact ⟨TB_fr t1 (fr _ _ (by omega) (by omega) (by omega) (by omega)) (fr _ _ (by omega) (by omega) (by omega) (by omega)) (fr _ _ (by omega) (by omega) (by omega) (by omega)), TB_fr t2 (fr _ _ (by omega) (by omega) (by omega) (by omega)) (fr _ _ (by omega) (by omega) (by omega) (by omega)) (fr _ _ (by omega) (by omega) (by omega) (by omega)), TB_fr t3 (fr _ _ (by omega) (by omega) (by omega) (by omega)) (fr _ _ (by omega) (by omega) (by omega) (by omega)) (fr _ _ (by omega) (by omega) (by omega) (by omega)), TB_fr t4 (fr _ _ (by omega) (by omega) (by omega) (by omega)) (fr _ _ (by omega) (by omega) (by omega) (by omega)) (fr _ _ (by omega) (by omega) (by omega) (by omega)), TB_fr t5 (fr _ _ (by omega) (by omega) (by omega) (by omega)) (fr _ _ (by omega) (by omega) (by omega) (by omega)) (fr _ _ (by omega) (by omega) (by omega) (by omega)), TB_fr t6 (fr _ _ (by omega) (by omega) (by omega) (by omega)) (fr _ _ (by omega) (by omega) (by omega) (by omega)) (fr _ _ (by omega) (by omega) (by omega) (by omega))⟩
theorem CPt_fr {x x' : ZMem} (h : CPt x) (hx : AG kXt x x') : CPt x' := ⟨XT_fr h.1 (by omega) hx, XT_fr h.2 (by omega) hx⟩
def kXl (i _ : Nat) : Bool := decide (i = 41) || decide (i = 42)
def kMl (i j : Nat) : Bool := decide (i = 11) || (decide (i = 0) && decide (j = 19))
theorem CPl_fr {x x' m m' : ZMem} (h : CPl x m) (hx : AG kXl x x') (hm : AG kMl m m') : CPl x' m' := by
  obtain ⟨h1, h2, h3⟩ := h
  refine ⟨TB_fr h1 (hx 41 1 rfl) (hx 41 2 rfl) (hx 41 3 rfl), by rw [hx 41 3 rfl, hm 0 19 rfl]; exact h2, fun j hj => ?_⟩
  rw [hm 0 19 rfl] at hj
  rw [hx 42 j rfl, hm 11 j rfl]
  exact h3 j hj
def kXr (i _ : Nat) : Bool := decide (i = 45) || decide (i = 46)
def kMr (i j : Nat) : Bool := decide (i = 29) || (decide (i = 0) && decide (j = 49))
theorem CPr_fr {x x' m m' : ZMem} (h : CPr x m) (hx : AG kXr x x') (hm : AG kMr m m') : CPr x' m' := by
  obtain ⟨h1, h2, h3⟩ := h
  refine ⟨TB_fr h1 (hx 45 1 rfl) (hx 45 2 rfl) (hx 45 3 rfl), by rw [hx 45 3 rfl, hm 0 49 rfl]; exact h2, fun j hj => ?_⟩
  rw [hm 0 49 rfl] at hj
  rw [hx 46 j rfl, hm 29 j rfl]
  exact h3 j hj
def kXe (i _ : Nat) : Bool := decide (i = 47) || decide (i = 48)
def kMe (i j : Nat) : Bool := decide (i = 17) || (decide (i = 0) && decide (j = 33))
theorem CPe_fr {x x' m m' : ZMem} (h : CPe x m) (hx : AG kXe x x') (hm : AG kMe m m') : CPe x' m' := by
  obtain ⟨h1, h2, h3⟩ := h
  refine ⟨TB_fr h1 (hx 47 1 rfl) (hx 47 2 rfl) (hx 47 3 rfl), by rw [hx 47 3 rfl, hm 0 33 rfl]; exact h2, fun j hj => ?_⟩
  rw [hm 0 33 rfl] at hj
  rw [hx 48 j rfl, hm 17 j rfl]
  exact h3 j hj
def kXf (i _ : Nat) : Bool := decide (i = 49) || decide (i = 50)
def kMf (i _ : Nat) : Bool := decide (i = 10)
theorem CPf_fr {c : Nat} {x x' m m' : ZMem} (h : CPf c x m) (hx : AG kXf x x') (hm : AG kMf m m') : CPf (c + 1) x' m' := by
  obtain ⟨h1, h2, h3⟩ := h
  refine ⟨TB_fr h1 (hx 49 1 rfl) (hx 49 2 rfl) (hx 49 3 rfl), by rw [hx 49 3 rfl]; exact h2, fun k a b => ?_⟩
  rw [hx 50 k rfl, hm 10 k rfl]
  have := h3 k a b
  omega
def kXs (i j : Nat) : Bool := (decide (i = 43) || decide (i = 52) || decide (i = 55) || decide (i = 57) || decide (i = 60) || decide (i = 63)) && decide (1 ≤ j) && decide (j ≤ 3)
theorem CPs_fr {x x' : ZMem} (h : CPs x) (hx : AG kXs x x') : CPs x' := by
  obtain ⟨t1, t2, t3, t4, t5, t6⟩ := h
  exact ⟨TB_fr t1 (hx 43 1 rfl) (hx 43 2 rfl) (hx 43 3 rfl), TB_fr t2 (hx 52 1 rfl) (hx 52 2 rfl) (hx 52 3 rfl), TB_fr t3 (hx 55 1 rfl) (hx 55 2 rfl) (hx 55 3 rfl), TB_fr t4 (hx 57 1 rfl) (hx 57 2 rfl) (hx 57 3 rfl), TB_fr t5 (hx 60 1 rfl) (hx 60 2 rfl) (hx 60 3 rfl), TB_fr t6 (hx 63 1 rfl) (hx 63 2 rfl) (hx 63 3 rfl)⟩
/-- all that lasts -/
def kXa (i j : Nat) : Bool := decide (i ≤ 26) || kXl i j || kXr i j || kXe i j || kXf i j || kXt i j
def kMa (i j : Nat) : Bool := kMk i j || kMi i j || kMl i j || kMr i j || kMe i j || kMf i j
theorem CP_same {c : Nat} {x x' m m' : ZMem} (h : CP c x m) (hx : AG kXa x x') (hs : CPs x') (hm : AG kMa m m') : CP (c + 1) x' m' := by
  refine ⟨CPk_fr h.k (hx.sub ?_) (hm.sub ?_), CPi_fr h.i (hx.sub ?_) (hm.sub ?_), CPt_fr h.t (hx.sub ?_), CPl_fr h.l (hx.sub ?_) (hm.sub ?_), CPr_fr h.r (hx.sub ?_) (hm.sub ?_), CPe_fr h.e (hx.sub ?_) (hm.sub ?_), CPf_fr h.f (hx.sub ?_) (hm.sub ?_), hs⟩
  all_goals
    intro i j hk
    simp only [kXa, kMa, Bool.or_eq_true, decide_eq_true_eq]
    first
    | (simp only [kXk, Bool.and_eq_true, decide_eq_true_eq] at hk; omega)
    | (simp only [kXi, Bool.or_eq_true, Bool.and_eq_true, decide_eq_true_eq] at hk; omega)
    | (simp only [hk, true_or, or_true])
/-- a call that only reads -/
theorem CP_read {c : Nat} {x m m' : ZMem} (h : CP c x m) (hm : AG kMa m m') : CP (c + 1) x m' := CP_same h AG.rf h.s hm
theorem CP_thrown {c : Nat} {x m : ZMem} {v : Int} (h : CP c x m) : CP (c + 1) x (wr m 0 16 v) := CP_read h (AG.rf.wr rfl)
