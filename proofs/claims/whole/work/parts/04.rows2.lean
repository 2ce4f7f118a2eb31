/-! LIFTED ROWS 2: bits, longs, fields, arrays, answers, calls, switches -/
theorem s_l : ∀ n, n < 32 → ((nI n &&& 31).toBitVec.smod 32).toNat = n := by decide +kernel
theorem fa_and (a b : Nat) : nI a &&& nI b = nI (a &&& b) := by
  apply Int32.toBitVec_inj.1
  show BitVec.ofNat 32 a &&& BitVec.ofNat 32 b = BitVec.ofNat 32 (a &&& b)
  apply BitVec.eq_of_getLsbD_eq
  intro i hi
  simp [hi]
theorem fa_or (a b : Nat) : nI a ||| nI b = nI (a ||| b) := by
  apply Int32.toBitVec_inj.1
  show BitVec.ofNat 32 a ||| BitVec.ofNat 32 b = BitVec.ofNat 32 (a ||| b)
  apply BitVec.eq_of_getLsbD_eq
  intro i hi
  simp [hi]
theorem mI_shl {x k : Int} (hk : 0 ≤ k ∧ k < 32) : mI x <<< (mI k &&& 31) = mI (x * 2 ^ k.toNat) := by
  have hs : ((mI k &&& 31).toBitVec.smod 32).toNat = k.toNat := by
    rw [mI_nat hk.1]
    exact s_l k.toNat (by omega)
  have h := pk_shl (mI x) (mI k &&& 31) k.toNat hs
  apply Int32.toBitVec_inj.mp
  apply BitVec.eq_of_toNat_eq
  rw [h]
  show (BitVec.ofInt 32 x).toNat * _ % _ = (BitVec.ofInt 32 (x * 2 ^ k.toNat)).toNat
  rw [BitVec.toNat_ofInt, BitVec.toNat_ofInt]
  apply Int.ofNat_inj.mp
  have hz : ((2 ^ 32 : Nat) : Int) ≠ 0 := by decide
  rw [Int.natCast_emod, Int.natCast_mul, Int.toNat_of_nonneg (Int.emod_nonneg _ hz), Int.toNat_of_nonneg (Int.emod_nonneg _ hz), Int.natCast_pow 2 k.toNat]
  rw [show ((2 : Nat) : Int) = 2 from rfl, Int.mul_emod, Int.emod_emod_of_dvd _ (Int.dvd_refl _), ← Int.mul_emod]
theorem mI_shr {x k : Int} (hx : R32 x) (hk : 0 ≤ k ∧ k < 32) : mI x >>> (mI k &&& 31) = mI (x / 2 ^ k.toNat) := by
  have hs : ((mI k &&& 31).toBitVec.smod 32).toNat = k.toNat := by
    rw [mI_nat hk.1]
    exact s_l k.toNat (by omega)
  have h := pk_shr (mI x) (mI k &&& 31) k.toNat hs
  rw [mI_toInt hx, Int.shiftRight_eq_div_pow] at h
  rw [← mI_ofToInt (mI x >>> (mI k &&& 31)), h]
  norm_cast
theorem R32_shr {x : Int} {k : Nat} (hx : R32 x) : R32 (x / 2 ^ k) := by
  have hp : (0 : Int) < 2 ^ k := Int.pow_pos (by decide)
  have h1 : (1 : Int) ≤ 2 ^ k := hp
  rcases Int.lt_or_le x 0 with h0 | h0
  · have h2 : -2147483648 * 2 ^ k ≤ x := by
      have := Int.mul_le_mul_of_nonneg_left h1 (show (0 : Int) ≤ 2147483648 by decide)
      omega
    have h3 := Int.le_ediv_of_mul_le hp h2
    have h4 := Int.ediv_neg_of_neg_of_pos h0 hp
    omega
  · have h2 := Int.ediv_nonneg h0 (Int.le_of_lt hp)
    have h3 := Int.ediv_le_self (2 ^ k) h0
    omega
def zland (x y : Int) : Int := ((x.toNat &&& y.toNat : Nat) : Int)
def zlor (x y : Int) : Int := ((x.toNat ||| y.toNat : Nat) : Int)
theorem mI_and {x y : Int} (hx : 0 ≤ x) (hy : 0 ≤ y) : mI x &&& mI y = mI (zland x y) := by
  rw [mI_nat hx, mI_nat hy, fa_and]
  exact mI_nI.symm
theorem mI_or {x y : Int} (hx : 0 ≤ x) (hy : 0 ≤ y) : mI x ||| mI y = mI (zlor x y) := by
  rw [mI_nat hx, mI_nat hy, fa_or]
  exact mI_nI.symm
theorem R32_and {x y : Int} (hx : 0 ≤ x) (hx2 : R32 x) : R32 (zland x y) := by
  have h := Nat.and_le_left (n := x.toNat) (m := y.toNat)
  unfold zland
  omega
theorem R32_or {x y : Int} (hx : 0 ≤ x) (hy : 0 ≤ y) (hx2 : R32 x) (hy2 : R32 y) : R32 (zlor x y) := by
  have h := Nat.or_lt_two_pow (x := x.toNat) (y := y.toNat) (n := 31) (by omega) (by omega)
  unfold zlor
  omega
theorem mI_mask (x : Int) {m : Int} (k : Nat) (hm : (mI m).toBitVec.toNat = 2 ^ k - 1) (hk : k ≤ 31) : mI x &&& mI m = mI (x % 2 ^ k) := by
  rw [pk_and (mI x) k hm]
  show nI ((BitVec.ofInt 32 x).toNat % 2 ^ k) = _
  rw [BitVec.toNat_ofInt, ← mI_nI]
  congr 1
  have hz : ((2 ^ 32 : Nat) : Int) ≠ 0 := by decide
  rw [Int.natCast_emod, Int.toNat_of_nonneg (Int.emod_nonneg _ hz), Int.natCast_pow 2 k]
  refine Int.emod_emod_of_dvd _ ⟨2 ^ (32 - k), ?_⟩
  rw [show ((2 : Nat) : Int) = 2 from rfl, ← Int.pow_add, Nat.add_sub_cancel' (by omega : k ≤ 32)]
  rfl
theorem R32_mask (x : Int) {k : Nat} (hk : k ≤ 31) : R32 (x % 2 ^ k) := by
  have hp : (0 : Int) < 2 ^ k := Int.pow_pos (by decide)
  have h1 := Int.emod_nonneg x (Int.ne_of_gt hp)
  have h2 := Int.emod_lt_of_pos x hp
  have h3 : (2 : Int) ^ k ≤ 2 ^ 31 := by
    have := Nat.pow_le_pow_right (n := 2) (by decide) hk
    exact_mod_cast this
  omega
theorem mI_i2l {x : Int} (h : R32 x) : (mI x).toInt64 = mL x := Int32.toInt64_ofInt (by rw [show Int32.minValue.toInt = -2147483648 by decide +kernel]; omega) (by rw [show Int32.maxValue.toInt = 2147483647 by decide +kernel]; omega)
theorem mL_sub (x y : Int) : mL x - mL y = mL (x - y) := (Int64.ofInt_sub x y).symm
theorem mL_mul (x y : Int) : mL x * mL y = mL (x * y) := (Int64.ofInt_mul x y).symm
theorem mL_neg (x : Int) : -mL x = mL (-x) := (Int64.ofInt_neg x).symm
theorem mL_lt {x y : Int} (hx : R64 x) (hy : R64 y) : mL x < mL y ↔ x < y := by rw [Int64.lt_iff_toInt_lt, mL_toInt hx, mL_toInt hy]
theorem mL_eq {x y : Int} (hx : R64 x) (hy : R64 y) : mL x = mL y ↔ x = y := by rw [← Int64.toInt_inj, mL_toInt hx, mL_toInt hy]
def lcI (x y : Int) : Int := if y < x then 1 else if x = y then 0 else -1
theorem lcI_R (x y : Int) : R32 (lcI x y) := by unfold lcI; split <;> (try split) <;> omega
theorem lcI_mI {x y : Int} (hx : R64 x) (hy : R64 y) : lg_cmp (mL x) (mL y) = mI (lcI x y) := by
  unfold lg_cmp lcI
  by_cases h : y < x
  · rw [if_pos ((mL_lt hy hx).mpr h), if_pos h]; decide +kernel
  · rw [if_neg (fun g => h ((mL_lt hy hx).mp g)), if_neg h]
    by_cases h2 : x = y
    · rw [if_pos ((mL_eq hx hy).mpr h2), if_pos h2]; decide +kernel
    · rw [if_neg (fun g => h2 ((mL_eq hx hy).mp g)), if_neg h2]; decide +kernel
def zabs (x : Int) : Int := if 0 ≤ x then x else -x
theorem R32_max {x y : Int} (hx : R32 x) (hy : R32 y) : R32 (max x y) := by omega
theorem R32_min {x y : Int} (hx : R32 x) (hy : R32 y) : R32 (min x y) := by omega
/-- the lengths of the rows -/
def zlen (La : List ZKD) (a : Nat) : Int := match La[a]? with
  | some (1, n, _) => (n : Int)
  | _ => 0
def zlenZ (La : List ZKD) (a : Nat) : Int := match La[a]? with
  | some (2, n, _) => (n : Int)
  | _ => 0
theorem zlen_get {La : List ZKD} {a : Nat} {j : Int} (h : 0 ≤ j ∧ j < zlen La a) : ∃ n sp, La[a]? = some (1, n, sp) ∧ j.toNat < n := by
  unfold zlen at h
  match hL : La[a]? with
  | none => rw [hL] at h; simp at h; omega
  | some (0, n, sp) => rw [hL] at h; simp at h; omega
  | some (1, n, sp) => rw [hL] at h; exact ⟨n, sp, rfl, by simp at h; omega⟩
  | some (k + 2, n, sp) => rw [hL] at h; simp at h; omega
theorem zlenZ_get {La : List ZKD} {a : Nat} {j : Int} (h : 0 ≤ j ∧ j < zlenZ La a) : ∃ n sp, La[a]? = some (2, n, sp) ∧ j.toNat < n := by
  unfold zlenZ at h
  match hL : La[a]? with
  | none => rw [hL] at h; simp at h; omega
  | some (0, n, sp) => rw [hL] at h; simp at h; omega
  | some (1, n, sp) => rw [hL] at h; simp at h; omega
  | some (2, n, sp) => rw [hL] at h; exact ⟨n, sp, rfl, by simp at h; omega⟩
  | some (k + 3, n, sp) => rw [hL] at h; simp at h; omega
/-- a class of the worlds, with what the tables say of its fields -/
def zcl (ci : Nat) (C : String) (T : u_T) (N : Nat) (ty : Nat → FieldType) : Prop := vwCl[ci]? = some (C, T, N) ∧ (∀ w ∈ u_ws C T N, w ∈ zall) ∧ (∀ k, k < N → parseFieldDescriptor (T k).2.2.1 = some (ty k)) ∧ (∀ a, a < N → ∀ b, b < N → a ≠ b → (T a).2.1 ≠ (T b).2.1)
section ZROWS2
variable {La : List ZKD} {ad sc sv : Nat → Nat} {M : ZMI} {pc : Nat} {lv lv' : List (Nat × Value)} {st st' : List Value} {mem mem1 : ZMem} {o o1 o2 : ZR}
theorem z_ishl {x y : Int} (hd : decode M.2.1 pc = .ok (.ishl, 1)) (k : R32 (x * 2 ^ y.toNat) → zG La ad sc sv M (pc + 1) lv (.int (mI (x * 2 ^ y.toNat)) :: st) mem o) : zG La ad sc sv M pc lv (.int (mI y) :: .int (mI x) :: st) mem (chk (0 ≤ y ∧ y < 32) (chk (R32 (x * 2 ^ y.toNat)) o)) :=
  zG_chk (fun hR => zG_chk (fun h2 => zG_st (fun C hP hS hl w => lv_ishl C.1 C.2.1 hd (by rw [mI_shl hR]; exact w)) (k h2)))
theorem z_ishr {x y : Int} (hd : decode M.2.1 pc = .ok (.ishr, 1)) (hx : R32 x) (k : R32 (x / 2 ^ y.toNat) → zG La ad sc sv M (pc + 1) lv (.int (mI (x / 2 ^ y.toNat)) :: st) mem o) : zG La ad sc sv M pc lv (.int (mI y) :: .int (mI x) :: st) mem (chk (0 ≤ y ∧ y < 32) o) :=
  zG_chk (fun hR => zG_st (fun C hP hS hl w => lv_ishr C.1 C.2.1 hd (by rw [mI_shr hx hR]; exact w)) (k (R32_shr hx)))
theorem z_iand {x y : Int} (hd : decode M.2.1 pc = .ok (.iand, 1)) (hx : R32 x) (k : R32 (zland x y) → zG La ad sc sv M (pc + 1) lv (.int (mI (zland x y)) :: st) mem o) : zG La ad sc sv M pc lv (.int (mI y) :: .int (mI x) :: st) mem (chk (0 ≤ x ∧ 0 ≤ y) o) :=
  zG_chk (fun hR => zG_st (fun C hP hS hl w => lv_iand C.1 C.2.1 hd (by rw [mI_and hR.1 hR.2]; exact w)) (k (R32_and hR.1 hx)))
theorem z_ior {x y : Int} (hd : decode M.2.1 pc = .ok (.ior, 1)) (hx : R32 x) (hy : R32 y) (k : R32 (zlor x y) → zG La ad sc sv M (pc + 1) lv (.int (mI (zlor x y)) :: st) mem o) : zG La ad sc sv M pc lv (.int (mI y) :: .int (mI x) :: st) mem (chk (0 ≤ x ∧ 0 ≤ y) o) :=
  zG_chk (fun hR => zG_st (fun C hP hS hl w => lv_ior C.1 C.2.1 hd (by rw [mI_or hR.1 hR.2]; exact w)) (k (R32_or hR.1 hR.2 hx hy)))
theorem z_iandm {x y : Int} (hd : decode M.2.1 pc = .ok (.iand, 1)) (n : Nat) (hm : (mI y).toBitVec.toNat = 2 ^ n - 1) (hn : n ≤ 31) (k : R32 (x % 2 ^ n) → zG La ad sc sv M (pc + 1) lv (.int (mI (x % 2 ^ n)) :: st) mem o) : zG La ad sc sv M pc lv (.int (mI y) :: .int (mI x) :: st) mem o :=
  zG_st (fun C hP hS hl w => lv_iand C.1 C.2.1 hd (by rw [mI_mask x n hm hn]; exact w)) (k (R32_mask x hn))
theorem z_i2l {x : Int} (hd : decode M.2.1 pc = .ok (.i2l, 1)) (hx : R32 x) (k : R64 x → zG La ad sc sv M (pc + 1) lv (.long (mL x) :: st) mem o) : zG La ad sc sv M pc lv (.int (mI x) :: st) mem o :=
  zG_st (fun C hP hS hl w => lv_i2l C.1 C.2.1 hd (mI_i2l hx) w) (k (by omega))
theorem z_lsub {x y : Int} (hd : decode M.2.1 pc = .ok (.lsub, 1)) (k : R64 (x - y) → zG La ad sc sv M (pc + 1) lv (.long (mL (x - y)) :: st) mem o) : zG La ad sc sv M pc lv (.long (mL y) :: .long (mL x) :: st) mem (chk (R64 (x - y)) o) :=
  zG_chk (fun hR => zG_st (fun C hP hS hl w => lv_lsub C.1 C.2.1 hd (by rw [mL_sub]; exact w)) (k hR))
theorem z_lmul {x y : Int} (hd : decode M.2.1 pc = .ok (.lmul, 1)) (k : R64 (x * y) → zG La ad sc sv M (pc + 1) lv (.long (mL (x * y)) :: st) mem o) : zG La ad sc sv M pc lv (.long (mL y) :: .long (mL x) :: st) mem (chk (R64 (x * y)) o) :=
  zG_chk (fun hR => zG_st (fun C hP hS hl w => lv_lmul C.1 C.2.1 hd (by rw [mL_mul]; exact w)) (k hR))
theorem z_lneg {x : Int} (hd : decode M.2.1 pc = .ok (.lneg, 1)) (k : R64 (-x) → zG La ad sc sv M (pc + 1) lv (.long (mL (-x)) :: st) mem o) : zG La ad sc sv M pc lv (.long (mL x) :: st) mem (chk (R64 (-x)) o) :=
  zG_chk (fun hR => zG_st (fun C hP hS hl w => lv_lneg C.1 C.2.1 hd (by rw [mL_neg]; exact w)) (k hR))
theorem z_lcmp {x y : Int} (hd : decode M.2.1 pc = .ok (.lcmp, 1)) (hx : R64 x) (hy : R64 y) (k : R32 (lcI x y) → zG La ad sc sv M (pc + 1) lv (.int (mI (lcI x y)) :: st) mem o) : zG La ad sc sv M pc lv (.long (mL y) :: .long (mL x) :: st) mem o :=
  zG_st (fun C hP hS hl w => W.lcmp C.1 C.2.1 hd (by rw [lcI_mI hx hy]; exact w)) (k (lcI_R x y))
theorem z_ldc {x : Int} {index : Nat} (hd : decode M.2.1 pc = .ok (.ldc index, 2)) (hw : Cond.constant M.1 index (mI x) ∈ zall) (k : zG La ad sc sv M (pc + 2) lv (.int (mI x) :: st) mem o) : zG La ad sc sv M pc lv st mem o :=
  zG_st (fun C hP hS hl w => lv_ldc C.1 C.2.1 C.2.2.2.1 (C.2.2.2.2.1 _ hw) hd w) k
theorem z_ldcw {x : Int} {index : Nat} (hd : decode M.2.1 pc = .ok (.ldc_w index, 3)) (hw : Cond.constant M.1 index (mI x) ∈ zall) (k : zG La ad sc sv M (pc + 3) lv (.int (mI x) :: st) mem o) : zG La ad sc sv M pc lv st mem o :=
  zG_st (fun C hP hS hl w => lv_ldcw C.1 C.2.1 C.2.2.2.1 (C.2.2.2.2.1 _ hw) hd w) k
theorem z_ldc2 {x : Int} {index : Nat} (hd : decode M.2.1 pc = .ok (.ldc2_w index, 3)) (hw : Cond.constantLong M.1 index (mL x) ∈ zall) (k : zG La ad sc sv M (pc + 3) lv (.long (mL x) :: st) mem o) : zG La ad sc sv M pc lv st mem o :=
  zG_st (fun C hP hS hl w => lv_ldc2 C.1 C.2.1 C.2.2.2.1 (C.2.2.2.2.1 _ hw) hd w) k
theorem z_mmax {x y : Int} {index : Nat} (hd : decode M.2.1 pc = .ok (.invokestatic index, 3)) (hx : R32 x) (hy : R32 y) (hl1 : Cond.methodLink M.1 index Lib.Math.max.name ∈ zall) (hl2 : Cond.static Lib.Math.max.name ∈ zall) (hl3 : Cond.initialized "java/lang/Math" ∈ zall) (hl4 : Cond.code Lib.Math.max.name Lib.Math.max.code 2 (some .int) ∈ zall) (hf : 1 ≤ M.2.2.2.2.2.frames) (hlo : (st.map fun v => v.category).sum + 13 ≤ M.2.2.2.2.2.locals) (k : R32 (max x y) → zG La ad sc sv M (pc + 3) lv (.int (mI (max x y)) :: st) mem o) : zG La ad sc sv M pc lv (.int (mI y) :: .int (mI x) :: st) mem o :=
  zG_st (fun C hP hS hl w => va_mmax C.1 C.2.1 (by rw [C.2.2.1]; exact hl.1.symm) C.2.2.2.1 (C.2.2.2.2.1 _ hl1) (C.2.2.2.2.1 _ hl2) (C.2.2.2.2.1 _ hl3) (C.2.2.2.2.1 _ hl4) hf hlo (Nat.zero_le _) (Nat.zero_le _) hd (by
    have e : (if mI x < mI y then mI y else mI x) = mI (max x y) := by
      by_cases h : x < y
      · rw [if_pos ((mI_lt hx hy).mpr h)]; congr 1; omega
      · rw [if_neg (fun g => h ((mI_lt hx hy).mp g))]; congr 1; omega
    rw [e]; exact w)) (k (R32_max hx hy))
theorem z_mmin {x y : Int} {index : Nat} (hd : decode M.2.1 pc = .ok (.invokestatic index, 3)) (hx : R32 x) (hy : R32 y) (hl1 : Cond.methodLink M.1 index Lib.Math.min.name ∈ zall) (hl2 : Cond.static Lib.Math.min.name ∈ zall) (hl3 : Cond.initialized "java/lang/Math" ∈ zall) (hl4 : Cond.code Lib.Math.min.name Lib.Math.min.code 2 (some .int) ∈ zall) (hf : 1 ≤ M.2.2.2.2.2.frames) (hlo : (st.map fun v => v.category).sum + 13 ≤ M.2.2.2.2.2.locals) (k : R32 (min x y) → zG La ad sc sv M (pc + 3) lv (.int (mI (min x y)) :: st) mem o) : zG La ad sc sv M pc lv (.int (mI y) :: .int (mI x) :: st) mem o :=
  zG_st (fun C hP hS hl w => va_mmin C.1 C.2.1 (by rw [C.2.2.1]; exact hl.1.symm) C.2.2.2.1 (C.2.2.2.2.1 _ hl1) (C.2.2.2.2.1 _ hl2) (C.2.2.2.2.1 _ hl3) (C.2.2.2.2.1 _ hl4) hf hlo (Nat.zero_le _) (Nat.zero_le _) hd (by
    have e : (if mI y < mI x then mI y else mI x) = mI (min x y) := by
      by_cases h : y < x
      · rw [if_pos ((mI_lt hy hx).mpr h)]; congr 1; omega
      · rw [if_neg (fun g => h ((mI_lt hy hx).mp g))]; congr 1; omega
    rw [e]; exact w)) (k (R32_min hx hy))
theorem z_mabs {x : Int} {index : Nat} (hd : decode M.2.1 pc = .ok (.invokestatic index, 3)) (hx : R32 x) (hl1 : Cond.methodLink M.1 index Lib.Math.abs.name ∈ zall) (hl2 : Cond.static Lib.Math.abs.name ∈ zall) (hl3 : Cond.initialized "java/lang/Math" ∈ zall) (hl4 : Cond.code Lib.Math.abs.name Lib.Math.abs.code 1 (some .int) ∈ zall) (hf : 1 ≤ M.2.2.2.2.2.frames) (hlo : (st.map fun v => v.category).sum + 13 ≤ M.2.2.2.2.2.locals) (k : R32 (zabs x) → zG La ad sc sv M (pc + 3) lv (.int (mI (zabs x)) :: st) mem o) : zG La ad sc sv M pc lv (.int (mI x) :: st) mem (chk (R32 (zabs x)) o) :=
  zG_chk (fun hR => zG_st (fun C hP hS hl w => va_mabs C.1 C.2.1 (by rw [C.2.2.1]; exact hl.1.symm) C.2.2.2.1 (C.2.2.2.2.1 _ hl1) (C.2.2.2.2.1 _ hl2) (C.2.2.2.2.1 _ hl3) (C.2.2.2.2.1 _ hl4) hf hlo (Nat.zero_le _) (Nat.zero_le _) hd (by
    have e : (if 0 ≤ mI x then mI x else 0 - mI x) = mI (zabs x) := by
      unfold zabs
      by_cases h : 0 ≤ x
      · rw [if_pos ((mI_ge0 hx).mpr h), if_pos h]
      · rw [if_neg (fun g => h ((mI_ge0 hx).mp g)), if_neg h, ← mI_0, mI_sub]; congr 1; omega
    rw [e]; exact w)) (k hR))
theorem z_get {i k ci N index : Nat} {sp : List (Option (Option Nat))} {C0 : String} {T : u_T} {ty : Nat → FieldType} {x : Option (Option Nat)} (hd : decode M.2.1 pc = .ok (.getfield index, 3)) (hc : zcl ci C0 T N ty) (hi : La[i]? = some (0, ci, sp)) (hs : sp[k]? = some x) (hk : k < N) (hw : Cond.fieldLink M.1 index (T k).1 (T k).2.1 (T k).2.2.1 ∈ zall) (kk : zG La ad sc sv M (pc + 3) lv (zfv ad mem i k x :: st) mem o) : zG La ad sc sv M pc lv (.ref (ad i) :: st) mem o :=
  zG_st (fun C hP hS hl w => va_get C.1 C.2.1 C.2.2.2.2.1 hc.2.1 C.2.2.2.1 C.2.2.2.2.2.2.2.2.1 hP i (zwl_get hi) hc.1 k hk (C.2.2.2.2.1 _ hw) (fun _ h => h) (by show (List.mapIdx _ _)[k]? = _; rw [List.getElem?_mapIdx, hs]; rfl) hd w) kk
theorem z_getI {i k ci N index : Nat} {sp : List (Option (Option Nat))} {C0 : String} {T : u_T} {ty : Nat → FieldType} (hd : decode M.2.1 pc = .ok (.getfield index, 3)) (hc : zcl ci C0 T N ty) (hi : La[i]? = some (0, ci, sp)) (hs : sp[k]? = some none) (hk : k < N) (hw : Cond.fieldLink M.1 index (T k).1 (T k).2.1 (T k).2.2.1 ∈ zall) (kk : R32 (mem i k) → zG La ad sc sv M (pc + 3) lv (.int (mI (mem i k)) :: st) mem o) : zG La ad sc sv M pc lv (.ref (ad i) :: st) mem o :=
  zG_mr (fun hM => z_get hd hc hi hs hk hw (kk (hM i k)))
theorem z_getR {i k ci N index j : Nat} {sp : List (Option (Option Nat))} {C0 : String} {T : u_T} {ty : Nat → FieldType} (hd : decode M.2.1 pc = .ok (.getfield index, 3)) (hc : zcl ci C0 T N ty) (hi : La[i]? = some (0, ci, sp)) (hs : sp[k]? = some (some (some j))) (hk : k < N) (hw : Cond.fieldLink M.1 index (T k).1 (T k).2.1 (T k).2.2.1 ∈ zall) (kk : zG La ad sc sv M (pc + 3) lv (.ref (ad j) :: st) mem o) : zG La ad sc sv M pc lv (.ref (ad i) :: st) mem o :=
  z_get hd hc hi hs hk hw kk
theorem z_getM {i k ci N index : Nat} {sp : List (Option (Option Nat))} {C0 : String} {T : u_T} {ty : Nat → FieldType} (hd : decode M.2.1 pc = .ok (.getfield index, 3)) (hc : zcl ci C0 T N ty) (hi : La[i]? = some (0, ci, sp)) (hs : sp[k]? = some (some none)) (hk : k < N) (hw : Cond.fieldLink M.1 index (T k).1 (T k).2.1 (T k).2.2.1 ∈ zall) (kk : zG La ad sc sv M (pc + 3) lv (.ref (ad (mem i k).toNat) :: st) mem o) : zG La ad sc sv M pc lv (.ref (ad i) :: st) mem (chk (0 < mem i k) o) :=
  zG_chk (fun h => z_get hd hc hi hs hk hw (by rw [show zfv ad mem i k (some none) = .ref (ad (mem i k).toNat) from if_neg (by omega)]; exact kk))
theorem z_put {i k ci N index : Nat} {sp : List (Option (Option Nat))} {C0 : String} {T : u_T} {ty : Nat → FieldType} {x : Option (Option Nat)} {v : Int} {v0 : Value} (hd : decode M.2.1 pc = .ok (.putfield index, 3)) (hc : zcl ci C0 T N ty) (hi : La[i]? = some (0, ci, sp)) (hs : sp[k]? = some x) (hk : k < N) (hfin : (T k).2.2.2 = false) (hn : narrow (ty k) v0 = v0) (hfit : fits (ty k) v0 = true) (hv0 : v0 = zfv ad (wr mem i k v) i k x) (hv : R32 v) (hw : Cond.fieldLink M.1 index (T k).1 (T k).2.1 (T k).2.2.1 ∈ zall) (kk : zG La ad sc sv M (pc + 3) lv st (wr mem i k v) o) : zG La ad sc sv M pc lv (v0 :: .ref (ad i) :: st) mem o := by
  intro hM r mem' ho
  obtain ⟨h1, h2, h3⟩ := kk (MR_wr hM hv) r mem' ho
  refine ⟨h1, h2, fun p l e s m args below meth c H locs ls D cyI cyZ C hP hS hl => ?_⟩
  have hlen : k < (sp.mapIdx (fun k x => zfv ad mem i k x)).length := by rw [List.length_mapIdx]; exact (List.getElem?_eq_some_iff.mp hs).1
  refine va_put C.1 C.2.1 C.2.2.2.2.1 hc.2.1 ty hc.2.2.1 hc.2.2.2 C.2.2.2.1 C.2.2.2.2.2.2.2.2.1 hP (zwl_D C.2.2.2.2.2.2.2.1) hS i (zwl_get hi) hc.1 k hk (C.2.2.2.2.1 _ hw) (fun _ h => h) hfin (hc.2.2.1 k hk) hn hfit hlen hd (fun H1 locs1 hP1 hD1 hS1 => ?_)
  rw [zwl_set (k := k) (v := v) hi (by show Sum.inr (ci, _) = Sum.inr (ci, _); rw [zfld_set (v := v) (fun s9 h9 => by rw [hs] at h9; cases h9; exact hv0)])] at hP1
  exact h3 p l e s m args below meth c H1 locs1 ls D cyI cyZ C hP1 hS1 hl
theorem z_putI {i k ci N index : Nat} {sp : List (Option (Option Nat))} {C0 : String} {T : u_T} {ty : Nat → FieldType} {v : Int} (hd : decode M.2.1 pc = .ok (.putfield index, 3)) (hc : zcl ci C0 T N ty) (hi : La[i]? = some (0, ci, sp)) (hs : sp[k]? = some none) (hk : k < N) (hfin : (T k).2.2.2 = false) (hty : ty k = .int) (hv : R32 v) (hw : Cond.fieldLink M.1 index (T k).1 (T k).2.1 (T k).2.2.1 ∈ zall) (kk : zG La ad sc sv M (pc + 3) lv st (wr mem i k v) o) : zG La ad sc sv M pc lv (.int (mI v) :: .ref (ad i) :: st) mem o :=
  z_put (x := none) hd hc hi hs hk hfin (by rw [hty]; rfl) (by rw [hty]; rfl) (by simp [zfv, wr]) hv hw kk
theorem z_putZ {i k ci N index : Nat} {sp : List (Option (Option Nat))} {C0 : String} {T : u_T} {ty : Nat → FieldType} {v : Int} (hd : decode M.2.1 pc = .ok (.putfield index, 3)) (hc : zcl ci C0 T N ty) (hi : La[i]? = some (0, ci, sp)) (hs : sp[k]? = some none) (hk : k < N) (hfin : (T k).2.2.2 = false) (hty : ty k = .boolean) (hv : v = 0 ∨ v = 1) (hw : Cond.fieldLink M.1 index (T k).1 (T k).2.1 (T k).2.2.1 ∈ zall) (kk : zG La ad sc sv M (pc + 3) lv st (wr mem i k v) o) : zG La ad sc sv M pc lv (.int (mI v) :: .ref (ad i) :: st) mem o :=
  z_put (x := none) hd hc hi hs hk hfin (by rw [hty]; rcases hv with rfl | rfl <;> decide +kernel) (by rw [hty]; rcases hv with rfl | rfl <;> decide +kernel) (by simp [zfv, wr]) (by omega) hw kk
theorem z_putM {i k ci N index j : Nat} {sp : List (Option (Option Nat))} {C0 : String} {T : u_T} {ty : Nat → FieldType} {t1 : FieldType} (hd : decode M.2.1 pc = .ok (.putfield index, 3)) (hc : zcl ci C0 T N ty) (hi : La[i]? = some (0, ci, sp)) (hs : sp[k]? = some (some none)) (hk : k < N) (hfin : (T k).2.2.2 = false) (hty : ty k = .array t1) (hj : 0 < j ∧ j < 1000) (hw : Cond.fieldLink M.1 index (T k).1 (T k).2.1 (T k).2.2.1 ∈ zall) (kk : zG La ad sc sv M (pc + 3) lv st (wr mem i k (j : Int)) o) : zG La ad sc sv M pc lv (.ref (ad j) :: .ref (ad i) :: st) mem o :=
  z_put (x := some none) hd hc hi hs hk hfin (by rw [hty]; rfl) (by rw [hty]; rfl) (by simp [zfv, wr]; omega) (by omega) hw kk
theorem z_iaload {a : Nat} {j : Int} (hd : decode M.2.1 pc = .ok (.iaload, 1)) (hj : R32 j) (k : R32 (mem a j.toNat) → zG La ad sc sv M (pc + 1) lv (.int (mI (mem a j.toNat)) :: st) mem o) : zG La ad sc sv M pc lv (.int (mI j) :: .ref (ad a) :: st) mem (chk (0 ≤ j ∧ j < zlen La a) o) := by
  refine zG_chk (fun h => zG_mr (fun hM => ?_))
  obtain ⟨n, sp, hL, hn⟩ := zlen_get h
  refine zG_st (fun C hP hS hl w => va_iald C.1 C.2.1 C.2.2.2.2.2.2.2.2.1 hP a 0 (zwl_get hL) rfl (vp_in_iff.mpr ?_) hd (by rw [mI_cl hj]; exact w)) (k (hM a j.toNat))
  rw [mI_toInt hj]; omega
theorem z_iastore {a : Nat} {j v : Int} (hd : decode M.2.1 pc = .ok (.iastore, 1)) (hj : R32 j) (hv : R32 v) (k : zG La ad sc sv M (pc + 1) lv st (wr mem a j.toNat v) o) : zG La ad sc sv M pc lv (.int (mI v) :: .int (mI j) :: .ref (ad a) :: st) mem (chk (0 ≤ j ∧ j < zlen La a) o) := by
  refine zG_chk (fun h => ?_)
  obtain ⟨n, sp, hL, hn⟩ := zlen_get h
  intro hM r mem' ho
  obtain ⟨h1, h2, h3⟩ := k (MR_wr hM hv) r mem' ho
  refine ⟨h1, h2, fun p l e s m args below meth c H locs ls D cyI cyZ C hP hS hl => ?_⟩
  refine va_iast C.1 C.2.1 C.2.2.2.2.2.2.2.2.1 hP (zwl_D C.2.2.2.2.2.2.2.1) hS a 0 (zwl_get hL) rfl (vp_in_iff.mpr (by rw [mI_toInt hj]; omega)) hd (fun H1 locs1 hP1 hD1 hS1 => ?_)
  rw [mI_cl hj, zwl_set (k := j.toNat) (v := v) hL (by
    show Sum.inl (cyI, n, Sum.inl _) = Sum.inl (cyI, n, Sum.inl _)
    congr 4
    funext q
    simp only [upd, wr, true_and]
    split <;> rfl)] at hP1
  exact h3 p l e s m args below meth c H1 locs1 ls D cyI cyZ C hP1 hS1 hl
theorem z_baload {a : Nat} {j : Int} (hd : decode M.2.1 pc = .ok (.baload, 1)) (hj : R32 j) (k : R32 (mem a j.toNat) → zG La ad sc sv M (pc + 1) lv (.int (mI (mem a j.toNat)) :: st) mem o) : zG La ad sc sv M pc lv (.int (mI j) :: .ref (ad a) :: st) mem (chk (0 ≤ j ∧ j < zlenZ La a) o) := by
  refine zG_chk (fun h => zG_mr (fun hM => ?_))
  obtain ⟨n, sp, hL, hn⟩ := zlenZ_get h
  refine zG_st (fun C hP hS hl w => va_zald C.1 C.2.1 C.2.2.2.2.2.2.2.2.1 hP a 1 (zwl_get hL) rfl (vp_in_iff.mpr ?_) hd (by rw [mI_cl hj]; exact w)) (k (hM a j.toNat))
  rw [mI_toInt hj]; omega
theorem z_bastore {a : Nat} {j v : Int} (hd : decode M.2.1 pc = .ok (.bastore, 1)) (hj : R32 j) (hv : v = 0 ∨ v = 1) (k : zG La ad sc sv M (pc + 1) lv st (wr mem a j.toNat v) o) : zG La ad sc sv M pc lv (.int (mI v) :: .int (mI j) :: .ref (ad a) :: st) mem (chk (0 ≤ j ∧ j < zlenZ La a) o) := by
  refine zG_chk (fun h => ?_)
  obtain ⟨n, sp, hL, hn⟩ := zlenZ_get h
  intro hM r mem' ho
  obtain ⟨h1, h2, h3⟩ := k (MR_wr hM (by omega)) r mem' ho
  refine ⟨h1, h2, fun p l e s m args below meth c H locs ls D cyI cyZ C hP hS hl => ?_⟩
  refine va_zast C.1 C.2.1 C.2.2.2.2.2.2.2.2.1 hP (zwl_D C.2.2.2.2.2.2.2.1) hS a 1 (zwl_get hL) rfl (vp_in_iff.mpr (by rw [mI_toInt hj]; omega)) hd (fun H1 locs1 hP1 hD1 hS1 => ?_)
  have hnar : vp_nar .boolean (mI v) = mI v := by rcases hv with rfl | rfl <;> decide +kernel
  rw [mI_cl hj, hnar, zwl_set (k := j.toNat) (v := v) hL (by
    show Sum.inl (cyZ, n, Sum.inl _) = Sum.inl (cyZ, n, Sum.inl _)
    congr 4
    funext q
    simp only [upd, wr, true_and]
    split <;> rfl)] at hP1
  exact h3 p l e s m args below meth c H1 locs1 ls D cyI cyZ C hP1 hS1 hl
theorem z_alen {a n : Nat} {sp : List (Option (Option Nat))} (hd : decode M.2.1 pc = .ok (.arraylength, 1)) (hL : La[a]? = some (1, n, sp)) (hn : n < 1000000) (k : R32 (zlen La a) → zG La ad sc sv M (pc + 1) lv (.int (mI (zlen La a)) :: st) mem o) : zG La ad sc sv M pc lv (.ref (ad a) :: st) mem o := by
  have e : zlen La a = (n : Int) := by unfold zlen; rw [hL]; rfl
  refine zG_st (fun C hP hS hl w => va_alen C.1 C.2.1 C.2.2.2.2.2.2.2.2.1 hP a 0 (zwl_get hL) (x := (n, .inl (fun j => mI (mem a j)))) rfl ?_ hd w) (k (by rw [e]; omega))
  rw [e]; exact mI_nI.symm
theorem z_tsIn {x cst : Int} {dflt lo hi off : Int} {offs : Array Int} {len tgt : Nat} (hd : decode M.2.1 pc = .ok (.tableswitch dflt lo hi offs, len)) (he : x = cst) (hc : R32 cst) (h1 : lo ≤ cst ∧ cst ≤ hi) (ho : offs[(cst - lo).toNat]? = some off) (ht : (pc : Int) + off = (tgt : Int)) (k : zG La ad sc sv M tgt lv st mem o) : zG La ad sc sv M pc lv (.int (mI x) :: st) mem o := by
  subst he
  exact zG_st (fun C hP hS hl w => lv_tableIn C.1 C.2.1 hd (by rw [mI_toInt hc]; omega) (by rw [mI_toInt hc]; omega) (by rw [mI_toInt hc]; exact ho) ht w) k
theorem z_tsOut {x : Int} {dflt lo hi : Int} {offs : Array Int} {len tgt : Nat} (hd : decode M.2.1 pc = .ok (.tableswitch dflt lo hi offs, len)) (hx : R32 x) (h1 : x < lo ∨ hi < x) (ht : (pc : Int) + dflt = (tgt : Int)) (k : zG La ad sc sv M tgt lv st mem o) : zG La ad sc sv M pc lv (.int (mI x) :: st) mem o :=
  zG_st (fun C hP hS hl w => lv_tableOut C.1 C.2.1 hd (by rw [mI_toInt hx]; exact h1) ht w) k
theorem z_ls {x off : Int} {dflt : Int} {ps : Array (Int × Int)} {len tgt : Nat} (hd : decode M.2.1 pc = .ok (.lookupswitch dflt ps, len)) (hx : R32 x) (hp : (ps.toList.zip (ps.toList.drop 1)).all (fun (a, next) => a.1 < next.1) = true) (ho : Op.lookupswitch.offset ps.toList dflt x = off) (ht : (pc : Int) + off = (tgt : Int)) (k : zG La ad sc sv M tgt lv st mem o) : zG La ad sc sv M pc lv (.int (mI x) :: st) mem o :=
  zG_st (fun C hP hS hl w => lv_lookup C.1 C.2.1 hd hp (by rw [mI_toInt hx]; exact ho) ht w) k
theorem z_iret {x : Int} (hd : decode M.2.1 pc = .ok (.ireturn, 1)) (hk : M.2.2.2.2.1 = 1) (hr : M.2.2.2.1 = some .int) (hx : R32 x) : zG La ad sc sv M pc lv [.int (mI x)] mem (some (x, mem)) := by
  intro hM r mem' ho
  cases ho
  rw [hk]
  exact ⟨hx, hM, fun p l e s m args below meth c H locs ls D cyI cyZ C hP hS hl => W.iret C.1 C.2.1 (by rw [C.2.2.2.2.2.1]; exact hr) (fun t ht hW => ⟨rfl, by rw [ht]; exact hP, hS.F ht⟩) hS.2.2 hd C.2.2.2.2.2.2.1⟩
theorem z_zret {x : Int} (hd : decode M.2.1 pc = .ok (.ireturn, 1)) (hk : M.2.2.2.2.1 = 4) (hr : M.2.2.2.1 = some .boolean) (hx : x = 0 ∨ x = 1) : zG La ad sc sv M pc lv [.int (mI x)] mem (some (x, mem)) := by
  intro hM r mem' ho
  cases ho
  rw [hk]
  exact ⟨hx, hM, fun p l e s m args below meth c H locs ls D cyI cyZ C hP hS hl => W.zret C.1 C.2.1 (by rw [C.2.2.2.2.2.1]; exact hr) (by rcases hx with rfl | rfl <;> decide +kernel) (fun t ht hW => ⟨rfl, by rw [ht]; exact hP, hS.F ht⟩) hS.2.2 hd C.2.2.2.2.2.2.1⟩
theorem z_lret {x : Int} (hd : decode M.2.1 pc = .ok (.lreturn, 1)) (hk : M.2.2.2.2.1 = 2) (hr : M.2.2.2.1 = some .long) (hx : R64 x) : zG La ad sc sv M pc lv [.long (mL x)] mem (some (x, mem)) := by
  intro hM r mem' ho
  cases ho
  rw [hk]
  exact ⟨hx, hM, fun p l e s m args below meth c H locs ls D cyI cyZ C hP hS hl => W.lret C.1 C.2.1 (by rw [C.2.2.2.2.2.1]; exact hr) (fun t ht hW => ⟨rfl, by rw [ht]; exact hP, hS.F ht⟩) hS.2.2 hd C.2.2.2.2.2.2.1⟩
theorem z_vret (hd : decode M.2.1 pc = .ok (.return_, 1)) (hk : M.2.2.2.2.1 = 0) (hr : M.2.2.2.1 = none) : zG La ad sc sv M pc lv [] mem (some (0, mem)) := by
  intro hM r mem' ho
  cases ho
  rw [hk]
  exact ⟨trivial, hM, fun p l e s m args below meth c H locs ls D cyI cyZ C hP hS hl => W.vret C.1 C.2.1 (by rw [C.2.2.2.2.2.1]; exact hr) (fun t ht hW => ⟨rfl, by rw [ht]; exact hP, hS.F ht⟩) hS.2.2 hd C.2.2.2.2.2.2.1⟩
theorem z_aret {i : Nat} {nm : String} (hd : decode M.2.1 pc = .ok (.areturn, 1)) (hk : M.2.2.2.2.1 = 3) (hr : M.2.2.2.1 = some (.object nm)) : zG La ad sc sv M pc lv [.ref (ad i)] mem (some ((i : Int), mem)) := by
  intro hM r mem' ho
  cases ho
  rw [hk]
  exact ⟨trivial, hM, fun p l e s m args below meth c H locs ls D cyI cyZ C hP hS hl => W.aret C.1 C.2.1 (by rw [C.2.2.2.2.2.1]; exact hr) (Or.inl ⟨nm, rfl⟩) (Or.inr ⟨_, rfl⟩) (fun t ht hW => ⟨rfl, by rw [ht]; exact hP, hS.F ht⟩) hS.2.2 hd C.2.2.2.2.2.2.1⟩
theorem z_sret {i : Nat} {nm : String} (hd : decode M.2.1 pc = .ok (.areturn, 1)) (hk : M.2.2.2.2.1 = 5) (hr : M.2.2.2.1 = some (.object nm)) : zG La ad sc sv M pc lv [.ref (sc i)] mem (some ((i : Int), mem)) := by
  intro hM r mem' ho
  cases ho
  rw [hk]
  exact ⟨trivial, hM, fun p l e s m args below meth c H locs ls D cyI cyZ C hP hS hl => W.aret C.1 C.2.1 (by rw [C.2.2.2.2.2.1]; exact hr) (Or.inl ⟨nm, rfl⟩) (Or.inr ⟨_, rfl⟩) (fun t ht hW => ⟨rfl, by rw [ht]; exact hP, hS.F ht⟩) hS.2.2 hd C.2.2.2.2.2.2.1⟩
theorem zCT_of {y : MethodName} {av : List Value} (hy : plainName y.cls = true) (hown : y.cls = M.1) (hlen : (lg_sl av).length ≤ M.2.2.1) (hlv : lv_args 0 av = lv) (k : zG La ad sc sv M 0 lv [] mem o) : zCT La ad sc sv M y av mem o := by
  intro hM r mem' ho
  obtain ⟨h1, h2, h3⟩ := k hM r mem' ho
  refine ⟨h1, h2, fun l D cyI cyZ hinj => ?_⟩
  refine Met.ofW (cc := M.2.1) (maxL := M.2.2.1) (ret := M.2.2.2.1) hy rfl ?_
  intro p e s m args below meth c s₁ B hml hv
  obtain ⟨rfl, hP, hK, hE⟩ := hv
  have hts := atoms_spec (ws := zws y M) B.pre
  have hl := lv_entry av (n := M.2.2.1) hlen
  rw [lg_entry_eq]
  rw [hlv] at hl
  refine h3 p l e s m _ below meth c s.heap [] _ D cyI cyZ ⟨B.exec, B.bytes, hml, by rw [← hown]; exact findClass_of_methodNamed B.named, fun w hw => hts w (List.mem_cons_of_mem _ hw), B.returns, B.notSynchronized, hinj, hK, hE⟩ hP va_S.rf hl
end ZROWS2
section ZCALL
variable {p : Program} {l : Launch} {e : Env} {R : Room} {s : State} {m : MethodId} {args : Array Value} {below : List Frame} {meth : Method} {c : Code} {H : Heap} {locs : List Loc} {Q : State → Prop}
theorem z_call_aux {La : List ZKD} {ad : Nat → Nat} {D : va_G} {cyI cyZ : ClassId} {v : Option Value} {mem1 : ZMem} {a : Array Value} {pc : Nat} {ls : Array Slot} {st0 rest : List Value} (hr : va_Run p l e R s m args below meth c H locs 0 0 0 0 (F0 m pc ls st0) rest (zQW La ad D cyI cyZ v mem1 a) (zAA La ad)) (hS : va_S (zAA La ad) s.heap H locs)
    (kk : ∀ (H1 : Heap) (locs1 : List Loc), va_P D vwCl (zwl La ad cyI cyZ mem1) H1 → va_S (zAA La ad) s.heap H1 locs1 → W p l e R s m args below meth c H1 locs1 0 0 Q (F0 m (pc + 3) ls (v.toList ++ rest))) : W p l e R s m args below meth c H locs 0 0 Q (F0 m pc ls st0) := by
  intro T hT X
  obtain ⟨v1, st₀, t, T', L, h0, X', hL, e1, e2, ⟨hv, hP, hz, hk⟩, hst⟩ := hr T hT X
  cases hv
  rw [h0] at hz hk
  obtain ⟨t2, a1, b1⟩ := kk T'.heap (locs ++ L) (by rw [e1]; exact hP)
    ⟨Nat.le_trans hS.1 (by rw [e1]; exact hz), fun q h1 h2 => by rw [e1, hk q (Nat.lt_of_lt_of_le h1 hS.1) h2]; exact hS.2.1 q h1 h2, fun q hq => by
      rcases List.mem_append.mp hq with h | h
      · exact hS.2.2 q h
      · exact hL q h⟩ T' rfl X'
  exact ⟨t2, hst t2 a1, b1⟩
end ZCALL
theorem zGoodIn {y y' : MethodName} {M M' : ZMI} (h : Cond.code y' M'.2.1 M'.2.2.1 M'.2.2.2.1 ∈ zall) : GoodIn (zall) (zws y' M') := by
  intro w hw
  have hz : w ∈ zall := by
    rcases List.mem_cons.mp hw with rfl | h2
    · exact h
    · exact h2
  exact ⟨hz, good_of_word (List.mem_filter.mp hz).2⟩
/-- the numbers of a call: frames, locals, nothing made -/
def zRoomOk (M M' : ZMI) : Prop := M'.2.2.2.2.2.cells = 0 ∧ M'.2.2.2.2.2.slots = 0 ∧ M'.2.2.2.2.2.frames + 1 ≤ M.2.2.2.2.2.frames ∧ 8 + (M'.2.2.1 + 11) + M'.2.2.2.2.2.locals ≤ M.2.2.2.2.2.locals
def zNames (y : MethodName) (n : Nat) : Prop := y.cls ≠ "java/lang/invoke/MethodHandle" ∧ y.cls ≠ "java/lang/invoke/VarHandle" ∧ (parseMethodDescriptor y.desc).map (fun d => d.parameters.length) = some n
section ZROWS3
variable {La : List ZKD} {ad sc sv : Nat → Nat} {M : ZMI} {pc : Nat} {lv lv' : List (Nat × Value)} {st st' : List Value} {mem mem1 : ZMem} {o o1 o2 : ZR}
theorem z_callS {M' : ZMI} {y : MethodName} {As stk : List Value} {index : Nat} {f : Int → ZMem → ZR} (hd : decode M.2.1 pc = .ok (.invokestatic index, 3)) (ct : zCT La ad sc sv M' y As mem o1) (hl1 : Cond.methodLink M.1 index y ∈ zall) (hl2 : Cond.static y ∈ zall) (hl3 : Cond.initialized y.cls ∈ zall) (hl4 : Cond.code y M'.2.1 M'.2.2.1 M'.2.2.2.1 ∈ zall) (hn : zNames y As.length) (hR : zRoomOk M M') (h8 : (st.map fun v => v.category).sum ≤ 8) (hstk : stk = As.reverse ++ st) 
    (k : ∀ r mem1, zRR M'.2.2.2.2.1 r → o1 = some (r, mem1) → zG La ad sc sv M (pc + 3) lv ((zrv ad sc M'.2.2.2.2.1 r).toList ++ st) mem1 (f r mem1)) : zG La ad sc sv M pc lv stk mem (bnd o1 f) := by
  intro hM r mem' ho
  obtain ⟨r1, m1, ho1, ho2⟩ := bnd_some_of ho
  obtain ⟨c1, c2, c3⟩ := ct hM r1 m1 ho1
  obtain ⟨h1, h2, h3⟩ := k r1 m1 c1 ho1 c2 r mem' ho2
  refine ⟨h1, h2, fun p l e s m args below meth c H locs ls D cyI cyZ C hP hS hl => ?_⟩
  subst hstk
  have hE := C.2.2.2.2.2.2.2.2.2
  refine z_call_aux (va_runS (As := As) (rest := st) (n := As.length) ⟨C.1, C.2.1, C.2.2.1, C.2.2.2.1, C.2.2.2.2.1⟩ (c3 l D cyI cyZ C.2.2.2.2.2.2.2.1) ⟨callB_of As.length C.2.2.2.2.1 (zGoodIn (y := y) (M := M) hl4) rfl hR.1 hR.2.1 (C.2.2.2.2.1 _ hl3) (C.2.2.2.2.1 _ hl1) hn ⟨hR.2.2.1, hR.2.2.2⟩, C.2.2.2.2.1 _ hl2⟩ ⟨fun a U g mk q => ?_, fun U hU hW => ⟨rfl, by rw [hU]; exact hP, va_K.moved hW.alike C.2.2.2.2.2.2.2.2.1, ?_⟩⟩ rfl rfl hl.1 rfl (lv_room h8) hd ⟨Nat.zero_le _, Nat.zero_le _⟩) hS (fun H1 locs1 hP1 hS1 => h3 p l e s m args below meth c H1 locs1 ls D cyI cyZ C hP1 hS1 hl)
  · obtain ⟨q0, q1, q2, q3⟩ := q
    exact ⟨q0, q1, va_K.moved (u := U) (U := U.calling g mk a) (Vm.Alike.refl U.vm) q2, zEV_same (u := U) (U := U.calling g mk a) rfl q3⟩
  · rw [hU]; exact zEV_kept (zEV_warm hW hE) (fun a h1 h2 => hS.2.1 a h1 h2)
theorem z_callV {M' : ZMI} {y : MethodName} {As stk : List Value} {index i ci N : Nat} {sp : List (Option (Option Nat))} {T : u_T} {ty : Nat → FieldType} {f : Int → ZMem → ZR} (hd : decode M.2.1 pc = .ok (.invokevirtual index, 3)) (ct : zCT La ad sc sv M' y (.ref (ad i) :: As) mem o1) (hc : zcl ci y.cls T N ty) (hi : La[i]? = some (0, ci, sp)) (hl1 : Cond.methodLink M.1 index y ∈ zall) (hl2 : Cond.instanceMethod y ∈ zall) (hl5 : Cond.selects y.cls y y ∈ zall) (hl3 : Cond.initialized y.cls ∈ zall) (hl4 : Cond.code y M'.2.1 M'.2.2.1 M'.2.2.2.1 ∈ zall) (hn : zNames y As.length) (hR : zRoomOk M M') (h8 : (st.map fun v => v.category).sum ≤ 8) (hstk : stk = As.reverse ++ .ref (ad i) :: st) 
    (k : ∀ r mem1, zRR M'.2.2.2.2.1 r → o1 = some (r, mem1) → zG La ad sc sv M (pc + 3) lv ((zrv ad sc M'.2.2.2.2.1 r).toList ++ st) mem1 (f r mem1)) : zG La ad sc sv M pc lv stk mem (bnd o1 f) := by
  intro hM r mem' ho
  obtain ⟨r1, m1, ho1, ho2⟩ := bnd_some_of ho
  obtain ⟨c1, c2, c3⟩ := ct hM r1 m1 ho1
  obtain ⟨h1, h2, h3⟩ := k r1 m1 c1 ho1 c2 r mem' ho2
  refine ⟨h1, h2, fun p l e s m args below meth c H locs ls D cyI cyZ C hP hS hl => ?_⟩
  subst hstk
  have hE := C.2.2.2.2.2.2.2.2.2
  refine z_call_aux (va_runV (As := As) (rest := st) (n := As.length) (C := y.cls) ⟨C.1, C.2.1, C.2.2.1, C.2.2.2.1, C.2.2.2.2.1⟩ (c3 l D cyI cyZ C.2.2.2.2.2.2.2.1) ⟨callB_of As.length C.2.2.2.2.1 (zGoodIn (y := y) (M := M) hl4) rfl hR.1 hR.2.1 (C.2.2.2.2.1 _ hl3) (C.2.2.2.2.1 _ hl1) hn ⟨hR.2.2.1, hR.2.2.2⟩, C.2.2.2.2.1 _ hl2, C.2.2.2.2.1 _ hl5⟩ ⟨fun a U g mk q => ?_, va_recv C.2.2.2.2.2.2.2.2.1 hP hc.1 (zwl_get hi), fun U hU hW => ⟨rfl, by rw [hU]; exact hP, va_K.moved hW.alike C.2.2.2.2.2.2.2.2.1, ?_⟩⟩ rfl rfl hl.1 rfl (lv_room h8) hd ⟨Nat.zero_le _, Nat.zero_le _⟩) hS (fun H1 locs1 hP1 hS1 => h3 p l e s m args below meth c H1 locs1 ls D cyI cyZ C hP1 hS1 hl)
  · obtain ⟨q0, q1, q2, q3⟩ := q
    exact ⟨q0, q1, va_K.moved (u := U) (U := U.calling g mk a) (Vm.Alike.refl U.vm) q2, zEV_same (u := U) (U := U.calling g mk a) rfl q3⟩
  · rw [hU]; exact zEV_kept (zEV_warm hW hE) (fun a h1 h2 => hS.2.1 a h1 h2)
theorem z_callS0 {M' : ZMI} {y : MethodName} {As stk : List Value} {index : Nat} {f : Int → ZMem → ZR} (hd : decode M.2.1 pc = .ok (.invokestatic index, 3)) (hk : M'.2.2.2.2.1 = 0) (ct : zCT La ad sc sv M' y As mem o1) (hl1 : Cond.methodLink M.1 index y ∈ zall) (hl2 : Cond.static y ∈ zall) (hl3 : Cond.initialized y.cls ∈ zall) (hl4 : Cond.code y M'.2.1 M'.2.2.1 M'.2.2.2.1 ∈ zall) (hn : zNames y As.length) (hR : zRoomOk M M') (h8 : (st.map fun v => v.category).sum ≤ 8) (hstk : stk = As.reverse ++ st) (k : ∀ r mem1, o1 = some (r, mem1) → zG La ad sc sv M (pc + 3) lv (st) mem1 (f r mem1)) : zG La ad sc sv M pc lv stk mem (bnd o1 f) :=
  z_callS hd ct hl1 hl2 hl3 hl4 hn hR h8 hstk (fun r mem1 c1 ho1 => by rw [hk] at c1 ⊢; exact k r mem1 ho1)
theorem z_callS1 {M' : ZMI} {y : MethodName} {As stk : List Value} {index : Nat} {f : Int → ZMem → ZR} (hd : decode M.2.1 pc = .ok (.invokestatic index, 3)) (hk : M'.2.2.2.2.1 = 1) (ct : zCT La ad sc sv M' y As mem o1) (hl1 : Cond.methodLink M.1 index y ∈ zall) (hl2 : Cond.static y ∈ zall) (hl3 : Cond.initialized y.cls ∈ zall) (hl4 : Cond.code y M'.2.1 M'.2.2.1 M'.2.2.2.1 ∈ zall) (hn : zNames y As.length) (hR : zRoomOk M M') (h8 : (st.map fun v => v.category).sum ≤ 8) (hstk : stk = As.reverse ++ st) (k : ∀ r mem1, R32 r → o1 = some (r, mem1) → zG La ad sc sv M (pc + 3) lv (.int (mI r) :: st) mem1 (f r mem1)) : zG La ad sc sv M pc lv stk mem (bnd o1 f) :=
  z_callS hd ct hl1 hl2 hl3 hl4 hn hR h8 hstk (fun r mem1 c1 ho1 => by rw [hk] at c1 ⊢; exact k r mem1 c1 ho1)
theorem z_callS2 {M' : ZMI} {y : MethodName} {As stk : List Value} {index : Nat} {f : Int → ZMem → ZR} (hd : decode M.2.1 pc = .ok (.invokestatic index, 3)) (hk : M'.2.2.2.2.1 = 2) (ct : zCT La ad sc sv M' y As mem o1) (hl1 : Cond.methodLink M.1 index y ∈ zall) (hl2 : Cond.static y ∈ zall) (hl3 : Cond.initialized y.cls ∈ zall) (hl4 : Cond.code y M'.2.1 M'.2.2.1 M'.2.2.2.1 ∈ zall) (hn : zNames y As.length) (hR : zRoomOk M M') (h8 : (st.map fun v => v.category).sum ≤ 8) (hstk : stk = As.reverse ++ st) (k : ∀ r mem1, R64 r → o1 = some (r, mem1) → zG La ad sc sv M (pc + 3) lv (.long (mL r) :: st) mem1 (f r mem1)) : zG La ad sc sv M pc lv stk mem (bnd o1 f) :=
  z_callS hd ct hl1 hl2 hl3 hl4 hn hR h8 hstk (fun r mem1 c1 ho1 => by rw [hk] at c1 ⊢; exact k r mem1 c1 ho1)
theorem z_callS3 {M' : ZMI} {y : MethodName} {As stk : List Value} {index : Nat} {f : Int → ZMem → ZR} (hd : decode M.2.1 pc = .ok (.invokestatic index, 3)) (hk : M'.2.2.2.2.1 = 3) (ct : zCT La ad sc sv M' y As mem o1) (hl1 : Cond.methodLink M.1 index y ∈ zall) (hl2 : Cond.static y ∈ zall) (hl3 : Cond.initialized y.cls ∈ zall) (hl4 : Cond.code y M'.2.1 M'.2.2.1 M'.2.2.2.1 ∈ zall) (hn : zNames y As.length) (hR : zRoomOk M M') (h8 : (st.map fun v => v.category).sum ≤ 8) (hstk : stk = As.reverse ++ st) (k : ∀ r mem1, o1 = some (r, mem1) → zG La ad sc sv M (pc + 3) lv (.ref (ad r.toNat) :: st) mem1 (f r mem1)) : zG La ad sc sv M pc lv stk mem (bnd o1 f) :=
  z_callS hd ct hl1 hl2 hl3 hl4 hn hR h8 hstk (fun r mem1 c1 ho1 => by rw [hk] at c1 ⊢; exact k r mem1 ho1)
theorem z_callS4 {M' : ZMI} {y : MethodName} {As stk : List Value} {index : Nat} {f : Int → ZMem → ZR} (hd : decode M.2.1 pc = .ok (.invokestatic index, 3)) (hk : M'.2.2.2.2.1 = 4) (ct : zCT La ad sc sv M' y As mem o1) (hl1 : Cond.methodLink M.1 index y ∈ zall) (hl2 : Cond.static y ∈ zall) (hl3 : Cond.initialized y.cls ∈ zall) (hl4 : Cond.code y M'.2.1 M'.2.2.1 M'.2.2.2.1 ∈ zall) (hn : zNames y As.length) (hR : zRoomOk M M') (h8 : (st.map fun v => v.category).sum ≤ 8) (hstk : stk = As.reverse ++ st) (k : ∀ r mem1, (r = 0 ∨ r = 1) → o1 = some (r, mem1) → zG La ad sc sv M (pc + 3) lv (.int (mI r) :: st) mem1 (f r mem1)) : zG La ad sc sv M pc lv stk mem (bnd o1 f) :=
  z_callS hd ct hl1 hl2 hl3 hl4 hn hR h8 hstk (fun r mem1 c1 ho1 => by rw [hk] at c1 ⊢; exact k r mem1 c1 ho1)
theorem z_callS5 {M' : ZMI} {y : MethodName} {As stk : List Value} {index : Nat} {f : Int → ZMem → ZR} (hd : decode M.2.1 pc = .ok (.invokestatic index, 3)) (hk : M'.2.2.2.2.1 = 5) (ct : zCT La ad sc sv M' y As mem o1) (hl1 : Cond.methodLink M.1 index y ∈ zall) (hl2 : Cond.static y ∈ zall) (hl3 : Cond.initialized y.cls ∈ zall) (hl4 : Cond.code y M'.2.1 M'.2.2.1 M'.2.2.2.1 ∈ zall) (hn : zNames y As.length) (hR : zRoomOk M M') (h8 : (st.map fun v => v.category).sum ≤ 8) (hstk : stk = As.reverse ++ st) (k : ∀ r mem1, o1 = some (r, mem1) → zG La ad sc sv M (pc + 3) lv (.ref (sc r.toNat) :: st) mem1 (f r mem1)) : zG La ad sc sv M pc lv stk mem (bnd o1 f) :=
  z_callS hd ct hl1 hl2 hl3 hl4 hn hR h8 hstk (fun r mem1 c1 ho1 => by rw [hk] at c1 ⊢; exact k r mem1 ho1)
theorem z_callV0 {M' : ZMI} {y : MethodName} {As stk : List Value} {index i ci N : Nat} {sp : List (Option (Option Nat))} {T : u_T} {ty : Nat → FieldType} {f : Int → ZMem → ZR} (hd : decode M.2.1 pc = .ok (.invokevirtual index, 3)) (hk : M'.2.2.2.2.1 = 0) (ct : zCT La ad sc sv M' y (.ref (ad i) :: As) mem o1) (hc : zcl ci y.cls T N ty) (hi : La[i]? = some (0, ci, sp)) (hl1 : Cond.methodLink M.1 index y ∈ zall) (hl2 : Cond.instanceMethod y ∈ zall) (hl5 : Cond.selects y.cls y y ∈ zall) (hl3 : Cond.initialized y.cls ∈ zall) (hl4 : Cond.code y M'.2.1 M'.2.2.1 M'.2.2.2.1 ∈ zall) (hn : zNames y As.length) (hR : zRoomOk M M') (h8 : (st.map fun v => v.category).sum ≤ 8) (hstk : stk = As.reverse ++ .ref (ad i) :: st) (k : ∀ r mem1, o1 = some (r, mem1) → zG La ad sc sv M (pc + 3) lv (st) mem1 (f r mem1)) : zG La ad sc sv M pc lv stk mem (bnd o1 f) :=
  z_callV hd ct hc hi hl1 hl2 hl5 hl3 hl4 hn hR h8 hstk (fun r mem1 c1 ho1 => by rw [hk] at c1 ⊢; exact k r mem1 ho1)
theorem z_callV1 {M' : ZMI} {y : MethodName} {As stk : List Value} {index i ci N : Nat} {sp : List (Option (Option Nat))} {T : u_T} {ty : Nat → FieldType} {f : Int → ZMem → ZR} (hd : decode M.2.1 pc = .ok (.invokevirtual index, 3)) (hk : M'.2.2.2.2.1 = 1) (ct : zCT La ad sc sv M' y (.ref (ad i) :: As) mem o1) (hc : zcl ci y.cls T N ty) (hi : La[i]? = some (0, ci, sp)) (hl1 : Cond.methodLink M.1 index y ∈ zall) (hl2 : Cond.instanceMethod y ∈ zall) (hl5 : Cond.selects y.cls y y ∈ zall) (hl3 : Cond.initialized y.cls ∈ zall) (hl4 : Cond.code y M'.2.1 M'.2.2.1 M'.2.2.2.1 ∈ zall) (hn : zNames y As.length) (hR : zRoomOk M M') (h8 : (st.map fun v => v.category).sum ≤ 8) (hstk : stk = As.reverse ++ .ref (ad i) :: st) (k : ∀ r mem1, R32 r → o1 = some (r, mem1) → zG La ad sc sv M (pc + 3) lv (.int (mI r) :: st) mem1 (f r mem1)) : zG La ad sc sv M pc lv stk mem (bnd o1 f) :=
  z_callV hd ct hc hi hl1 hl2 hl5 hl3 hl4 hn hR h8 hstk (fun r mem1 c1 ho1 => by rw [hk] at c1 ⊢; exact k r mem1 c1 ho1)
theorem z_callV2 {M' : ZMI} {y : MethodName} {As stk : List Value} {index i ci N : Nat} {sp : List (Option (Option Nat))} {T : u_T} {ty : Nat → FieldType} {f : Int → ZMem → ZR} (hd : decode M.2.1 pc = .ok (.invokevirtual index, 3)) (hk : M'.2.2.2.2.1 = 2) (ct : zCT La ad sc sv M' y (.ref (ad i) :: As) mem o1) (hc : zcl ci y.cls T N ty) (hi : La[i]? = some (0, ci, sp)) (hl1 : Cond.methodLink M.1 index y ∈ zall) (hl2 : Cond.instanceMethod y ∈ zall) (hl5 : Cond.selects y.cls y y ∈ zall) (hl3 : Cond.initialized y.cls ∈ zall) (hl4 : Cond.code y M'.2.1 M'.2.2.1 M'.2.2.2.1 ∈ zall) (hn : zNames y As.length) (hR : zRoomOk M M') (h8 : (st.map fun v => v.category).sum ≤ 8) (hstk : stk = As.reverse ++ .ref (ad i) :: st) (k : ∀ r mem1, R64 r → o1 = some (r, mem1) → zG La ad sc sv M (pc + 3) lv (.long (mL r) :: st) mem1 (f r mem1)) : zG La ad sc sv M pc lv stk mem (bnd o1 f) :=
  z_callV hd ct hc hi hl1 hl2 hl5 hl3 hl4 hn hR h8 hstk (fun r mem1 c1 ho1 => by rw [hk] at c1 ⊢; exact k r mem1 c1 ho1)
theorem z_callV3 {M' : ZMI} {y : MethodName} {As stk : List Value} {index i ci N : Nat} {sp : List (Option (Option Nat))} {T : u_T} {ty : Nat → FieldType} {f : Int → ZMem → ZR} (hd : decode M.2.1 pc = .ok (.invokevirtual index, 3)) (hk : M'.2.2.2.2.1 = 3) (ct : zCT La ad sc sv M' y (.ref (ad i) :: As) mem o1) (hc : zcl ci y.cls T N ty) (hi : La[i]? = some (0, ci, sp)) (hl1 : Cond.methodLink M.1 index y ∈ zall) (hl2 : Cond.instanceMethod y ∈ zall) (hl5 : Cond.selects y.cls y y ∈ zall) (hl3 : Cond.initialized y.cls ∈ zall) (hl4 : Cond.code y M'.2.1 M'.2.2.1 M'.2.2.2.1 ∈ zall) (hn : zNames y As.length) (hR : zRoomOk M M') (h8 : (st.map fun v => v.category).sum ≤ 8) (hstk : stk = As.reverse ++ .ref (ad i) :: st) (k : ∀ r mem1, o1 = some (r, mem1) → zG La ad sc sv M (pc + 3) lv (.ref (ad r.toNat) :: st) mem1 (f r mem1)) : zG La ad sc sv M pc lv stk mem (bnd o1 f) :=
  z_callV hd ct hc hi hl1 hl2 hl5 hl3 hl4 hn hR h8 hstk (fun r mem1 c1 ho1 => by rw [hk] at c1 ⊢; exact k r mem1 ho1)
theorem z_callV4 {M' : ZMI} {y : MethodName} {As stk : List Value} {index i ci N : Nat} {sp : List (Option (Option Nat))} {T : u_T} {ty : Nat → FieldType} {f : Int → ZMem → ZR} (hd : decode M.2.1 pc = .ok (.invokevirtual index, 3)) (hk : M'.2.2.2.2.1 = 4) (ct : zCT La ad sc sv M' y (.ref (ad i) :: As) mem o1) (hc : zcl ci y.cls T N ty) (hi : La[i]? = some (0, ci, sp)) (hl1 : Cond.methodLink M.1 index y ∈ zall) (hl2 : Cond.instanceMethod y ∈ zall) (hl5 : Cond.selects y.cls y y ∈ zall) (hl3 : Cond.initialized y.cls ∈ zall) (hl4 : Cond.code y M'.2.1 M'.2.2.1 M'.2.2.2.1 ∈ zall) (hn : zNames y As.length) (hR : zRoomOk M M') (h8 : (st.map fun v => v.category).sum ≤ 8) (hstk : stk = As.reverse ++ .ref (ad i) :: st) (k : ∀ r mem1, (r = 0 ∨ r = 1) → o1 = some (r, mem1) → zG La ad sc sv M (pc + 3) lv (.int (mI r) :: st) mem1 (f r mem1)) : zG La ad sc sv M pc lv stk mem (bnd o1 f) :=
  z_callV hd ct hc hi hl1 hl2 hl5 hl3 hl4 hn hR h8 hstk (fun r mem1 c1 ho1 => by rw [hk] at c1 ⊢; exact k r mem1 c1 ho1)
theorem z_callV5 {M' : ZMI} {y : MethodName} {As stk : List Value} {index i ci N : Nat} {sp : List (Option (Option Nat))} {T : u_T} {ty : Nat → FieldType} {f : Int → ZMem → ZR} (hd : decode M.2.1 pc = .ok (.invokevirtual index, 3)) (hk : M'.2.2.2.2.1 = 5) (ct : zCT La ad sc sv M' y (.ref (ad i) :: As) mem o1) (hc : zcl ci y.cls T N ty) (hi : La[i]? = some (0, ci, sp)) (hl1 : Cond.methodLink M.1 index y ∈ zall) (hl2 : Cond.instanceMethod y ∈ zall) (hl5 : Cond.selects y.cls y y ∈ zall) (hl3 : Cond.initialized y.cls ∈ zall) (hl4 : Cond.code y M'.2.1 M'.2.2.1 M'.2.2.2.1 ∈ zall) (hn : zNames y As.length) (hR : zRoomOk M M') (h8 : (st.map fun v => v.category).sum ≤ 8) (hstk : stk = As.reverse ++ .ref (ad i) :: st) (k : ∀ r mem1, o1 = some (r, mem1) → zG La ad sc sv M (pc + 3) lv (.ref (sc r.toNat) :: st) mem1 (f r mem1)) : zG La ad sc sv M pc lv stk mem (bnd o1 f) :=
  z_callV hd ct hc hi hl1 hl2 hl5 hl3 hl4 hn hR h8 hstk (fun r mem1 c1 ho1 => by rw [hk] at c1 ⊢; exact k r mem1 ho1)
theorem z_ldcS {index : Nat} (hd : decode M.2.1 pc = .ok (.ldc index, 2)) {i : Nat} (hi : i < 7) (hk : zsk i = index) (ho : M.1 = "TwoThirdsOfAnEgg$Book") (k : zG La ad sc sv M (pc + 2) lv (.ref (sc i) :: st) mem o) : zG La ad sc sv M pc lv st mem o := by
  subst hk
  exact zG_st (fun C hP hS hl w => va_ldcS C.1 C.2.1 C.2.2.2.1 (tx := zst i) (q := sc i) (by rw [ho]; exact C.2.2.2.2.2.2.2.2.2.2.2.2 i hi) hd w) k
theorem z_callT {M' : ZMI} {y : MethodName} {As stk : List Value} {index i : Nat} {f : Int → ZMem → ZR} (hd : decode M.2.1 pc = .ok (.invokevirtual index, 3)) (ct : zCT La ad sc sv M' y (.ref (sc i) :: As) mem o1) (hlt : ∀ r m, o1 = some (r, m) → i < 7) (hc : y.cls = "java/lang/String") (hl1 : Cond.methodLink M.1 index y ∈ zall) (hl2 : Cond.instanceMethod y ∈ zall) (hl5 : Cond.selects y.cls y y ∈ zall) (hl3 : Cond.initialized y.cls ∈ zall) (hl4 : Cond.code y M'.2.1 M'.2.2.1 M'.2.2.2.1 ∈ zall) (hn : zNames y As.length) (hR : zRoomOk M M') (h8 : (st.map fun v => v.category).sum ≤ 8) (hstk : stk = As.reverse ++ .ref (sc i) :: st)
    (k : ∀ r mem1, zRR M'.2.2.2.2.1 r → o1 = some (r, mem1) → zG La ad sc sv M (pc + 3) lv ((zrv ad sc M'.2.2.2.2.1 r).toList ++ st) mem1 (f r mem1)) : zG La ad sc sv M pc lv stk mem (bnd o1 f) := by
  intro hM r mem' ho
  obtain ⟨r1, m1, ho1, ho2⟩ := bnd_some_of ho
  have hi := hlt r1 m1 ho1
  obtain ⟨c1, c2, c3⟩ := ct hM r1 m1 ho1
  obtain ⟨h1, h2, h3⟩ := k r1 m1 c1 ho1 c2 r mem' ho2
  refine ⟨h1, h2, fun p l e s m args below meth c H locs ls D cyI cyZ C hP hS hl => ?_⟩
  subst hstk
  have hE := C.2.2.2.2.2.2.2.2.2
  refine z_call_aux (va_runV (As := As) (rest := st) (n := As.length) (C := y.cls) ⟨C.1, C.2.1, C.2.2.1, C.2.2.2.1, C.2.2.2.2.1⟩ (c3 l D cyI cyZ C.2.2.2.2.2.2.2.1) ⟨callB_of As.length C.2.2.2.2.1 (zGoodIn (y := y) (M := M) hl4) rfl hR.1 hR.2.1 (C.2.2.2.2.1 _ hl3) (C.2.2.2.2.1 _ hl1) hn ⟨hR.2.2.1, hR.2.2.2⟩, C.2.2.2.2.1 _ hl2, C.2.2.2.2.1 _ hl5⟩ ⟨fun a U g mk q => ?_, by rw [hc]; exact vk_recv hE.1 hi hS, fun U hU hW => ⟨rfl, by rw [hU]; exact hP, va_K.moved hW.alike C.2.2.2.2.2.2.2.2.1, ?_⟩⟩ rfl rfl hl.1 rfl (lv_room h8) hd ⟨Nat.zero_le _, Nat.zero_le _⟩) hS (fun H1 locs1 hP1 hS1 => h3 p l e s m args below meth c H1 locs1 ls D cyI cyZ C hP1 hS1 hl)
  · obtain ⟨q0, q1, q2, q3⟩ := q
    exact ⟨q0, q1, va_K.moved (u := U) (U := U.calling g mk a) (Vm.Alike.refl U.vm) q2, zEV_same (u := U) (U := U.calling g mk a) rfl q3⟩
  · rw [hU]; exact zEV_kept (zEV_warm hW hE) (fun a h1 h2 => hS.2.1 a h1 h2)
theorem z_callT1 {M' : ZMI} {y : MethodName} {As stk : List Value} {index i : Nat} {f : Int → ZMem → ZR} (hd : decode M.2.1 pc = .ok (.invokevirtual index, 3)) (hk : M'.2.2.2.2.1 = 1) (ct : zCT La ad sc sv M' y (.ref (sc i) :: As) mem o1) (hlt : ∀ r m, o1 = some (r, m) → i < 7) (hc : y.cls = "java/lang/String") (hl1 : Cond.methodLink M.1 index y ∈ zall) (hl2 : Cond.instanceMethod y ∈ zall) (hl5 : Cond.selects y.cls y y ∈ zall) (hl3 : Cond.initialized y.cls ∈ zall) (hl4 : Cond.code y M'.2.1 M'.2.2.1 M'.2.2.2.1 ∈ zall) (hn : zNames y As.length) (hR : zRoomOk M M') (h8 : (st.map fun v => v.category).sum ≤ 8) (hstk : stk = As.reverse ++ .ref (sc i) :: st)
    (k : ∀ r mem1, R32 r → o1 = some (r, mem1) → zG La ad sc sv M (pc + 3) lv (.int (mI r) :: st) mem1 (f r mem1)) : zG La ad sc sv M pc lv stk mem (bnd o1 f) :=
  z_callT hd ct hlt hc hl1 hl2 hl5 hl3 hl4 hn hR h8 hstk (fun r mem1 c1 ho1 => by rw [hk] at c1 ⊢; exact k r mem1 c1 ho1)
theorem z_callT4 {M' : ZMI} {y : MethodName} {As stk : List Value} {index i : Nat} {f : Int → ZMem → ZR} (hd : decode M.2.1 pc = .ok (.invokevirtual index, 3)) (hk : M'.2.2.2.2.1 = 4) (ct : zCT La ad sc sv M' y (.ref (sc i) :: As) mem o1) (hlt : ∀ r m, o1 = some (r, m) → i < 7) (hc : y.cls = "java/lang/String") (hl1 : Cond.methodLink M.1 index y ∈ zall) (hl2 : Cond.instanceMethod y ∈ zall) (hl5 : Cond.selects y.cls y y ∈ zall) (hl3 : Cond.initialized y.cls ∈ zall) (hl4 : Cond.code y M'.2.1 M'.2.2.1 M'.2.2.2.1 ∈ zall) (hn : zNames y As.length) (hR : zRoomOk M M') (h8 : (st.map fun v => v.category).sum ≤ 8) (hstk : stk = As.reverse ++ .ref (sc i) :: st)
    (k : ∀ r mem1, (r = 0 ∨ r = 1) → o1 = some (r, mem1) → zG La ad sc sv M (pc + 3) lv (.int (mI r) :: st) mem1 (f r mem1)) : zG La ad sc sv M pc lv stk mem (bnd o1 f) :=
  z_callT hd ct hlt hc hl1 hl2 hl5 hl3 hl4 hn hR h8 hstk (fun r mem1 c1 ho1 => by rw [hk] at c1 ⊢; exact k r mem1 c1 ho1)
theorem z_lsIn {x cst off : Int} {dflt : Int} {ps : Array (Int × Int)} {len tgt : Nat} (hd : decode M.2.1 pc = .ok (.lookupswitch dflt ps, len)) (he : x = cst) (hc : R32 cst) (hp : (ps.toList.zip (ps.toList.drop 1)).all (fun (a, next) => a.1 < next.1) = true) (ho : Op.lookupswitch.offset ps.toList dflt cst = off) (ht : (pc : Int) + off = (tgt : Int)) (k : zG La ad sc sv M tgt lv st mem o) : zG La ad sc sv M pc lv (.int (mI x) :: st) mem o := by
  subst he
  exact z_ls hd hc hp ho ht k
end ZROWS3
