/-! LIFTED ROWS: a machine state is told by a table of whole numbers (ZMem: cell, place), locals and stack; the world is a fixed list of cells (ZKD). -/
abbrev ZMem : Type := Nat → Nat → Int
abbrev ZKD : Type := Nat × Nat × List (Option (Option Nat))
abbrev ZMI : Type := String × ByteArray × Nat × Option FieldType × Nat × Room
abbrev ZR : Type := Option (Int × ZMem)
def mI (x : Int) : Int32 := Int32.ofInt x
def mL (x : Int) : Int64 := Int64.ofInt x
abbrev R32 (x : Int) : Prop := -2147483648 ≤ x ∧ x ≤ 2147483647
abbrev R64 (x : Int) : Prop := -9223372036854775808 ≤ x ∧ x ≤ 9223372036854775807
def MR (m : ZMem) : Prop := ∀ i k, R32 (m i k)
def wr (m : ZMem) (i k : Nat) (v : Int) : ZMem := fun a b => if a = i ∧ b = k then v else m a b
def chk (P : Prop) [Decidable P] (o : ZR) : ZR := if P then o else none
def bnd (o : ZR) (f : Int → ZMem → ZR) : ZR := match o with
  | some x => f x.1 x.2
  | none => none
theorem chk_pos {P : Prop} [Decidable P] {o : ZR} (h : P) : chk P o = o := if_pos h
theorem bnd_some (r : Int) (m : ZMem) (f : Int → ZMem → ZR) : bnd (some (r, m)) f = f r m := rfl
theorem chk_some {P : Prop} [Decidable P] {o : ZR} {x : Int × ZMem} (h : chk P o = some x) : P ∧ o = some x := by
  unfold chk at h
  split at h
  · exact ⟨by assumption, h⟩
  · cases h
theorem bnd_some_of {o : ZR} {f : Int → ZMem → ZR} {x : Int × ZMem} (h : bnd o f = some x) : ∃ r m, o = some (r, m) ∧ f r m = some x := by
  unfold bnd at h
  cases o with
  | none => cases h
  | some y => exact ⟨y.1, y.2, rfl, h⟩
theorem MR_wr {m : ZMem} (h : MR m) {i k : Nat} {v : Int} (hv : R32 v) : MR (wr m i k v) := by
  intro a b
  show R32 (if a = i ∧ b = k then v else m a b)
  split
  · exact hv
  · exact h a b
theorem mI_toInt {x : Int} (h : R32 x) : (mI x).toInt = x := Int32.toInt_ofInt_of_le (by omega) (by omega)
theorem mL_toInt {x : Int} (h : R64 x) : (mL x).toInt = x := Int64.toInt_ofInt_of_le (by omega) (by omega)
theorem mI_lt {x y : Int} (hx : R32 x) (hy : R32 y) : mI x < mI y ↔ x < y := by rw [Int32.lt_iff_toInt_lt, mI_toInt hx, mI_toInt hy]
theorem mI_le {x y : Int} (hx : R32 x) (hy : R32 y) : mI x ≤ mI y ↔ x ≤ y := by rw [Int32.le_iff_toInt_le, mI_toInt hx, mI_toInt hy]
theorem mI_eq {x y : Int} (hx : R32 x) (hy : R32 y) : mI x = mI y ↔ x = y := by rw [← Int32.toInt_inj, mI_toInt hx, mI_toInt hy]
theorem mI_0 : mI 0 = 0 := by decide +kernel
theorem R32_0 : R32 0 := by decide +kernel
theorem mI_lt0 {x : Int} (hx : R32 x) : mI x < 0 ↔ x < 0 := by rw [← mI_0]; exact mI_lt hx R32_0
theorem mI_le0 {x : Int} (hx : R32 x) : mI x ≤ 0 ↔ x ≤ 0 := by rw [← mI_0]; exact mI_le hx R32_0
theorem mI_ge0 {x : Int} (hx : R32 x) : 0 ≤ mI x ↔ 0 ≤ x := by rw [← mI_0]; exact mI_le R32_0 hx
theorem mI_gt0 {x : Int} (hx : R32 x) : 0 < mI x ↔ 0 < x := by rw [← mI_0]; exact mI_lt R32_0 hx
theorem mI_eq0 {x : Int} (hx : R32 x) : mI x = 0 ↔ x = 0 := by rw [← mI_0]; exact mI_eq hx R32_0
theorem mI_add (x y : Int) : mI x + mI y = mI (x + y) := (Int32.ofInt_add x y).symm
theorem mI_sub (x y : Int) : mI x - mI y = mI (x - y) := (Int32.ofInt_sub x y).symm
theorem mI_mul (x y : Int) : mI x * mI y = mI (x * y) := (Int32.ofInt_mul x y).symm
theorem mI_neg (x : Int) : -mI x = mI (-x) := (Int32.ofInt_neg x).symm
theorem mI_nI {n : Nat} : mI (n : Int) = nI n := Int32.ofInt_eq_ofNat
theorem mI_nat {x : Int} (h : 0 ≤ x) : mI x = nI x.toNat := by rw [← mI_nI, Int.toNat_of_nonneg h]
theorem mI_cl {x : Int} (h : R32 x) : (mI x).toNatClampNeg = x.toNat := Int32.toNatClampNeg_ofInt_of_le (by omega) (by omega)
theorem mI_ofToInt (v : Int32) : mI v.toInt = v := Int32.ofInt_toInt v
theorem R32_toInt (v : Int32) : R32 v.toInt := by
  have h1 := Int32.toInt_lt v
  have h2 := Int32.le_toInt v
  omega
theorem mI_bmod (x : Int) : mI (x.bmod 4294967296) = mI x := by
  apply Int32.toInt_inj.mp
  show (Int32.ofInt _).toInt = (Int32.ofInt _).toInt
  rw [Int32.toInt_ofInt, Int32.toInt_ofInt]
  show (x.bmod 4294967296).bmod 4294967296 = x.bmod 4294967296
  exact Int.bmod_bmod
theorem R32_bmod (x : Int) : R32 (x.bmod 4294967296) := by
  have h1 := Int.le_bmod (x := x) (m := 4294967296) (by decide)
  have h2 := Int.bmod_lt (x := x) (m := 4294967296) (by decide)
  omega
theorem mI_div {x y : Int} (hx : 0 ≤ x ∧ x ≤ 2147483647) (hy : 0 < y ∧ y ≤ 2147483647) : mI x / mI y = mI (x / y) := by
  have h := Int32.ofInt_tdiv (a := x) (b := y) (by rw [show Int32.minValue.toInt = -2147483648 by decide +kernel]; omega) (by rw [show Int32.maxValue.toInt = 2147483647 by decide +kernel]; omega) (by rw [show Int32.minValue.toInt = -2147483648 by decide +kernel]; omega) (by rw [show Int32.maxValue.toInt = 2147483647 by decide +kernel]; omega)
  rw [Int.tdiv_eq_ediv_of_nonneg hx.1] at h
  exact h.symm
theorem mI_rem {x y : Int} (hx : 0 ≤ x ∧ x ≤ 2147483647) (hy : 0 < y ∧ y ≤ 2147483647) : mI x - mI x / mI y * mI y = mI (x % y) := by
  rw [mI_div hx hy, mI_mul, mI_sub, Int.emod_def, Int.mul_comm (x / y) y]
theorem R32_div {x y : Int} (hx : 0 ≤ x ∧ x ≤ 2147483647) (hy : 0 < y) : R32 (x / y) := by
  have h1 := Int.ediv_nonneg hx.1 (Int.le_of_lt hy)
  have h2 := Int.ediv_le_self y hx.1
  omega
theorem R32_rem {x y : Int} (hx : 0 ≤ x ∧ x ≤ 2147483647) (hy : 0 < y) : R32 (x % y) := by
  have h1 := Int.emod_nonneg x (Int.ne_of_gt hy)
  have h2 : x % y ≤ x := by
    have h3 := Int.emod_def x y
    have h4 := Int.mul_nonneg (Int.le_of_lt hy) (Int.ediv_nonneg hx.1 (Int.le_of_lt hy))
    omega
  omega
/-! the world -/
def zfv (ad : Nat → Nat) (mem : ZMem) (i k : Nat) (x : Option (Option Nat)) : Value := match x with
  | none => .int (mI (mem i k))
  | some (some j) => .ref (ad j)
  | some none => if mem i k ≤ 0 then .null else .ref (ad (mem i k).toNat)
def zcE (ad : Nat → Nat) (cyI cyZ : ClassId) (mem : ZMem) (i : Nat) (kd : ZKD) : va_E := match kd with
  | (0, ci, sp) => .inr (ci, sp.mapIdx (fun k x => zfv ad mem i k x))
  | (1, n, _) => .inl (cyI, n, .inl (fun j => mI (mem i j)))
  | (_, n, _) => .inl (cyZ, n, .inl (fun j => mI (mem i j)))
def zwl (La : List ZKD) (ad : Nat → Nat) (cyI cyZ : ClassId) (mem : ZMem) : va_W := La.mapIdx (fun i kd => (ad i, zcE ad cyI cyZ mem i kd))
def zAA (La : List ZKD) (ad : Nat → Nat) : Nat → Prop := fun q => ∃ i, i < La.length ∧ q = ad i
def zInj (La : List ZKD) (ad : Nat → Nat) : Prop := ∀ i j, i < La.length → j < La.length → ad i = ad j → i = j
theorem zwl_get {La : List ZKD} {ad : Nat → Nat} {cyI cyZ : ClassId} {mem : ZMem} {i : Nat} {kd : ZKD} (h : La[i]? = some kd) : (zwl La ad cyI cyZ mem)[i]? = some (ad i, zcE ad cyI cyZ mem i kd) := by
  unfold zwl
  rw [List.getElem?_mapIdx, h]
  rfl
theorem zwl_get_inv {La : List ZKD} {ad : Nat → Nat} {cyI cyZ : ClassId} {mem : ZMem} {i : Nat} {q : Nat × va_E} (h : (zwl La ad cyI cyZ mem)[i]? = some q) : i < La.length ∧ q.1 = ad i := by
  unfold zwl at h
  rw [List.getElem?_mapIdx] at h
  cases hk : La[i]? with
  | none => rw [hk] at h; cases h
  | some kd =>
    rw [hk] at h
    cases h
    exact ⟨(List.getElem?_eq_some_iff.mp hk).1, rfl⟩
theorem zwl_D {La : List ZKD} {ad : Nat → Nat} {cyI cyZ : ClassId} {mem : ZMem} (h : zInj La ad) : va_D (zAA La ad) (zwl La ad cyI cyZ mem) := by
  refine ⟨fun i j p q hi hj hpq => ?_, fun k q hk => ?_⟩
  · obtain ⟨a1, a2⟩ := zwl_get_inv hi
    obtain ⟨b1, b2⟩ := zwl_get_inv hj
    exact h i j a1 b1 (by rw [← a2, ← b2, hpq])
  · obtain ⟨a1, a2⟩ := zwl_get_inv hk
    exact ⟨k, a1, a2⟩
theorem zcE_ne {ad : Nat → Nat} {cyI cyZ : ClassId} {mem : ZMem} {i j k : Nat} {v : Int} {kd : ZKD} (h : j ≠ i) : zcE ad cyI cyZ (wr mem i k v) j kd = zcE ad cyI cyZ mem j kd := by
  have hw : ∀ q, wr mem i k v j q = mem j q := fun q => by simp [wr, h]
  obtain ⟨a, n, sp⟩ := kd
  match a with
  | 0 => simp only [zcE, zfv, hw]
  | 1 => simp only [zcE, hw]
  | a + 2 => simp only [zcE, hw]
theorem zwl_set {La : List ZKD} {ad : Nat → Nat} {cyI cyZ : ClassId} {mem : ZMem} {i k : Nat} {v : Int} {kd : ZKD} {e : va_E} (h : La[i]? = some kd) (he : e = zcE ad cyI cyZ (wr mem i k v) i kd) : (zwl La ad cyI cyZ mem).set i (ad i, e) = zwl La ad cyI cyZ (wr mem i k v) := by
  apply List.ext_getElem?
  intro j
  by_cases hj : j = i
  · subst hj
    have hl : j < (zwl La ad cyI cyZ mem).length := (List.getElem?_eq_some_iff.mp (zwl_get h)).1
    rw [List.getElem?_set_self hl, zwl_get h, he]
  · rw [List.getElem?_set_ne (Ne.symm hj)]
    unfold zwl
    rw [List.getElem?_mapIdx, List.getElem?_mapIdx]
    cases La[j]? with
    | none => rfl
    | some kd' => show some (ad j, zcE ad cyI cyZ mem j kd') = some (ad j, zcE ad cyI cyZ (wr mem i k v) j kd'); rw [zcE_ne hj]
theorem zfld_set {ad : Nat → Nat} {mem : ZMem} {i k : Nat} {v : Int} {sp : List (Option (Option Nat))} {x : Value} (hx : ∀ s, sp[k]? = some s → x = zfv ad (wr mem i k v) i k s) : (sp.mapIdx (fun k x => zfv ad mem i k x)).set k x = sp.mapIdx (fun j x => zfv ad (wr mem i k v) i j x) := by
  apply List.ext_getElem?
  intro j
  by_cases hj : j = k
  · subst hj
    rw [List.getElem?_mapIdx]
    cases hs : sp[j]? with
    | none =>
      have : sp.length ≤ j := List.getElem?_eq_none_iff.mp hs
      rw [List.getElem?_eq_none (by simp; exact this)]
      rfl
    | some s0 =>
      have hl : j < sp.length := (List.getElem?_eq_some_iff.mp hs).1
      rw [List.getElem?_set_self (by simp; exact hl), hx s0 hs]
      rfl
  · rw [List.getElem?_set_ne (Ne.symm hj), List.getElem?_mapIdx, List.getElem?_mapIdx]
    cases sp[j]? with
    | none => rfl
    | some s0 =>
      show some _ = some _
      have hw : wr mem i k v i j = mem i j := by simp [wr, hj]
      simp only [zfv, hw]
/-- the texts: pool places, signs, lengths -/
def zsk (i : Nat) : Nat := [73, 75, 77, 79, 81, 83, 85].getD i 0
def zst (i : Nat) : String := ["f2;", "p1112;", "h1=2;", "tO2;", "s11111;", "c333;", ""].getD i ""
def zslen : List Nat := [3, 6, 5, 4, 7, 5, 0]
def zsbyt : List (List Int32) := [[102, 50, 59], [112, 49, 49, 49, 50, 59], [104, 49, 61, 50, 59], [116, 79, 50, 59], [115, 49, 49, 49, 49, 49, 59], [99, 51, 51, 51, 59], []]
/-- what stays: facts of cells outside the world -/
def zEV (sc : Nat → Nat) (sv : Nat → Nat) (A : Nat → Prop) (U : State) (H : Heap) : Prop := vk_S 7 zslen zsbyt sc sv A U H ∧ va_Z "java/lang/String" "COMPACT_STRINGS" "Z" (.int 1) A U H ∧ va_Zq "jdk/internal/util/Preconditions" "SIOOBE_FORMATTER" "Ljava/util/function/BiFunction;" A U H ∧ ∀ i : Nat, i < 7 → vk_R "TwoThirdsOfAnEgg$Book" (zsk i) (zst i) (sc i) U
theorem zEV_warm {sc sv : Nat → Nat} {A : Nat → Prop} {s U : State} {H : Heap} (hW : s.WarmedH U.vm) (h : zEV sc sv A s H) : zEV sc sv A U H := ⟨vk_S.moved hW.alike h.1, va_Z.moved hW.alike h.2.1, va_Zq.moved hW.alike h.2.2.1, fun i hi => vk_R.warm hW (h.2.2.2 i hi)⟩
theorem zEV_same {sc sv : Nat → Nat} {A : Nat → Prop} {u U : State} {H : Heap} (hv : U.vm = u.vm) (h : zEV sc sv A u H) : zEV sc sv A U H := by
  have ha : u.vm.Alike U.vm := by rw [hv]; exact Vm.Alike.refl u.vm
  exact ⟨vk_S.moved ha h.1, va_Z.moved ha h.2.1, va_Zq.moved ha h.2.2.1, fun i hi => vk_R.same hv (h.2.2.2 i hi)⟩
theorem zEV_kept {sc sv : Nat → Nat} {A : Nat → Prop} {U : State} {H H1 : Heap} (h : zEV sc sv A U H) (hq : ∀ a : Nat, a < H.size → ¬ A a → H1[a]? = H[a]?) : zEV sc sv A U H1 := ⟨h.1.kept hq, h.2.1.kept hq, h.2.2.1.kept hq, h.2.2.2⟩
def zall : List Cond := lw_tbl.filter goodWord
theorem zall_mem {w : Cond} (h : w ∈ lw_tbl) (hg : goodWord w = true) : w ∈ zall := List.mem_filter.mpr ⟨h, hg⟩
def zws (y : MethodName) (M : ZMI) : List Cond := Cond.code y M.2.1 M.2.2.1 M.2.2.2.1 :: zall
def ztys (cyI cyZ : ClassId) : List (ClassId × FieldType) := [(cyI, .int), (cyZ, .boolean)]
/-- the frame's fixed facts -/
def zCX (La : List ZKD) (ad sc sv : Nat → Nat) (M : ZMI) (p : Program) (s : State) (m : MethodId) (args : Array Value) (meth : Method) (c : Code) (D : va_G) (cyI cyZ : ClassId) : Prop :=
  p.tables.exec = Jvm.exec ∧ c.code = M.2.1 ∧ c.maxLocals = M.2.2.1 ∧ s.vm.findClass M.1 = some m.cls ∧ (∀ w ∈ zall, w.before args s = true) ∧ meth.sig.returnType = M.2.2.2.1 ∧ meth.locks = false ∧ zInj La ad ∧ va_K D vwCl (ztys cyI cyZ) s ∧ zEV sc sv (zAA La ad) s s.heap
def zQW (La : List ZKD) (ad : Nat → Nat) (D : va_G) (cyI cyZ : ClassId) (v : Option Value) (mem' : ZMem) : Array Value → State → Outcome → State → Prop := fun _ st o t => o = .returned v ∧ va_P D vwCl (zwl La ad cyI cyZ mem') t.heap ∧ va_F (zAA La ad) st t
def zGW (La : List ZKD) (ad sc sv : Nat → Nat) (M : ZMI) (pc : Nat) (lv : List (Nat × Value)) (st : List Value) (mem : ZMem) (v : Option Value) (mem' : ZMem) : Prop :=
  ∀ (p : Program) (l : Launch) (e : Env) (s : State) (m : MethodId) (args : Array Value) (below : List Frame) (meth : Method) (c : Code) (H : Heap) (locs : List Loc) (ls : Array Slot) (D : va_G) (cyI cyZ : ClassId),
    zCX La ad sc sv M p s m args meth c D cyI cyZ → va_P D vwCl (zwl La ad cyI cyZ mem) H → va_S (zAA La ad) s.heap H locs → lv_has ls M.2.2.1 lv →
    W p l e M.2.2.2.2.2 s m args below meth c H locs 0 0 (MQ below (zQW La ad D cyI cyZ v mem') args s 0 0 (zAA La ad)) (F0 m pc ls st)
/-- an answer, by the kind of its method: 0 nothing, 1 int, 2 long, 3 a cell of the world, 4 boolean, 5 a text -/
def zrv (ad sc : Nat → Nat) (k : Nat) (r : Int) : Option Value := match k with
  | 0 => none
  | 1 => some (.int (mI r))
  | 2 => some (.long (mL r))
  | 3 => some (.ref (ad r.toNat))
  | 4 => some (.int (mI r))
  | _ => some (.ref (sc r.toNat))
def zRR (k : Nat) (r : Int) : Prop := match k with
  | 1 => R32 r
  | 2 => R64 r
  | 4 => r = 0 ∨ r = 1
  | _ => True
def zG (La : List ZKD) (ad sc sv : Nat → Nat) (M : ZMI) (pc : Nat) (lv : List (Nat × Value)) (st : List Value) (mem : ZMem) (o : ZR) : Prop :=
  MR mem → ∀ r mem', o = some (r, mem') → zRR M.2.2.2.2.1 r ∧ MR mem' ∧ zGW La ad sc sv M pc lv st mem (zrv ad sc M.2.2.2.2.1 r) mem'
def zCT (La : List ZKD) (ad sc sv : Nat → Nat) (M : ZMI) (y : MethodName) (av : List Value) (mem : ZMem) (o : ZR) : Prop :=
  MR mem → ∀ r mem', o = some (r, mem') → zRR M.2.2.2.2.1 r ∧ MR mem' ∧ ∀ (l : Launch) (D : va_G) (cyI cyZ : ClassId), zInj La ad →
    Met l y (zws y M) M.2.2.2.2.2 (va_Pc av (fun U => va_P D vwCl (zwl La ad cyI cyZ mem) U.heap ∧ va_K D vwCl (ztys cyI cyZ) U ∧ zEV sc sv (zAA La ad) U U.heap)) (zQW La ad D cyI cyZ (zrv ad sc M.2.2.2.2.1 r) mem') 0 0 (zAA La ad)
section ZROWS
variable {La : List ZKD} {ad sc sv : Nat → Nat} {M : ZMI} {pc : Nat} {lv lv' : List (Nat × Value)} {st st' : List Value} {mem mem1 : ZMem} {o o1 o2 : ZR}
theorem zG_st {pc' : Nat} (f : ∀ {p : Program} {l : Launch} {e : Env} {s : State} {m : MethodId} {args : Array Value} {below : List Frame} {meth : Method} {c : Code} {H : Heap} {locs : List Loc} {ls : Array Slot} {D : va_G} {cyI cyZ : ClassId} {Q : State → Prop}, zCX La ad sc sv M p s m args meth c D cyI cyZ → va_P D vwCl (zwl La ad cyI cyZ mem) H → va_S (zAA La ad) s.heap H locs → lv_has ls M.2.2.1 lv → W p l e M.2.2.2.2.2 s m args below meth c H locs 0 0 Q (F0 m pc' ls st') → W p l e M.2.2.2.2.2 s m args below meth c H locs 0 0 Q (F0 m pc ls st))
    (k : zG La ad sc sv M pc' lv st' mem o) : zG La ad sc sv M pc lv st mem o := by
  intro hM r mem' ho
  obtain ⟨h1, h2, h3⟩ := k hM r mem' ho
  exact ⟨h1, h2, fun p l e s m args below meth c H locs ls D cyI cyZ C hP hS hl => f C hP hS hl (h3 p l e s m args below meth c H locs ls D cyI cyZ C hP hS hl)⟩
/-- a store of a local: the locals change, not the world -/
theorem zG_sl {pc' : Nat} (f : ∀ {p : Program} {l : Launch} {e : Env} {s : State} {m : MethodId} {args : Array Value} {below : List Frame} {meth : Method} {c : Code} {H : Heap} {locs : List Loc} {ls : Array Slot} {D : va_G} {cyI cyZ : ClassId} {Q : State → Prop}, zCX La ad sc sv M p s m args meth c D cyI cyZ → lv_has ls M.2.2.1 lv → (∀ ls' : Array Slot, lv_has ls' M.2.2.1 lv' → W p l e M.2.2.2.2.2 s m args below meth c H locs 0 0 Q (F0 m pc' ls' st')) → W p l e M.2.2.2.2.2 s m args below meth c H locs 0 0 Q (F0 m pc ls st))
    (k : zG La ad sc sv M pc' lv' st' mem o) : zG La ad sc sv M pc lv st mem o := by
  intro hM r mem' ho
  obtain ⟨h1, h2, h3⟩ := k hM r mem' ho
  exact ⟨h1, h2, fun p l e s m args below meth c H locs ls D cyI cyZ C hP hS hl => f C hl (fun ls' hl' => h3 p l e s m args below meth c H locs ls' D cyI cyZ C hP hS hl')⟩
theorem zG_br {tgt : Nat} (P : Prop) [Decidable P] (f : ∀ {p : Program} {l : Launch} {e : Env} {s : State} {m : MethodId} {args : Array Value} {below : List Frame} {meth : Method} {c : Code} {H : Heap} {locs : List Loc} {ls : Array Slot} {D : va_G} {cyI cyZ : ClassId} {Q : State → Prop}, zCX La ad sc sv M p s m args meth c D cyI cyZ → (P → W p l e M.2.2.2.2.2 s m args below meth c H locs 0 0 Q (F0 m tgt ls st')) → (¬ P → W p l e M.2.2.2.2.2 s m args below meth c H locs 0 0 Q (F0 m (pc + 3) ls st')) → W p l e M.2.2.2.2.2 s m args below meth c H locs 0 0 Q (F0 m pc ls st))
    (kt : P → zG La ad sc sv M tgt lv st' mem o1) (kf : ¬ P → zG La ad sc sv M (pc + 3) lv st' mem o2) : zG La ad sc sv M pc lv st mem (if P then o1 else o2) := by
  intro hM r mem' ho
  by_cases hP : P
  · rw [if_pos hP] at ho
    obtain ⟨h1, h2, h3⟩ := kt hP hM r mem' ho
    exact ⟨h1, h2, fun p l e s m args below meth c H locs ls D cyI cyZ C hPw hS hl => f C (fun _ => h3 p l e s m args below meth c H locs ls D cyI cyZ C hPw hS hl) (fun h => absurd hP h)⟩
  · rw [if_neg hP] at ho
    obtain ⟨h1, h2, h3⟩ := kf hP hM r mem' ho
    exact ⟨h1, h2, fun p l e s m args below meth c H locs ls D cyI cyZ C hPw hS hl => f C (fun h => absurd h hP) (fun _ => h3 p l e s m args below meth c H locs ls D cyI cyZ C hPw hS hl)⟩
/-- a branch whose outcome is known -/
theorem zG_bt {tgt : Nat} {P : Prop} (hP : P) (f : ∀ {p : Program} {l : Launch} {e : Env} {s : State} {m : MethodId} {args : Array Value} {below : List Frame} {meth : Method} {c : Code} {H : Heap} {locs : List Loc} {ls : Array Slot} {D : va_G} {cyI cyZ : ClassId} {Q : State → Prop}, zCX La ad sc sv M p s m args meth c D cyI cyZ → (P → W p l e M.2.2.2.2.2 s m args below meth c H locs 0 0 Q (F0 m tgt ls st')) → (¬ P → W p l e M.2.2.2.2.2 s m args below meth c H locs 0 0 Q (F0 m (pc + 3) ls st')) → W p l e M.2.2.2.2.2 s m args below meth c H locs 0 0 Q (F0 m pc ls st))
    (kt : zG La ad sc sv M tgt lv st' mem o) : zG La ad sc sv M pc lv st mem o := by
  intro hM r mem' ho
  obtain ⟨h1, h2, h3⟩ := kt hM r mem' ho
  exact ⟨h1, h2, fun p l e s m args below meth c H locs ls D cyI cyZ C hPw hS hl => f C (fun _ => h3 p l e s m args below meth c H locs ls D cyI cyZ C hPw hS hl) (fun h => absurd hP h)⟩
theorem zG_bf {tgt : Nat} {P : Prop} (hP : ¬ P) (f : ∀ {p : Program} {l : Launch} {e : Env} {s : State} {m : MethodId} {args : Array Value} {below : List Frame} {meth : Method} {c : Code} {H : Heap} {locs : List Loc} {ls : Array Slot} {D : va_G} {cyI cyZ : ClassId} {Q : State → Prop}, zCX La ad sc sv M p s m args meth c D cyI cyZ → (P → W p l e M.2.2.2.2.2 s m args below meth c H locs 0 0 Q (F0 m tgt ls st')) → (¬ P → W p l e M.2.2.2.2.2 s m args below meth c H locs 0 0 Q (F0 m (pc + 3) ls st')) → W p l e M.2.2.2.2.2 s m args below meth c H locs 0 0 Q (F0 m pc ls st))
    (kf : zG La ad sc sv M (pc + 3) lv st' mem o) : zG La ad sc sv M pc lv st mem o := by
  intro hM r mem' ho
  obtain ⟨h1, h2, h3⟩ := kf hM r mem' ho
  exact ⟨h1, h2, fun p l e s m args below meth c H locs ls D cyI cyZ C hPw hS hl => f C (fun h => absurd h hP) (fun _ => h3 p l e s m args below meth c H locs ls D cyI cyZ C hPw hS hl)⟩
theorem zG_chk {P : Prop} [Decidable P] (k : P → zG La ad sc sv M pc lv st mem o) : zG La ad sc sv M pc lv st mem (chk P o) := by
  intro hM r mem' ho
  obtain ⟨hP, h⟩ := chk_some ho
  exact k hP hM r mem' h
theorem zG_lv (ks : List Nat) (h : lv_pick lv ks = lv') (k : zG La ad sc sv M pc lv' st mem o) : zG La ad sc sv M pc lv st mem o := by
  intro hM r mem' ho
  obtain ⟨h1, h2, h3⟩ := k hM r mem' ho
  exact ⟨h1, h2, fun p l e s m args below meth c H locs ls D cyI cyZ C hP hS hl => h3 p l e s m args below meth c H locs ls D cyI cyZ C hP hS (lv_sub hl ks h)⟩
theorem zG_none : zG La ad sc sv M pc lv st mem none := by
  intro _ r mem' ho
  cases ho
/-- the world's numbers are of the machine's range -/
theorem zG_mr (k : MR mem → zG La ad sc sv M pc lv st mem o) : zG La ad sc sv M pc lv st mem o := fun hM => k hM hM
theorem z_iconst {n : Int} (hd : decode M.2.1 pc = .ok (.iconst n, 1)) (k : zG La ad sc sv M (pc + 1) lv (.int (mI n) :: st) mem o) : zG La ad sc sv M pc lv (st) mem o :=
  zG_st (fun C hP hS hl w => lv_iconst C.1 C.2.1 hd rfl w) k
theorem z_bipush {n : Int} {x : Int} (hd : decode M.2.1 pc = .ok (.bipush n, 2)) (hv : (Int8.ofInt n).toInt32 = mI x) (k : zG La ad sc sv M (pc + 2) lv (.int (mI x) :: st) mem o) : zG La ad sc sv M pc lv (st) mem o :=
  zG_st (fun C hP hS hl w => lv_bipush C.1 C.2.1 hd hv w) k
theorem z_sipush {n : Int} {x : Int} (hd : decode M.2.1 pc = .ok (.sipush n, 3)) (hv : (Int16.ofInt n).toInt32 = mI x) (k : zG La ad sc sv M (pc + 3) lv (.int (mI x) :: st) mem o) : zG La ad sc sv M pc lv (st) mem o :=
  zG_st (fun C hP hS hl w => lv_sipush C.1 C.2.1 hd hv w) k
theorem z_lconst {n : Fin 2} {x : Int} (hd : decode M.2.1 pc = .ok (.lconst n, 1)) (hv : Int64.ofNat (n : Nat) = mL x) (k : zG La ad sc sv M (pc + 1) lv (.long (mL x) :: st) mem o) : zG La ad sc sv M pc lv (st) mem o :=
  zG_st (fun C hP hS hl w => lv_lconst C.1 C.2.1 hd hv w) k
theorem z_iload_n {k : Fin 4} {x : Int32} (hd : decode M.2.1 pc = .ok (.iload_n k, 1)) (j : Nat) (hj : lv[j]? = some ((k : Nat), .int x)) (k : zG La ad sc sv M (pc + 1) lv (.int x :: st) mem o) : zG La ad sc sv M pc lv (st) mem o :=
  zG_st (fun C hP hS hl w => lv_iload_n C.1 C.2.1 hd rfl (lv_at hl j hj) w) k
theorem z_iload {i : Nat} {x : Int32} (hd : decode M.2.1 pc = .ok (.iload i, 2)) (j : Nat) (hj : lv[j]? = some (i, .int x)) (k : zG La ad sc sv M (pc + 2) lv (.int x :: st) mem o) : zG La ad sc sv M pc lv (st) mem o :=
  zG_st (fun C hP hS hl w => lv_iload C.1 C.2.1 hd (lv_at hl j hj) w) k
theorem z_istore_n {x : Int32} {k : Fin 4} (hd : decode M.2.1 pc = .ok (.istore_n k, 1)) (hn : (k : Nat) < M.2.2.1) (hl2 : ((k : Nat), .int x) :: lv.filter (fun q => !(q.1 == (k : Nat)) && !(q.1 + 1 == (k : Nat) && q.2.category == 2)) = lv') (k2 : zG La ad sc sv M (pc + 1) lv' st mem o) : zG La ad sc sv M pc lv (.int x :: st) mem o :=
  zG_sl (fun C hl w => lv_istore_n C.1 C.2.1 hd rfl hl hn hl2 w) k2
theorem z_istore {i : Nat} {x : Int32} (hd : decode M.2.1 pc = .ok (.istore i, 2)) (hn : i < M.2.2.1) (hl2 : (i, .int x) :: lv.filter (fun q => !(q.1 == i) && !(q.1 + 1 == i && q.2.category == 2)) = lv') (k2 : zG La ad sc sv M (pc + 2) lv' st mem o) : zG La ad sc sv M pc lv (.int x :: st) mem o :=
  zG_sl (fun C hl w => lv_istore C.1 C.2.1 hd hl hn hl2 w) k2
theorem z_lload_n {k : Fin 4} {x : Int64} (hd : decode M.2.1 pc = .ok (.lload_n k, 1)) (j : Nat) (hj : lv[j]? = some ((k : Nat), .long x)) (k : zG La ad sc sv M (pc + 1) lv (.long x :: st) mem o) : zG La ad sc sv M pc lv (st) mem o :=
  zG_st (fun C hP hS hl w => lv_lload_n C.1 C.2.1 hd rfl (lv_at hl j hj) w) k
theorem z_lload {i : Nat} {x : Int64} (hd : decode M.2.1 pc = .ok (.lload i, 2)) (j : Nat) (hj : lv[j]? = some (i, .long x)) (k : zG La ad sc sv M (pc + 2) lv (.long x :: st) mem o) : zG La ad sc sv M pc lv (st) mem o :=
  zG_st (fun C hP hS hl w => lv_lload C.1 C.2.1 hd (lv_at hl j hj) w) k
theorem z_lstore_n {x : Int64} {k : Fin 4} (hd : decode M.2.1 pc = .ok (.lstore_n k, 1)) (hn : (k : Nat) + 1 < M.2.2.1) (hl2 : ((k : Nat), .long x) :: lv.filter (fun q => !(q.1 == (k : Nat)) && (!(q.1 == (k : Nat) + 1) && !(q.1 + 1 == (k : Nat) && q.2.category == 2))) = lv') (k2 : zG La ad sc sv M (pc + 1) lv' st mem o) : zG La ad sc sv M pc lv (.long x :: st) mem o :=
  zG_sl (fun C hl w => lv_lstore_n C.1 C.2.1 hd rfl hl hn hl2 w) k2
theorem z_lstore {i : Nat} {x : Int64} (hd : decode M.2.1 pc = .ok (.lstore i, 2)) (hn : i + 1 < M.2.2.1) (hl2 : (i, .long x) :: lv.filter (fun q => !(q.1 == i) && (!(q.1 == i + 1) && !(q.1 + 1 == i && q.2.category == 2))) = lv') (k2 : zG La ad sc sv M (pc + 2) lv' st mem o) : zG La ad sc sv M pc lv (.long x :: st) mem o :=
  zG_sl (fun C hl w => lv_lstore C.1 C.2.1 hd hl hn hl2 w) k2
theorem z_aload_n {k : Fin 4} {x : Nat} (hd : decode M.2.1 pc = .ok (.aload_n k, 1)) (j : Nat) (hj : lv[j]? = some ((k : Nat), .ref x)) (k : zG La ad sc sv M (pc + 1) lv (.ref x :: st) mem o) : zG La ad sc sv M pc lv (st) mem o :=
  zG_st (fun C hP hS hl w => lv_aload_n C.1 C.2.1 hd rfl (lv_at hl j hj) w) k
theorem z_aload {i : Nat} {x : Nat} (hd : decode M.2.1 pc = .ok (.aload i, 2)) (j : Nat) (hj : lv[j]? = some (i, .ref x)) (k : zG La ad sc sv M (pc + 2) lv (.ref x :: st) mem o) : zG La ad sc sv M pc lv (st) mem o :=
  zG_st (fun C hP hS hl w => lv_aload C.1 C.2.1 hd (lv_at hl j hj) w) k
theorem z_astore_n {x : Nat} {k : Fin 4} (hd : decode M.2.1 pc = .ok (.astore_n k, 1)) (hn : (k : Nat) < M.2.2.1) (hl2 : ((k : Nat), .ref x) :: lv.filter (fun q => !(q.1 == (k : Nat)) && !(q.1 + 1 == (k : Nat) && q.2.category == 2)) = lv') (k2 : zG La ad sc sv M (pc + 1) lv' st mem o) : zG La ad sc sv M pc lv (.ref x :: st) mem o :=
  zG_sl (fun C hl w => lv_astore_n C.1 C.2.1 hd rfl hl hn hl2 w) k2
theorem z_astore {i : Nat} {x : Nat} (hd : decode M.2.1 pc = .ok (.astore i, 2)) (hn : i < M.2.2.1) (hl2 : (i, .ref x) :: lv.filter (fun q => !(q.1 == i) && !(q.1 + 1 == i && q.2.category == 2)) = lv') (k2 : zG La ad sc sv M (pc + 2) lv' st mem o) : zG La ad sc sv M pc lv (.ref x :: st) mem o :=
  zG_sl (fun C hl w => lv_astore C.1 C.2.1 hd hl hn hl2 w) k2
theorem z_iinc {i : Nat} {n : Int} {x : Int} (hd : decode M.2.1 pc = .ok (.iinc i n, 3)) (j : Nat) (hk : lv[j]? = some (i, .int (mI x))) (hn : i < M.2.2.1) (hl2 : (i, Value.int (mI (x + n))) :: lv.filter (fun q => !(q.1 == i) && !(q.1 + 1 == i && q.2.category == 2)) = lv') (k : R32 (x + n) → zG La ad sc sv M (pc + 3) lv' st mem o) : zG La ad sc sv M pc lv st mem (chk (R32 (x + n)) o) :=
  zG_chk (fun hR => zG_sl (fun C hl w => lv_iinc C.1 C.2.1 hd hl hk (mI_add x n) hn hl2 w) (k hR))
theorem z_iadd {x y : Int} (hd : decode M.2.1 pc = .ok (.iadd, 1)) (k : R32 (x + y) → zG La ad sc sv M (pc + 1) lv (.int (mI (x + y)) :: st) mem o) : zG La ad sc sv M pc lv (.int (mI y) :: .int (mI x) :: st) mem (chk (R32 (x + y)) o) :=
  zG_chk (fun hR => zG_st (fun C hP hS hl w => lv_iadd C.1 C.2.1 hd (by rw [mI_add]; exact w)) (k hR))
theorem z_iaddW {x y : Int} (hd : decode M.2.1 pc = .ok (.iadd, 1)) (k : R32 ((x + y).bmod 4294967296) → zG La ad sc sv M (pc + 1) lv (.int (mI ((x + y).bmod 4294967296)) :: st) mem o) : zG La ad sc sv M pc lv (.int (mI y) :: .int (mI x) :: st) mem o :=
  zG_st (fun C hP hS hl w => lv_iadd C.1 C.2.1 hd (by rw [mI_add, ← mI_bmod]; exact w)) (k (R32_bmod _))
theorem z_isub {x y : Int} (hd : decode M.2.1 pc = .ok (.isub, 1)) (k : R32 (x - y) → zG La ad sc sv M (pc + 1) lv (.int (mI (x - y)) :: st) mem o) : zG La ad sc sv M pc lv (.int (mI y) :: .int (mI x) :: st) mem (chk (R32 (x - y)) o) :=
  zG_chk (fun hR => zG_st (fun C hP hS hl w => lv_isub C.1 C.2.1 hd (by rw [mI_sub]; exact w)) (k hR))
theorem z_isubW {x y : Int} (hd : decode M.2.1 pc = .ok (.isub, 1)) (k : R32 ((x - y).bmod 4294967296) → zG La ad sc sv M (pc + 1) lv (.int (mI ((x - y).bmod 4294967296)) :: st) mem o) : zG La ad sc sv M pc lv (.int (mI y) :: .int (mI x) :: st) mem o :=
  zG_st (fun C hP hS hl w => lv_isub C.1 C.2.1 hd (by rw [mI_sub, ← mI_bmod]; exact w)) (k (R32_bmod _))
theorem z_imul {x y : Int} (hd : decode M.2.1 pc = .ok (.imul, 1)) (k : R32 (x * y) → zG La ad sc sv M (pc + 1) lv (.int (mI (x * y)) :: st) mem o) : zG La ad sc sv M pc lv (.int (mI y) :: .int (mI x) :: st) mem (chk (R32 (x * y)) o) :=
  zG_chk (fun hR => zG_st (fun C hP hS hl w => lv_imul C.1 C.2.1 hd (by rw [mI_mul]; exact w)) (k hR))
theorem z_imulW {x y : Int} (hd : decode M.2.1 pc = .ok (.imul, 1)) (k : R32 ((x * y).bmod 4294967296) → zG La ad sc sv M (pc + 1) lv (.int (mI ((x * y).bmod 4294967296)) :: st) mem o) : zG La ad sc sv M pc lv (.int (mI y) :: .int (mI x) :: st) mem o :=
  zG_st (fun C hP hS hl w => lv_imul C.1 C.2.1 hd (by rw [mI_mul, ← mI_bmod]; exact w)) (k (R32_bmod _))
theorem z_ineg {x : Int} (hd : decode M.2.1 pc = .ok (.ineg, 1)) (k : R32 (-x) → zG La ad sc sv M (pc + 1) lv (.int (mI (-x)) :: st) mem o) : zG La ad sc sv M pc lv (.int (mI x) :: st) mem (chk (R32 (-x)) o) :=
  zG_chk (fun hR => zG_st (fun C hP hS hl w => lv_ineg C.1 C.2.1 hd (by rw [mI_neg]; exact w)) (k hR))
theorem z_idiv {x y : Int} (hd : decode M.2.1 pc = .ok (.idiv, 1)) (hx : R32 x) (hy : R32 y) (k : R32 (x / y) → zG La ad sc sv M (pc + 1) lv (.int (mI (x / y)) :: st) mem o) : zG La ad sc sv M pc lv (.int (mI y) :: .int (mI x) :: st) mem (chk (0 ≤ x ∧ 0 < y) o) :=
  zG_chk (fun hR => zG_st (fun C hP hS hl w => lv_idiv C.1 C.2.1 hd (fun h => by have h9 := (mI_eq0 hy).mp h; omega) (by rw [mI_div ⟨hR.1, hx.2⟩ ⟨hR.2, hy.2⟩]; exact w)) (k (R32_div ⟨hR.1, hx.2⟩ hR.2)))
theorem z_irem {x y : Int} (hd : decode M.2.1 pc = .ok (.irem, 1)) (hx : R32 x) (hy : R32 y) (k : R32 (x % y) → zG La ad sc sv M (pc + 1) lv (.int (mI (x % y)) :: st) mem o) : zG La ad sc sv M pc lv (.int (mI y) :: .int (mI x) :: st) mem (chk (0 ≤ x ∧ 0 < y) o) :=
  zG_chk (fun hR => zG_st (fun C hP hS hl w => lv_irem C.1 C.2.1 hd (fun h => by have h9 := (mI_eq0 hy).mp h; omega) (by rw [mI_rem ⟨hR.1, hx.2⟩ ⟨hR.2, hy.2⟩]; exact w)) (k (R32_rem ⟨hR.1, hx.2⟩ hR.2)))
theorem z_if_eq {x : Int} {off : Int} {tgt : Nat} (hd : decode M.2.1 pc = .ok (.ifCond .eq off, 3)) (hx : R32 x) (ht : (pc : Int) + off = (tgt : Int)) (kt : x = 0 → zG La ad sc sv M tgt lv st mem o1) (kf : ¬ (x = 0) → zG La ad sc sv M (pc + 3) lv st mem o2) : zG La ad sc sv M pc lv (.int (mI x) :: st) mem (if x = 0 then o1 else o2) :=
  zG_br (x = 0) (fun C a b => lv_if_eq C.1 C.2.1 hd ht (fun h => a ((mI_eq0 hx).mp h)) (fun h => b (fun g => h ((mI_eq0 hx).mpr g)))) kt kf
theorem z_if_eq_t {x : Int} {off : Int} {tgt : Nat} (hd : decode M.2.1 pc = .ok (.ifCond .eq off, 3)) (hx : R32 x) (hp : x = 0) (ht : (pc : Int) + off = (tgt : Int)) (kt : zG La ad sc sv M tgt lv st mem o) : zG La ad sc sv M pc lv (.int (mI x) :: st) mem o :=
  zG_bt hp (fun C a b => lv_if_eq C.1 C.2.1 hd ht (fun h => a ((mI_eq0 hx).mp h)) (fun h => b (fun g => h ((mI_eq0 hx).mpr g)))) kt
theorem z_if_eq_f {x : Int} {off : Int} {tgt : Nat} (hd : decode M.2.1 pc = .ok (.ifCond .eq off, 3)) (hx : R32 x) (hp : ¬ (x = 0)) (ht : (pc : Int) + off = (tgt : Int)) (kf : zG La ad sc sv M (pc + 3) lv st mem o) : zG La ad sc sv M pc lv (.int (mI x) :: st) mem o :=
  zG_bf hp (fun C a b => lv_if_eq C.1 C.2.1 hd ht (fun h => a ((mI_eq0 hx).mp h)) (fun h => b (fun g => h ((mI_eq0 hx).mpr g)))) kf
theorem z_icmp_eq {x y : Int} {off : Int} {tgt : Nat} (hd : decode M.2.1 pc = .ok (.if_icmp .eq off, 3)) (hx : R32 x) (hy : R32 y) (ht : (pc : Int) + off = (tgt : Int)) (kt : x = y → zG La ad sc sv M tgt lv st mem o1) (kf : ¬ (x = y) → zG La ad sc sv M (pc + 3) lv st mem o2) : zG La ad sc sv M pc lv (.int (mI y) :: .int (mI x) :: st) mem (if x = y then o1 else o2) :=
  zG_br (x = y) (fun C a b => lv_icmp_eq C.1 C.2.1 hd ht (fun h => a ((mI_eq hx hy).mp h)) (fun h => b (fun g => h ((mI_eq hx hy).mpr g)))) kt kf
theorem z_icmp_eq_t {x y : Int} {off : Int} {tgt : Nat} (hd : decode M.2.1 pc = .ok (.if_icmp .eq off, 3)) (hx : R32 x) (hy : R32 y) (hp : x = y) (ht : (pc : Int) + off = (tgt : Int)) (k : zG La ad sc sv M tgt lv st mem o) : zG La ad sc sv M pc lv (.int (mI y) :: .int (mI x) :: st) mem o :=
  zG_bt hp (fun C a b => lv_icmp_eq C.1 C.2.1 hd ht (fun h => a ((mI_eq hx hy).mp h)) (fun h => b (fun g => h ((mI_eq hx hy).mpr g)))) k
theorem z_icmp_eq_f {x y : Int} {off : Int} {tgt : Nat} (hd : decode M.2.1 pc = .ok (.if_icmp .eq off, 3)) (hx : R32 x) (hy : R32 y) (hp : ¬ (x = y)) (ht : (pc : Int) + off = (tgt : Int)) (k : zG La ad sc sv M (pc + 3) lv st mem o) : zG La ad sc sv M pc lv (.int (mI y) :: .int (mI x) :: st) mem o :=
  zG_bf hp (fun C a b => lv_icmp_eq C.1 C.2.1 hd ht (fun h => a ((mI_eq hx hy).mp h)) (fun h => b (fun g => h ((mI_eq hx hy).mpr g)))) k
theorem z_if_lt {x : Int} {off : Int} {tgt : Nat} (hd : decode M.2.1 pc = .ok (.ifCond .lt off, 3)) (hx : R32 x) (ht : (pc : Int) + off = (tgt : Int)) (kt : x < 0 → zG La ad sc sv M tgt lv st mem o1) (kf : ¬ (x < 0) → zG La ad sc sv M (pc + 3) lv st mem o2) : zG La ad sc sv M pc lv (.int (mI x) :: st) mem (if x < 0 then o1 else o2) :=
  zG_br (x < 0) (fun C a b => lv_if_lt C.1 C.2.1 hd ht (fun h => a ((mI_lt0 hx).mp h)) (fun h => b (fun g => h ((mI_lt0 hx).mpr g)))) kt kf
theorem z_if_lt_t {x : Int} {off : Int} {tgt : Nat} (hd : decode M.2.1 pc = .ok (.ifCond .lt off, 3)) (hx : R32 x) (hp : x < 0) (ht : (pc : Int) + off = (tgt : Int)) (kt : zG La ad sc sv M tgt lv st mem o) : zG La ad sc sv M pc lv (.int (mI x) :: st) mem o :=
  zG_bt hp (fun C a b => lv_if_lt C.1 C.2.1 hd ht (fun h => a ((mI_lt0 hx).mp h)) (fun h => b (fun g => h ((mI_lt0 hx).mpr g)))) kt
theorem z_if_lt_f {x : Int} {off : Int} {tgt : Nat} (hd : decode M.2.1 pc = .ok (.ifCond .lt off, 3)) (hx : R32 x) (hp : ¬ (x < 0)) (ht : (pc : Int) + off = (tgt : Int)) (kf : zG La ad sc sv M (pc + 3) lv st mem o) : zG La ad sc sv M pc lv (.int (mI x) :: st) mem o :=
  zG_bf hp (fun C a b => lv_if_lt C.1 C.2.1 hd ht (fun h => a ((mI_lt0 hx).mp h)) (fun h => b (fun g => h ((mI_lt0 hx).mpr g)))) kf
theorem z_icmp_lt {x y : Int} {off : Int} {tgt : Nat} (hd : decode M.2.1 pc = .ok (.if_icmp .lt off, 3)) (hx : R32 x) (hy : R32 y) (ht : (pc : Int) + off = (tgt : Int)) (kt : x < y → zG La ad sc sv M tgt lv st mem o1) (kf : ¬ (x < y) → zG La ad sc sv M (pc + 3) lv st mem o2) : zG La ad sc sv M pc lv (.int (mI y) :: .int (mI x) :: st) mem (if x < y then o1 else o2) :=
  zG_br (x < y) (fun C a b => lv_icmp_lt C.1 C.2.1 hd ht (fun h => a ((mI_lt hx hy).mp h)) (fun h => b (fun g => h ((mI_lt hx hy).mpr g)))) kt kf
theorem z_icmp_lt_t {x y : Int} {off : Int} {tgt : Nat} (hd : decode M.2.1 pc = .ok (.if_icmp .lt off, 3)) (hx : R32 x) (hy : R32 y) (hp : x < y) (ht : (pc : Int) + off = (tgt : Int)) (k : zG La ad sc sv M tgt lv st mem o) : zG La ad sc sv M pc lv (.int (mI y) :: .int (mI x) :: st) mem o :=
  zG_bt hp (fun C a b => lv_icmp_lt C.1 C.2.1 hd ht (fun h => a ((mI_lt hx hy).mp h)) (fun h => b (fun g => h ((mI_lt hx hy).mpr g)))) k
theorem z_icmp_lt_f {x y : Int} {off : Int} {tgt : Nat} (hd : decode M.2.1 pc = .ok (.if_icmp .lt off, 3)) (hx : R32 x) (hy : R32 y) (hp : ¬ (x < y)) (ht : (pc : Int) + off = (tgt : Int)) (k : zG La ad sc sv M (pc + 3) lv st mem o) : zG La ad sc sv M pc lv (.int (mI y) :: .int (mI x) :: st) mem o :=
  zG_bf hp (fun C a b => lv_icmp_lt C.1 C.2.1 hd ht (fun h => a ((mI_lt hx hy).mp h)) (fun h => b (fun g => h ((mI_lt hx hy).mpr g)))) k
theorem z_if_ge {x : Int} {off : Int} {tgt : Nat} (hd : decode M.2.1 pc = .ok (.ifCond .ge off, 3)) (hx : R32 x) (ht : (pc : Int) + off = (tgt : Int)) (kt : 0 ≤ x → zG La ad sc sv M tgt lv st mem o1) (kf : ¬ (0 ≤ x) → zG La ad sc sv M (pc + 3) lv st mem o2) : zG La ad sc sv M pc lv (.int (mI x) :: st) mem (if 0 ≤ x then o1 else o2) :=
  zG_br (0 ≤ x) (fun C a b => lv_if_ge C.1 C.2.1 hd ht (fun h => a ((mI_ge0 hx).mp h)) (fun h => b (fun g => h ((mI_ge0 hx).mpr g)))) kt kf
theorem z_if_ge_t {x : Int} {off : Int} {tgt : Nat} (hd : decode M.2.1 pc = .ok (.ifCond .ge off, 3)) (hx : R32 x) (hp : 0 ≤ x) (ht : (pc : Int) + off = (tgt : Int)) (kt : zG La ad sc sv M tgt lv st mem o) : zG La ad sc sv M pc lv (.int (mI x) :: st) mem o :=
  zG_bt hp (fun C a b => lv_if_ge C.1 C.2.1 hd ht (fun h => a ((mI_ge0 hx).mp h)) (fun h => b (fun g => h ((mI_ge0 hx).mpr g)))) kt
theorem z_if_ge_f {x : Int} {off : Int} {tgt : Nat} (hd : decode M.2.1 pc = .ok (.ifCond .ge off, 3)) (hx : R32 x) (hp : ¬ (0 ≤ x)) (ht : (pc : Int) + off = (tgt : Int)) (kf : zG La ad sc sv M (pc + 3) lv st mem o) : zG La ad sc sv M pc lv (.int (mI x) :: st) mem o :=
  zG_bf hp (fun C a b => lv_if_ge C.1 C.2.1 hd ht (fun h => a ((mI_ge0 hx).mp h)) (fun h => b (fun g => h ((mI_ge0 hx).mpr g)))) kf
theorem z_icmp_ge {x y : Int} {off : Int} {tgt : Nat} (hd : decode M.2.1 pc = .ok (.if_icmp .ge off, 3)) (hx : R32 x) (hy : R32 y) (ht : (pc : Int) + off = (tgt : Int)) (kt : y ≤ x → zG La ad sc sv M tgt lv st mem o1) (kf : ¬ (y ≤ x) → zG La ad sc sv M (pc + 3) lv st mem o2) : zG La ad sc sv M pc lv (.int (mI y) :: .int (mI x) :: st) mem (if y ≤ x then o1 else o2) :=
  zG_br (y ≤ x) (fun C a b => lv_icmp_ge C.1 C.2.1 hd ht (fun h => a ((mI_le hy hx).mp h)) (fun h => b (fun g => h ((mI_le hy hx).mpr g)))) kt kf
theorem z_icmp_ge_t {x y : Int} {off : Int} {tgt : Nat} (hd : decode M.2.1 pc = .ok (.if_icmp .ge off, 3)) (hx : R32 x) (hy : R32 y) (hp : y ≤ x) (ht : (pc : Int) + off = (tgt : Int)) (k : zG La ad sc sv M tgt lv st mem o) : zG La ad sc sv M pc lv (.int (mI y) :: .int (mI x) :: st) mem o :=
  zG_bt hp (fun C a b => lv_icmp_ge C.1 C.2.1 hd ht (fun h => a ((mI_le hy hx).mp h)) (fun h => b (fun g => h ((mI_le hy hx).mpr g)))) k
theorem z_icmp_ge_f {x y : Int} {off : Int} {tgt : Nat} (hd : decode M.2.1 pc = .ok (.if_icmp .ge off, 3)) (hx : R32 x) (hy : R32 y) (hp : ¬ (y ≤ x)) (ht : (pc : Int) + off = (tgt : Int)) (k : zG La ad sc sv M (pc + 3) lv st mem o) : zG La ad sc sv M pc lv (.int (mI y) :: .int (mI x) :: st) mem o :=
  zG_bf hp (fun C a b => lv_icmp_ge C.1 C.2.1 hd ht (fun h => a ((mI_le hy hx).mp h)) (fun h => b (fun g => h ((mI_le hy hx).mpr g)))) k
theorem z_if_gt {x : Int} {off : Int} {tgt : Nat} (hd : decode M.2.1 pc = .ok (.ifCond .gt off, 3)) (hx : R32 x) (ht : (pc : Int) + off = (tgt : Int)) (kt : 0 < x → zG La ad sc sv M tgt lv st mem o1) (kf : ¬ (0 < x) → zG La ad sc sv M (pc + 3) lv st mem o2) : zG La ad sc sv M pc lv (.int (mI x) :: st) mem (if 0 < x then o1 else o2) :=
  zG_br (0 < x) (fun C a b => lv_if_gt C.1 C.2.1 hd ht (fun h => a ((mI_gt0 hx).mp h)) (fun h => b (fun g => h ((mI_gt0 hx).mpr g)))) kt kf
theorem z_if_gt_t {x : Int} {off : Int} {tgt : Nat} (hd : decode M.2.1 pc = .ok (.ifCond .gt off, 3)) (hx : R32 x) (hp : 0 < x) (ht : (pc : Int) + off = (tgt : Int)) (kt : zG La ad sc sv M tgt lv st mem o) : zG La ad sc sv M pc lv (.int (mI x) :: st) mem o :=
  zG_bt hp (fun C a b => lv_if_gt C.1 C.2.1 hd ht (fun h => a ((mI_gt0 hx).mp h)) (fun h => b (fun g => h ((mI_gt0 hx).mpr g)))) kt
theorem z_if_gt_f {x : Int} {off : Int} {tgt : Nat} (hd : decode M.2.1 pc = .ok (.ifCond .gt off, 3)) (hx : R32 x) (hp : ¬ (0 < x)) (ht : (pc : Int) + off = (tgt : Int)) (kf : zG La ad sc sv M (pc + 3) lv st mem o) : zG La ad sc sv M pc lv (.int (mI x) :: st) mem o :=
  zG_bf hp (fun C a b => lv_if_gt C.1 C.2.1 hd ht (fun h => a ((mI_gt0 hx).mp h)) (fun h => b (fun g => h ((mI_gt0 hx).mpr g)))) kf
theorem z_icmp_gt {x y : Int} {off : Int} {tgt : Nat} (hd : decode M.2.1 pc = .ok (.if_icmp .gt off, 3)) (hx : R32 x) (hy : R32 y) (ht : (pc : Int) + off = (tgt : Int)) (kt : y < x → zG La ad sc sv M tgt lv st mem o1) (kf : ¬ (y < x) → zG La ad sc sv M (pc + 3) lv st mem o2) : zG La ad sc sv M pc lv (.int (mI y) :: .int (mI x) :: st) mem (if y < x then o1 else o2) :=
  zG_br (y < x) (fun C a b => lv_icmp_gt C.1 C.2.1 hd ht (fun h => a ((mI_lt hy hx).mp h)) (fun h => b (fun g => h ((mI_lt hy hx).mpr g)))) kt kf
theorem z_icmp_gt_t {x y : Int} {off : Int} {tgt : Nat} (hd : decode M.2.1 pc = .ok (.if_icmp .gt off, 3)) (hx : R32 x) (hy : R32 y) (hp : y < x) (ht : (pc : Int) + off = (tgt : Int)) (k : zG La ad sc sv M tgt lv st mem o) : zG La ad sc sv M pc lv (.int (mI y) :: .int (mI x) :: st) mem o :=
  zG_bt hp (fun C a b => lv_icmp_gt C.1 C.2.1 hd ht (fun h => a ((mI_lt hy hx).mp h)) (fun h => b (fun g => h ((mI_lt hy hx).mpr g)))) k
theorem z_icmp_gt_f {x y : Int} {off : Int} {tgt : Nat} (hd : decode M.2.1 pc = .ok (.if_icmp .gt off, 3)) (hx : R32 x) (hy : R32 y) (hp : ¬ (y < x)) (ht : (pc : Int) + off = (tgt : Int)) (k : zG La ad sc sv M (pc + 3) lv st mem o) : zG La ad sc sv M pc lv (.int (mI y) :: .int (mI x) :: st) mem o :=
  zG_bf hp (fun C a b => lv_icmp_gt C.1 C.2.1 hd ht (fun h => a ((mI_lt hy hx).mp h)) (fun h => b (fun g => h ((mI_lt hy hx).mpr g)))) k
theorem z_if_le {x : Int} {off : Int} {tgt : Nat} (hd : decode M.2.1 pc = .ok (.ifCond .le off, 3)) (hx : R32 x) (ht : (pc : Int) + off = (tgt : Int)) (kt : x ≤ 0 → zG La ad sc sv M tgt lv st mem o1) (kf : ¬ (x ≤ 0) → zG La ad sc sv M (pc + 3) lv st mem o2) : zG La ad sc sv M pc lv (.int (mI x) :: st) mem (if x ≤ 0 then o1 else o2) :=
  zG_br (x ≤ 0) (fun C a b => lv_if_le C.1 C.2.1 hd ht (fun h => a ((mI_le0 hx).mp h)) (fun h => b (fun g => h ((mI_le0 hx).mpr g)))) kt kf
theorem z_if_le_t {x : Int} {off : Int} {tgt : Nat} (hd : decode M.2.1 pc = .ok (.ifCond .le off, 3)) (hx : R32 x) (hp : x ≤ 0) (ht : (pc : Int) + off = (tgt : Int)) (kt : zG La ad sc sv M tgt lv st mem o) : zG La ad sc sv M pc lv (.int (mI x) :: st) mem o :=
  zG_bt hp (fun C a b => lv_if_le C.1 C.2.1 hd ht (fun h => a ((mI_le0 hx).mp h)) (fun h => b (fun g => h ((mI_le0 hx).mpr g)))) kt
theorem z_if_le_f {x : Int} {off : Int} {tgt : Nat} (hd : decode M.2.1 pc = .ok (.ifCond .le off, 3)) (hx : R32 x) (hp : ¬ (x ≤ 0)) (ht : (pc : Int) + off = (tgt : Int)) (kf : zG La ad sc sv M (pc + 3) lv st mem o) : zG La ad sc sv M pc lv (.int (mI x) :: st) mem o :=
  zG_bf hp (fun C a b => lv_if_le C.1 C.2.1 hd ht (fun h => a ((mI_le0 hx).mp h)) (fun h => b (fun g => h ((mI_le0 hx).mpr g)))) kf
theorem z_icmp_le {x y : Int} {off : Int} {tgt : Nat} (hd : decode M.2.1 pc = .ok (.if_icmp .le off, 3)) (hx : R32 x) (hy : R32 y) (ht : (pc : Int) + off = (tgt : Int)) (kt : x ≤ y → zG La ad sc sv M tgt lv st mem o1) (kf : ¬ (x ≤ y) → zG La ad sc sv M (pc + 3) lv st mem o2) : zG La ad sc sv M pc lv (.int (mI y) :: .int (mI x) :: st) mem (if x ≤ y then o1 else o2) :=
  zG_br (x ≤ y) (fun C a b => lv_icmp_le C.1 C.2.1 hd ht (fun h => a ((mI_le hx hy).mp h)) (fun h => b (fun g => h ((mI_le hx hy).mpr g)))) kt kf
theorem z_icmp_le_t {x y : Int} {off : Int} {tgt : Nat} (hd : decode M.2.1 pc = .ok (.if_icmp .le off, 3)) (hx : R32 x) (hy : R32 y) (hp : x ≤ y) (ht : (pc : Int) + off = (tgt : Int)) (k : zG La ad sc sv M tgt lv st mem o) : zG La ad sc sv M pc lv (.int (mI y) :: .int (mI x) :: st) mem o :=
  zG_bt hp (fun C a b => lv_icmp_le C.1 C.2.1 hd ht (fun h => a ((mI_le hx hy).mp h)) (fun h => b (fun g => h ((mI_le hx hy).mpr g)))) k
theorem z_icmp_le_f {x y : Int} {off : Int} {tgt : Nat} (hd : decode M.2.1 pc = .ok (.if_icmp .le off, 3)) (hx : R32 x) (hy : R32 y) (hp : ¬ (x ≤ y)) (ht : (pc : Int) + off = (tgt : Int)) (k : zG La ad sc sv M (pc + 3) lv st mem o) : zG La ad sc sv M pc lv (.int (mI y) :: .int (mI x) :: st) mem o :=
  zG_bf hp (fun C a b => lv_icmp_le C.1 C.2.1 hd ht (fun h => a ((mI_le hx hy).mp h)) (fun h => b (fun g => h ((mI_le hx hy).mpr g)))) k
theorem z_goto {off : Int} {tgt : Nat} (hd : decode M.2.1 pc = .ok (.goto off, 3)) (ht : (pc : Int) + off = (tgt : Int)) (k : zG La ad sc sv M tgt lv st mem o) : zG La ad sc sv M pc lv st mem o :=
  zG_st (fun C hP hS hl w => lv_goto C.1 C.2.1 hd ht w) k
theorem z_dup {v : Value} (hd : decode M.2.1 pc = .ok (.dup, 1)) (hv : v.category = 1) (k : zG La ad sc sv M (pc + 1) lv (v :: v :: st) mem o) : zG La ad sc sv M pc lv (v :: st) mem o :=
  zG_st (fun C hP hS hl w => lv_dup C.1 C.2.1 hd hv w) k
theorem z_pop {v : Value} (hd : decode M.2.1 pc = .ok (.pop, 1)) (hv : v.category = 1) (k : zG La ad sc sv M (pc + 1) lv (st) mem o) : zG La ad sc sv M pc lv (v :: st) mem o :=
  zG_st (fun C hP hS hl w => lv_pop C.1 C.2.1 hd hv w) k
theorem z_dup_x1 {v w2 : Value} (hd : decode M.2.1 pc = .ok (.dup_x1, 1)) (hv : v.category = 1) (hw : w2.category = 1) (k : zG La ad sc sv M (pc + 1) lv (v :: w2 :: v :: st) mem o) : zG La ad sc sv M pc lv (v :: w2 :: st) mem o :=
  zG_st (fun C hP hS hl w => lv_dup_x1 C.1 C.2.1 hd hv hw w) k
theorem z_dup2 {v w2 : Value} (hd : decode M.2.1 pc = .ok (.dup2, 1)) (hv : v.category = 1) (hw : w2.category = 1) (k : zG La ad sc sv M (pc + 1) lv (v :: w2 :: v :: w2 :: st) mem o) : zG La ad sc sv M pc lv (v :: w2 :: st) mem o :=
  zG_st (fun C hP hS hl w => lv_dup2_11 C.1 C.2.1 hd hv hw w) k
theorem z_dup_x2 {v w2 w3 : Value} (hd : decode M.2.1 pc = .ok (.dup_x2, 1)) (hv : v.category = 1) (hw : w2.category = 1) (hw3 : w3.category = 1) (k : zG La ad sc sv M (pc + 1) lv (v :: w2 :: w3 :: v :: st) mem o) : zG La ad sc sv M pc lv (v :: w2 :: w3 :: st) mem o :=
  zG_st (fun C hP hS hl w => lv_dup_x2 C.1 C.2.1 hd hv hw hw3 w) k
theorem z_case {Pp : Prop} [Decidable Pp] (kt : Pp → zG La ad sc sv M pc lv st mem o1) (kf : ¬ Pp → zG La ad sc sv M pc lv st mem o2) : zG La ad sc sv M pc lv st mem (if Pp then o1 else o2) := by
  intro hM r mem' ho
  by_cases hP : Pp
  · rw [if_pos hP] at ho; exact kt hP hM r mem' ho
  · rw [if_neg hP] at ho; exact kf hP hM r mem' ho
theorem z_if_ne {x : Int} {off : Int} {tgt : Nat} (hd : decode M.2.1 pc = .ok (.ifCond .ne off, 3)) (hx : R32 x) (ht : (pc : Int) + off = (tgt : Int)) (kt : x = 0 → zG La ad sc sv M (pc + 3) lv st mem o1) (kf : ¬ (x = 0) → zG La ad sc sv M tgt lv st mem o2) : zG La ad sc sv M pc lv (.int (mI x) :: st) mem (if x = 0 then o1 else o2) := by
  refine z_case (Pp := x = 0) (fun hP => ?_) (fun hP => ?_)
  · exact zG_st (fun C _ _ _ w => lv_if_ne C.1 C.2.1 hd ht (fun h => absurd ((mI_eq0 hx).mpr hP) h) (fun _ => w)) (kt hP)
  · exact zG_st (fun C _ _ _ w => lv_if_ne C.1 C.2.1 hd ht (fun _ => w) (fun h => absurd ((mI_eq0 hx).mp h) hP)) (kf hP)
theorem z_if_ne_f {x : Int} {off : Int} {tgt : Nat} (hd : decode M.2.1 pc = .ok (.ifCond .ne off, 3)) (hx : R32 x) (hP : x = 0) (ht : (pc : Int) + off = (tgt : Int)) (k : zG La ad sc sv M (pc + 3) lv st mem o) : zG La ad sc sv M pc lv (.int (mI x) :: st) mem o :=
  zG_st (fun C _ _ _ w => lv_if_ne C.1 C.2.1 hd ht (fun h => absurd ((mI_eq0 hx).mpr hP) h) (fun _ => w)) k
theorem z_if_ne_t {x : Int} {off : Int} {tgt : Nat} (hd : decode M.2.1 pc = .ok (.ifCond .ne off, 3)) (hx : R32 x) (hP : ¬ (x = 0)) (ht : (pc : Int) + off = (tgt : Int)) (k : zG La ad sc sv M tgt lv st mem o) : zG La ad sc sv M pc lv (.int (mI x) :: st) mem o :=
  zG_st (fun C _ _ _ w => lv_if_ne C.1 C.2.1 hd ht (fun _ => w) (fun h => absurd ((mI_eq0 hx).mp h) hP)) k
theorem z_icmp_ne {x y : Int} {off : Int} {tgt : Nat} (hd : decode M.2.1 pc = .ok (.if_icmp .ne off, 3)) (hx : R32 x) (hy : R32 y) (ht : (pc : Int) + off = (tgt : Int)) (kt : x = y → zG La ad sc sv M (pc + 3) lv st mem o1) (kf : ¬ (x = y) → zG La ad sc sv M tgt lv st mem o2) : zG La ad sc sv M pc lv (.int (mI y) :: .int (mI x) :: st) mem (if x = y then o1 else o2) := by
  refine z_case (Pp := x = y) (fun hP => ?_) (fun hP => ?_)
  · exact zG_st (fun C _ _ _ w => lv_icmp_ne C.1 C.2.1 hd ht (fun h => absurd ((mI_eq hx hy).mpr hP) h) (fun _ => w)) (kt hP)
  · exact zG_st (fun C _ _ _ w => lv_icmp_ne C.1 C.2.1 hd ht (fun _ => w) (fun h => absurd ((mI_eq hx hy).mp h) hP)) (kf hP)
theorem z_icmp_ne_f {x y : Int} {off : Int} {tgt : Nat} (hd : decode M.2.1 pc = .ok (.if_icmp .ne off, 3)) (hx : R32 x) (hy : R32 y) (hP : x = y) (ht : (pc : Int) + off = (tgt : Int)) (k : zG La ad sc sv M (pc + 3) lv st mem o) : zG La ad sc sv M pc lv (.int (mI y) :: .int (mI x) :: st) mem o :=
  zG_st (fun C _ _ _ w => lv_icmp_ne C.1 C.2.1 hd ht (fun h => absurd ((mI_eq hx hy).mpr hP) h) (fun _ => w)) k
theorem z_icmp_ne_t {x y : Int} {off : Int} {tgt : Nat} (hd : decode M.2.1 pc = .ok (.if_icmp .ne off, 3)) (hx : R32 x) (hy : R32 y) (hP : ¬ (x = y)) (ht : (pc : Int) + off = (tgt : Int)) (k : zG La ad sc sv M tgt lv st mem o) : zG La ad sc sv M pc lv (.int (mI y) :: .int (mI x) :: st) mem o :=
  zG_st (fun C _ _ _ w => lv_icmp_ne C.1 C.2.1 hd ht (fun _ => w) (fun h => absurd ((mI_eq hx hy).mp h) hP)) k
end ZROWS
