/-! THE START: classes, arrays' classes, texts -/
theorem zall_ok {args : Array Value} {s : State} (hts : ∀ w ∈ lw_tbl, w.before args s = true) : ∀ w ∈ zall, w.before args s = true := fun w hw => hts w (List.mem_filter.mp hw).1
theorem st_arr {args : Array Value} {s : State} {ty : FieldType} (h : (Cond.arrayClass ty).before args s = true) : ∃ cA : ClassId, ArrOfT s cA ty ∧ s.vm.findClass ("[" ++ ty.toString) = some cA := by
  obtain ⟨cA, kA, comp, h1, h2, h3⟩ := Cond.arrayClass_spec h
  exact ⟨cA, fun n z => ⟨fun k h => (by cases h), kA, h2, comp, h3⟩, h1⟩
theorem st_K {args : Array Value} {s : State} (hz : ∀ w ∈ zall, w.before args s = true) : ∃ (D : va_G) (cyI cyZ : ClassId), va_K D vwCl (ztys cyI cyZ) s := by
  obtain ⟨cyI, a1, a2⟩ := st_arr (hz _ nk_56)
  obtain ⟨cyZ, b1, b2⟩ := st_arr (hz _ nk_1189)
  have h0 : ∀ c : Nat, ∃ q : ClassId × (Nat → Nat), ∀ r : vw_C, vwCl[c]? = some r → u_Kn s r.1 r.2.1 r.2.2 q.1 q.2 := by
    intro c
    match c with
    | 0 => obtain ⟨a, b, h⟩ := u_known hz zc_X0.2.1 (hz _ nk_171); exact ⟨(a, b), fun r hr => by cases hr; exact h⟩
    | 1 => obtain ⟨a, b, h⟩ := u_known hz zc_X1.2.1 (hz _ nk_124); exact ⟨(a, b), fun r hr => by cases hr; exact h⟩
    | 2 => obtain ⟨a, b, h⟩ := u_known hz zc_X3.2.1 (hz _ nk_29); exact ⟨(a, b), fun r hr => by cases hr; exact h⟩
    | 3 => obtain ⟨a, b, h⟩ := u_known hz zc_X4.2.1 (hz _ nk_183); exact ⟨(a, b), fun r hr => by cases hr; exact h⟩
    | 4 => obtain ⟨a, b, h⟩ := u_known hz zc_X5.2.1 (hz _ nk_156); exact ⟨(a, b), fun r hr => by cases hr; exact h⟩
    | 5 => obtain ⟨a, b, h⟩ := u_known hz zc_X7.2.1 (hz _ nk_144); exact ⟨(a, b), fun r hr => by cases hr; exact h⟩
    | 6 => obtain ⟨a, b, h⟩ := u_known hz zc_X9.2.1 (hz _ nk_35); exact ⟨(a, b), fun r hr => by cases hr; exact h⟩
    | 7 => obtain ⟨a, b, h⟩ := u_known hz zc_X11.2.1 (hz _ nk_21); exact ⟨(a, b), fun r hr => by cases hr; exact h⟩
    | 8 => obtain ⟨a, b, h⟩ := u_known hz zc_X12.2.1 (hz _ nk_1033); exact ⟨(a, b), fun r hr => by cases hr; exact h⟩
    | c + 9 => exact ⟨(cyI, fun _ => 0), fun r hr => by cases hr⟩
  obtain ⟨f, hf⟩ := Classical.axiomOfChoice h0
  refine ⟨(fun c => (f c).1, fun c => (f c).2), cyI, cyZ, fun c q hq => hf c q hq, fun k q hk => ?_⟩
  match k with
  | 0 => cases hk; exact ⟨a1, a2⟩
  | 1 => cases hk; exact ⟨b1, b2⟩
  | k + 2 => cases hk
def stT (i : Nat) : Term := Term.string "TwoThirdsOfAnEgg$Book" (zsk i)
def stF : List Cond := flatC (Jvm.Cond.and given_1 narrow_1)
def s7all (P : Nat → Bool) : Bool := (List.range 7).all P
theorem s7all_use {P : Nat → Bool} (h : s7all P = true) {i : Nat} (hi : i < 7) : P i = true := List.all_eq_true.mp h i (List.mem_range.mpr hi)
theorem st_ex : s7all (fun i => decide (Cond.exactly (stT i) "java/lang/String" ∈ stF)) = true := by decide +kernel
theorem st_co : s7all (fun i => decide (Cond.eq (.field (stT i) "java/lang/String" "coder" "B") (.int 0) ∈ stF)) = true := by decide +kernel
theorem st_ar : s7all (fun i => decide (Cond.arrayOf (.field (stT i) "java/lang/String" "value" "[B") .byte ∈ stF)) = true := by decide +kernel
theorem st_le : s7all (fun i => decide (Cond.eq (.length (.field (stT i) "java/lang/String" "value" "[B")) (.int (Int32.ofNat (zslen.getD i 0))) ∈ stF)) = true := by decide +kernel
theorem st_el : s7all (fun i => (List.range (zslen.getD i 0)).all (fun j => decide (Cond.eq (.elem (.field (stT i) "java/lang/String" "value" "[B") (.int (Int32.ofNat j))) (.int ((zsbyt.getD i []).getD j 0)) ∈ stF))) = true := by decide +kernel
theorem st_ne : s7all (fun i => s7all (fun j => decide (i = j) || decide (Cond.not (Cond.eq (stT i) (stT j)) ∈ stF) || decide (Cond.not (Cond.eq (stT j) (stT i)) ∈ stF))) = true := by decide +kernel
theorem st_len : s7all (fun i => decide (zslen.getD i 0 < 2147483648)) = true := by decide +kernel
def stR (i : Nat) : Cond := Cond.stringRef "TwoThirdsOfAnEgg$Book" (zsk i) (zst i)
theorem st_rf : s7all (fun i => decide (tables_1[309 + i]? = some (stR i))) = true := by decide +kernel
theorem st_lay1 : Cond.laysStatic "java/lang/String" "COMPACT_STRINGS" "Z" ∈ lw_tbl := List.mem_append_right _ (List.mem_of_getElem? (i := 325) (by decide +kernel))
theorem st_lay2 : Cond.laysStatic "jdk/internal/util/Preconditions" "SIOOBE_FORMATTER" "Ljava/util/function/BiFunction;" ∈ lw_tbl := List.mem_append_right _ (List.mem_of_getElem? (i := 341) (by decide +kernel))
theorem st_ini1 : Cond.initialized "java/lang/String" ∈ lw_tbl := List.mem_append_right _ (List.mem_of_getElem? (i := 11) (by decide +kernel))
theorem st_ini2 : Cond.initialized "jdk/internal/util/Preconditions" ∈ lw_tbl := List.mem_append_right _ (List.mem_of_getElem? (i := 13) (by decide +kernel))
theorem st_cs : Cond.eq (.static "java/lang/String" "COMPACT_STRINGS" "Z") (.int 1) ∈ stF := by decide +kernel
theorem st_bf : Cond.isRef (.static "jdk/internal/util/Preconditions" "SIOOBE_FORMATTER" "Ljava/util/function/BiFunction;") ∈ stF := by decide +kernel
theorem st_E {args : Array Value} {s : State} {A : Nat → Prop} (hts : ∀ w ∈ lw_tbl, w.before args s = true) (hg : (Jvm.Cond.and given_1 narrow_1).before args s = true) (hA : ∀ a : Nat, a < s.heap.size → ¬ A a) : ∃ sc sv : Nat → Nat, zEV sc sv A s s.heap := by
  have hs : ∀ w ∈ stF, w.before args s = true := flat_of_before _ hg
  obtain ⟨adK, adV, h1, h2⟩ := vk_Sof (N := 7) (tm := stT) (len := zslen) (byt := zsbyt) (A := A) (s := s) (args := args) (fun i hi => of_decide_eq_true (s7all_use st_len hi)) (fun i hi => hs _ (of_decide_eq_true (s7all_use st_ex hi))) (fun i hi => hs _ (of_decide_eq_true (s7all_use st_co hi))) (fun i hi => hs _ (of_decide_eq_true (s7all_use st_ar hi))) (fun i hi => hs _ (of_decide_eq_true (s7all_use st_le hi))) (fun i hi j hj => hs _ (of_decide_eq_true (List.all_eq_true.mp (s7all_use st_el hi) j (List.mem_range.mpr hj)))) (fun i j hi hj hij => (by
    have h3 := s7all_use (s7all_use st_ne hi) hj
    simp only [Bool.or_eq_true, decide_eq_true_eq] at h3
    rcases h3 with (h3 | h3) | h3
    · exact absurd h3 hij
    · exact Or.inl (hs _ h3)
    · exact Or.inr (hs _ h3))) hA
  refine ⟨adK, adV, h1, va_Zof (hts _ st_lay1) (hts _ st_ini1) (va_eqt (hs _ st_cs)) hA, va_Zqof (hts _ st_lay2) (hts _ st_ini2) (hs _ st_bf) hA, fun i hi => ?_⟩
  have h4 : stR i ∈ lw_tbl := List.mem_append_right _ (List.mem_of_getElem? (of_decide_eq_true (s7all_use st_rf hi)))
  exact vk_R.of (hts _ h4) (h2 i hi)
