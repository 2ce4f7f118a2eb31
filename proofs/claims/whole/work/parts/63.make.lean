/-! HOW CELLS ARE MADE: rules for constructors; the world is a list that grows -/
def tbs (R W S : Int) : ZMem := fun i k => match i with
  | 0 => tv0 R W S k
  | _ => 0
abbrev LTb (N : Nat) : List ZKD := [(0, 6, [some (some 1), none, none, none]), (1, N, [])]
def nCX (own : String) (cc : ByteArray) (nL : Nat) (p : Program) (s : State) (m : MethodId) (args : Array Value) (c : Code) (D : va_G) (cyI cyZ : ClassId) (A : Nat → Prop) : Prop :=
  CallFix p m c cc nL s args zall own ∧ va_K D vwCl (ztys cyI cyZ) s ∧ ∀ q : Nat, s.heap.size ≤ q → A q
def nWd (D : va_G) (A : Nat → Prop) (s : State) (ws : va_W) (H : Heap) (locs : List Loc) : Prop := va_P D vwCl ws H ∧ va_D A ws ∧ va_S A s.heap H locs
theorem zEV_narrow {sc sv : Nat → Nat} {A B : Nat → Prop} {U : State} {H : Heap} (h : zEV sc sv A U H) (hAB : ∀ q, B q → A q) : zEV sc sv B U H := ⟨h.1.narrow hAB, h.2.1.narrow hAB, h.2.2.1.narrow hAB, h.2.2.2⟩
/-- the contract of a constructor: of the new cell alone comes the world that is told -/
def nCT (y : MethodName) (M : ZMI) (ci : Nat) (fs0 As : List Value) (La : List ZKD) (mem : ZMem) (X : State → Prop) : Prop :=
  ∀ (l : Launch) (D : va_G) (cyI cyZ : ClassId) (sc sv : Nat → Nat) (h0 sz : Nat), Met l y (zws y M) M.2.2.2.2.2
    (va_Pc (.ref h0 :: As) (fun U => U.heap.size = sz ∧ va_P D vwCl [(h0, .inr (ci, fs0))] U.heap ∧ va_K D vwCl (ztys cyI cyZ) U ∧ zEV sc sv (va_A [(h0, .inr (ci, fs0))] sz) U U.heap ∧ X U))
    (va_Qv (fun g : Nat → Nat => g 0 = h0) (fun g t => va_P D vwCl (zwl La g cyI cyZ mem) t.heap ∧ va_D (va_A [(h0, .inr (ci, fs0))] sz) (zwl La g cyI cyZ mem)) (va_A [(h0, .inr (ci, fs0))] sz))
    M.2.2.2.2.2.cells M.2.2.2.2.2.slots (va_A [(h0, .inr (ci, fs0))] sz)
def nTT (_ : State) : Prop := True
def nXok (X : State → Prop) : Prop := (∀ (s U : State), s.WarmedH U.vm → X s → X U) ∧ ∀ (u U : State), U.vm = u.vm → X u → X U
theorem nTT_ok : nXok nTT := ⟨fun _ _ _ _ => trivial, fun _ _ _ _ => trivial⟩
section ZNEW
variable {p : Program} {l : Launch} {e : Env} {R : Room} {s : State} {m : MethodId} {args : Array Value} {below : List Frame} {meth : Method} {c : Code} {H : Heap} {locs : List Loc} {cells slots : Nat} {Q : State → Prop}
variable {cc : ByteArray} {pc : Nat} {ls : Array Slot} {rest : List Value} {D : va_G} {A : Nat → Prop} {cyI cyZ : ClassId} {ws : va_W} {own : String} {nL : Nat}
theorem n_newa (C : nCX own cc nL p s m args c D cyI cyZ A) (hw : nWd D A s ws H locs) {n : Int} {N : Nat} (hn : 0 ≤ n ∧ n ≤ 10000) (hN : n.toNat = N) (hk : Cond.arrayClass .int ∈ zall) (hd : decode cc pc = .ok (.newarray .int, 2)) (hcells : cells + 1 ≤ R.cells) (hslots : slots + N ≤ R.slots)
    (kk : ∀ (q : Nat) (H1 : Heap), nWd D A s (ws ++ [(q, .inl (cyI, N, .inl (fun _ => mI 0)))]) H1 locs → W p l e R s m args below meth c H1 locs (cells + 1) (slots + N) Q (F0 m (pc + 2) ls (.ref q :: rest))) : W p l e R s m args below meth c H locs cells slots Q (F0 m pc ls (.int (mI n) :: rest)) := by
  obtain ⟨hP, hD, hS⟩ := hw
  obtain ⟨⟨hx, hb, hml, hown, hts⟩, hK, hA⟩ := C
  have hnI : R32 n := by omega
  refine va_newa (atype := .int) (ty := .int) hx hb (hts _ hk) rfl hK hP hD hS hA (a0 := (N, .inl (fun _ => mI 0))) (N' := N) (fun cA => rfl) ?_ ?_ ?_ hcells hslots hd (fun q cA H1 hK1 hP1 hD1 hS1 => ?_)
  · rw [mI_lt0 hnI]; omega
  · rw [mI_cl hnI]; exact hN
  · show N * 4 ≤ 536870912; omega
  · have e1 : s.vm.findClass ("[" ++ FieldType.int.toString) = some cA := (hK1.2 2 (cA, .int) rfl).2
    have e2 : s.vm.findClass ("[" ++ FieldType.int.toString) = some cyI := (hK.2 0 (cyI, .int) rfl).2
    have e3 : cA = cyI := Option.some.inj (e1.symm.trans e2)
    subst e3
    exact kk q H1 ⟨hP1, hD1, hS1⟩
theorem n_newz (C : nCX own cc nL p s m args c D cyI cyZ A) (hw : nWd D A s ws H locs) {n : Int} {N : Nat} (hn : 0 ≤ n ∧ n ≤ 10000) (hN : n.toNat = N) (hk : Cond.arrayClass .boolean ∈ zall) (hd : decode cc pc = .ok (.newarray .boolean, 2)) (hcells : cells + 1 ≤ R.cells) (hslots : slots + N ≤ R.slots)
    (kk : ∀ (q : Nat) (H1 : Heap), nWd D A s (ws ++ [(q, .inl (cyZ, N, .inl (fun _ => mI 0)))]) H1 locs → W p l e R s m args below meth c H1 locs (cells + 1) (slots + N) Q (F0 m (pc + 2) ls (.ref q :: rest))) : W p l e R s m args below meth c H locs cells slots Q (F0 m pc ls (.int (mI n) :: rest)) := by
  obtain ⟨hP, hD, hS⟩ := hw
  obtain ⟨⟨hx, hb, hml, hown, hts⟩, hK, hA⟩ := C
  have hnI : R32 n := by omega
  refine va_newa (atype := .boolean) (ty := .boolean) hx hb (hts _ hk) rfl hK hP hD hS hA (a0 := (N, .inl (fun _ => mI 0))) (N' := N) (fun cA => rfl) ?_ ?_ ?_ hcells hslots hd (fun q cA H1 hK1 hP1 hD1 hS1 => ?_)
  · rw [mI_lt0 hnI]; omega
  · rw [mI_cl hnI]; exact hN
  · show N * 1 ≤ 536870912; omega
  · have e1 : s.vm.findClass ("[" ++ FieldType.boolean.toString) = some cA := (hK1.2 2 (cA, .boolean) rfl).2
    have e2 : s.vm.findClass ("[" ++ FieldType.boolean.toString) = some cyZ := (hK.2 1 (cyZ, .boolean) rfl).2
    have e3 : cA = cyZ := Option.some.inj (e1.symm.trans e2)
    subst e3
    exact kk q H1 ⟨hP1, hD1, hS1⟩
theorem n_new (C : nCX own cc nL p s m args c D cyI cyZ A) (hw : nWd D A s ws H locs) {ci N index : Nat} {C0 : String} {T : u_T} {ty : Nat → FieldType} {fs : List Value} (hc : zcl ci C0 T N ty) (hfs : ∀ j, j < N → defaultValue (ty j) = vp_V fs j) (hcl : Cond.classLink own index C0 ∈ zall) (hin : Cond.instantiable C0 N ∈ zall) (hini : Cond.initialized C0 ∈ zall) (hd : decode cc pc = .ok (.new index, 3)) (hcells : cells + 1 ≤ R.cells) (hslots : slots + N ≤ R.slots)
    (kk : ∀ (q : Nat) (H1 : Heap), nWd D A s (ws ++ [(q, .inr (ci, fs))]) H1 locs → W p l e R s m args below meth c H1 locs (cells + 1) (slots + N) Q (F0 m (pc + 3) ls (.ref q :: rest))) : W p l e R s m args below meth c H locs cells slots Q (F0 m pc ls rest) := by
  obtain ⟨hP, hD, hS⟩ := hw
  obtain ⟨⟨hx, hb, hml, hown, hts⟩, hK, hA⟩ := C
  exact va_new hx hb hts hc.2.1 ty hc.2.2.1 hown (hts _ hcl) (hts _ hin) (hts _ hini) hK hP hD hS hA hc.1 hfs hcells hslots hd (fun q H1 hP1 hD1 hS1 => kk q H1 ⟨hP1, hD1, hS1⟩)
theorem n_put (C : nCX own cc nL p s m args c D cyI cyZ A) (hw : nWd D A s ws H locs) (q0 : Nat) {a ci N k index : Nat} {fs : List Value} {C0 : String} {T : u_T} {ty : Nat → FieldType} {v : Value} (hc : zcl ci C0 T N ty) (he : ws[q0]? = some (a, .inr (ci, fs))) (hk : k < N) (hfin : (T k).2.2.2 = false) (hn : narrow (ty k) v = v) (hfit : fits (ty k) v = true) (hl : k < fs.length) (hlk : Cond.fieldLink own index (T k).1 (T k).2.1 (T k).2.2.1 ∈ zall) (hd : decode cc pc = .ok (.putfield index, 3))
    (kk : ∀ (H1 : Heap) (locs1 : List Loc), nWd D A s (ws.set q0 (a, .inr (ci, fs.set k v))) H1 locs1 → W p l e R s m args below meth c H1 locs1 cells slots Q (F0 m (pc + 3) ls rest)) : W p l e R s m args below meth c H locs cells slots Q (F0 m pc ls (v :: .ref a :: rest)) := by
  obtain ⟨hP, hD, hS⟩ := hw
  obtain ⟨⟨hx, hb, hml, hown, hts⟩, hK, hA⟩ := C
  exact va_put hx hb hts hc.2.1 ty hc.2.2.1 hc.2.2.2 hown hK hP hD hS q0 he hc.1 k hk (hts _ hlk) (fun _ h => h) hfin (hc.2.2.1 k hk) hn hfit hl hd (fun H1 locs1 hP1 hD1 hS1 => kk H1 locs1 ⟨hP1, hD1, hS1⟩)
theorem n_putF (C : nCX own cc nL p s m args c D cyI cyZ A) (hin : meth.name = "<init>") (hw : nWd D A s ws H locs) (q0 : Nat) {a ci N k index : Nat} {fs : List Value} {C0 : String} {T : u_T} {ty : Nat → FieldType} {v : Value} (hc : zcl ci C0 T N ty) (he : ws[q0]? = some (a, .inr (ci, fs))) (hk : k < N) (hfin : (T k).2.2.2 = true) (hdecl : (T k).1 = own) (hn : narrow (ty k) v = v) (hfit : fits (ty k) v = true) (hl : k < fs.length) (hlk : Cond.fieldLink own index (T k).1 (T k).2.1 (T k).2.2.1 ∈ zall) (hd : decode cc pc = .ok (.putfield index, 3))
    (kk : ∀ (H1 : Heap) (locs1 : List Loc), nWd D A s (ws.set q0 (a, .inr (ci, fs.set k v))) H1 locs1 → W p l e R s m args below meth c H1 locs1 cells slots Q (F0 m (pc + 3) ls rest)) : W p l e R s m args below meth c H locs cells slots Q (F0 m pc ls (v :: .ref a :: rest)) := by
  obtain ⟨hP, hD, hS⟩ := hw
  obtain ⟨⟨hx, hb, hml, hown, hts⟩, hK, hA⟩ := C
  exact va_putF hx hb hts hc.2.1 ty hc.2.2.1 hc.2.2.2 hown hK hP hD hS q0 he hc.1 k hk (hts _ hlk) (fun _ h => h) hfin hin hdecl (hc.2.2.1 k hk) hn hfit hl hd (fun H1 locs1 hP1 hD1 hS1 => kk H1 locs1 ⟨hP1, hD1, hS1⟩)
theorem n_get (C : nCX own cc nL p s m args c D cyI cyZ A) (hw : nWd D A s ws H locs) (q0 : Nat) {a ci N k index : Nat} {fs : List Value} {C0 : String} {T : u_T} {ty : Nat → FieldType} {v : Value} (hc : zcl ci C0 T N ty) (he : ws[q0]? = some (a, .inr (ci, fs))) (hk : k < N) (hv : fs[k]? = some v) (hlk : Cond.fieldLink own index (T k).1 (T k).2.1 (T k).2.2.1 ∈ zall) (hd : decode cc pc = .ok (.getfield index, 3))
    (kk : W p l e R s m args below meth c H locs cells slots Q (F0 m (pc + 3) ls (v :: rest))) : W p l e R s m args below meth c H locs cells slots Q (F0 m pc ls (.ref a :: rest)) := by
  obtain ⟨hP, hD, hS⟩ := hw
  obtain ⟨⟨hx, hb, hml, hown, hts⟩, hK, hA⟩ := C
  exact va_get hx hb hts hc.2.1 hown hK hP q0 he hc.1 k hk (hts _ hlk) (fun _ h => h) hv hd kk
theorem n_idx (wr : va_W) (x : va_W) : (List.range wr.length).map (fun i => (wr ++ x)[i]?) = wr.map some := by
  apply List.ext_getElem?
  intro i
  rw [List.getElem?_map, List.getElem?_map]
  by_cases h : i < wr.length
  · rw [List.getElem?_range h, List.getElem?_eq_getElem h]
    show some ((wr ++ x)[i]?) = some (some wr[i])
    rw [List.getElem?_append_left h, List.getElem?_eq_getElem h]
  · rw [List.getElem?_eq_none (by rw [List.length_range]; omega), List.getElem?_eq_none (by omega)]
    rfl
theorem n_ndl : ∀ (l : List Nat), l.Nodup → va_nd l = true
  | [], _ => rfl
  | a :: l, h => by
    obtain ⟨h1, h2⟩ := List.nodup_cons.mp h
    simp only [va_nd, Bool.and_eq_true, decide_eq_true_eq]
    exact ⟨h1, n_ndl l h2⟩
theorem n_nd (n : Nat) : va_nd (List.range n) = true := n_ndl _ List.nodup_range
/-- a constructor's call: both forms of its link -/
theorem n_callG {wr : va_W} {M : ZMI} {ci : Nat} {fs0 As : List Value} {La : List ZKD} {mem : ZMem} {a : Nat} (hA : ∀ q : Nat, s.heap.size ≤ q → A q) (hw : nWd D A s (wr ++ [(a, .inr (ci, fs0))]) H locs)
    (hr : ∀ sz, H.size = sz → va_Run p l e R s m args below meth c H locs cells slots M.2.2.2.2.2.cells M.2.2.2.2.2.slots (F0 m pc ls (As.reverse ++ .ref a :: rest)) rest (va_Qv (fun g : Nat → Nat => g 0 = a) (fun g t => va_P D vwCl (zwl La g cyI cyZ mem) t.heap ∧ va_D (va_A [(a, .inr (ci, fs0))] sz) (zwl La g cyI cyZ mem)) (va_A [(a, .inr (ci, fs0))] sz) (Value.ref a :: As).toArray) (va_A [(a, .inr (ci, fs0))] sz))
    (kk : ∀ (g : Nat → Nat) (H1 : Heap) (locs1 : List Loc), g 0 = a → nWd D A s (wr ++ zwl La g cyI cyZ mem) H1 locs1 → W p l e R s m args below meth c H1 locs1 (cells + M.2.2.2.2.2.cells) (slots + M.2.2.2.2.2.slots) Q (F0 m (pc + 3) ls rest)) : W p l e R s m args below meth c H locs cells slots Q (F0 m pc ls (As.reverse ++ .ref a :: rest)) := by
  obtain ⟨hP, hD, hS⟩ := hw
  have hC : [wr.length].map (fun i => (wr ++ [(a, (.inr (ci, fs0) : va_E))])[i]?) = [(a, (.inr (ci, fs0) : va_E))].map some := by
    show [(wr ++ [(a, (.inr (ci, fs0) : va_E))])[wr.length]?] = [some _]
    rw [List.getElem?_append_right (Nat.le_refl _), Nat.sub_self]
    rfl
  have hF := va_free (wc := [(a, .inr (ci, fs0))]) hD hS hA [wr.length] hC
  refine va_callv (hr _ rfl) hS (fun q _ h => hF q h) hF (fun g t H1 locs1 ht hvm hg hB hz1 hk1 hS1 => ?_)
  obtain ⟨hP1, hD1⟩ := hB
  rw [ht] at hP1
  obtain ⟨hP2, hD2⟩ := va_join (wr := wr) hP hD [wr.length] (List.range wr.length) hC (n_idx wr _) (n_nd _) (fun i hi h => by
    have h1 := List.mem_range.mp hi
    have h2 := List.mem_singleton.mp h
    omega) hk1 hF hP1 hD1
  exact kk g H1 locs1 hg ⟨hP2, hD2, hS1⟩
theorem n_pre {wr : va_W} {ci : Nat} {fs0 As : List Value} {X : State → Prop} {sc sv : Nat → Nat} {a : Nat} (hA : ∀ q : Nat, s.heap.size ≤ q → A q) (hK : va_K D vwCl (ztys cyI cyZ) s) (hw : nWd D A s (wr ++ [(a, .inr (ci, fs0))]) H locs) (hE : zEV sc sv A s s.heap) (hX : X s) (hXok : nXok X) {sz : Nat} (hsz : H.size = sz) :
    PreS s H (va_Pc (.ref a :: As) (fun U => U.heap.size = sz ∧ va_P D vwCl [(a, .inr (ci, fs0))] U.heap ∧ va_K D vwCl (ztys cyI cyZ) U ∧ zEV sc sv (va_A [(a, .inr (ci, fs0))] sz) U U.heap ∧ X U)) (.ref a :: As) := by
  obtain ⟨hP, hD, hS⟩ := hw
  have hC : [wr.length].map (fun i => (wr ++ [(a, (.inr (ci, fs0) : va_E))])[i]?) = [(a, (.inr (ci, fs0) : va_E))].map some := by
    show [(wr ++ [(a, (.inr (ci, fs0) : va_E))])[wr.length]?] = [some _]
    rw [List.getElem?_append_right (Nat.le_refl _), Nat.sub_self]
    rfl
  have hF := va_free (wc := [(a, .inr (ci, fs0))]) hD hS hA [wr.length] hC
  have hPc : va_P D vwCl [(a, (.inr (ci, fs0) : va_E))] H := by
    intro k q hk
    have h1 : k < 1 := (List.getElem?_eq_some_iff.mp hk).1
    refine hP (wr.length + k) q ?_
    rw [List.getElem?_append_right (by omega), Nat.add_sub_cancel_left]
    exact hk
  subst hsz
  refine ⟨fun b U g mk q => ?_, fun U hU hW => ⟨rfl, by rw [hU], by rw [hU]; exact hPc, va_K.moved hW.alike hK, ?_, hXok.1 s U hW hX⟩⟩
  · obtain ⟨q0, q1, q2, q3, q4, q5⟩ := q
    exact ⟨q0, q1, q2, va_K.moved (u := U) (U := U.calling g mk b) (Vm.Alike.refl U.vm) q3, zEV_same (u := U) (U := U.calling g mk b) rfl q4, hXok.2 U (U.calling g mk b) rfl q5⟩
  · rw [hU]
    exact zEV_narrow (zEV_kept (zEV_warm hW hE) (fun b h1 h2 => hS.2.1 b h1 h2)) hF
theorem n_call (C : nCX own cc nL p s m args c D cyI cyZ A) (hls : ls.size = nL) {wr : va_W} {y : MethodName} {M : ZMI} {ci index : Nat} {fs0 As stk : List Value} {La : List ZKD} {mem : ZMem} {X : State → Prop} {sc sv : Nat → Nat} {a : Nat} (hw : nWd D A s (wr ++ [(a, .inr (ci, fs0))]) H locs) (hE : zEV sc sv A s s.heap) (hX : X s) (hXok : nXok X) (ct : nCT y M ci fs0 As La mem X)
    (hl1 : Cond.methodLink own index y ∈ zall) (hl2 : Cond.instanceMethod y ∈ zall) (hl3 : Cond.initialized y.cls ∈ zall) (hl4 : Cond.code y M.2.1 M.2.2.1 M.2.2.2.1 ∈ zall) (hret : M.2.2.2.1 = none) (hy : y.name = "<init>") (hn : zNames y As.length) (hR : M.2.2.2.2.2.frames + 1 ≤ R.frames ∧ 8 + (M.2.2.1 + 11) + M.2.2.2.2.2.locals ≤ R.locals) (h8 : (rest.map fun v => v.category).sum ≤ 8) (hd : decode cc pc = .ok (.invokespecial index, 3)) (hf : cells + M.2.2.2.2.2.cells ≤ R.cells ∧ slots + M.2.2.2.2.2.slots ≤ R.slots) (hstk : stk = As.reverse ++ .ref a :: rest)
    (kk : ∀ (g : Nat → Nat) (H1 : Heap) (locs1 : List Loc), g 0 = a → nWd D A s (wr ++ zwl La g cyI cyZ mem) H1 locs1 → W p l e R s m args below meth c H1 locs1 (cells + M.2.2.2.2.2.cells) (slots + M.2.2.2.2.2.slots) Q (F0 m (pc + 3) ls rest)) : W p l e R s m args below meth c H locs cells slots Q (F0 m pc ls stk) := by
  subst hstk
  refine n_callG C.2.2 hw (fun sz hsz => ?_) kk
  exact va_runI (As := As) (rest := rest) C.1 (ct l D cyI cyZ sc sv a sz) (cwI As.length C.1.2.2.2.2 (zGoodIn (y := y) (M := M) hl4) (by unfold zws; rw [hret]) rfl rfl (C.1.2.2.2.2 _ hl3) (C.1.2.2.2.2 _ hl1) (C.1.2.2.2.2 _ hl2) hy hn hR) (n_pre C.2.2 C.2.1 hw hE hX hXok hsz) rfl rfl hls rfl (lv_room h8) hd hf
theorem n_callN (C : nCX own cc nL p s m args c D cyI cyZ A) (hls : ls.size = nL) {wr : va_W} {y : MethodName} {M : ZMI} {ci index : Nat} {host : String} {fs0 As stk : List Value} {La : List ZKD} {mem : ZMem} {X : State → Prop} {sc sv : Nat → Nat} {a : Nat} (hw : nWd D A s (wr ++ [(a, .inr (ci, fs0))]) H locs) (hE : zEV sc sv A s s.heap) (hX : X s) (hXok : nXok X) (ct : nCT y M ci fs0 As La mem X)
    (hl1 : va_Nw (.methodLinkNest own index y host) s) (hl2 : Cond.instanceMethod y ∈ zall) (hl3 : Cond.initialized y.cls ∈ zall) (hl4 : Cond.code y M.2.1 M.2.2.1 M.2.2.2.1 ∈ zall) (hret : M.2.2.2.1 = none) (hy : y.name = "<init>") (hn : zNames y As.length) (hR : M.2.2.2.2.2.frames + 1 ≤ R.frames ∧ 8 + (M.2.2.1 + 11) + M.2.2.2.2.2.locals ≤ R.locals) (h8 : (rest.map fun v => v.category).sum ≤ 8) (hd : decode cc pc = .ok (.invokespecial index, 3)) (hf : cells + M.2.2.2.2.2.cells ≤ R.cells ∧ slots + M.2.2.2.2.2.slots ≤ R.slots) (hstk : stk = As.reverse ++ .ref a :: rest)
    (kk : ∀ (g : Nat → Nat) (H1 : Heap) (locs1 : List Loc), g 0 = a → nWd D A s (wr ++ zwl La g cyI cyZ mem) H1 locs1 → W p l e R s m args below meth c H1 locs1 (cells + M.2.2.2.2.2.cells) (slots + M.2.2.2.2.2.slots) Q (F0 m (pc + 3) ls rest)) : W p l e R s m args below meth c H locs cells slots Q (F0 m pc ls stk) := by
  subst hstk
  refine n_callG C.2.2 hw (fun sz hsz => ?_) kk
  exact va_runIN (As := As) (rest := rest) C.1 (ct l D cyI cyZ sc sv a sz) ⟨va_cnB As.length C.1.2.2.2.2 (zGoodIn (y := y) (M := M) hl4) (by unfold zws; rw [hret]) rfl rfl hl1 (C.1.2.2.2.2 _ hl3) hn hR, hy, C.1.2.2.2.2 _ hl2⟩ (n_pre C.2.2 C.2.1 hw hE hX hXok hsz) rfl rfl hls rfl (lv_room h8) hd hf
/-- a call of a method of a world, among others -/
theorem w_callz {La : List ZKD} {ad sc sv : Nat → Nat} {M : ZMI} {y : MethodName} {As stk : List Value} {mem mem' : ZMem} {r : Int} {i ci N index : Nat} {sp : List (Option (Option Nat))} {T : u_T} {ty : Nat → FieldType} (S : CallFix p m c cc nL s args zall own) (hK : va_K D vwCl (ztys cyI cyZ) s) (hls : ls.size = nL) (hE : zEV sc sv A s s.heap) (hS : va_S A s.heap H locs) (hin : ∀ q, zAA La ad q → A q) (hinj : zInj La ad) (hP : va_P D vwCl (zwl La ad cyI cyZ mem) H) (hM : MR mem)
    (ct : zCT La ad sc sv M y (.ref (ad i) :: As) mem (some (r, mem'))) (hc : zcl ci y.cls T N ty) (hi : La[i]? = some (0, ci, sp)) (hl1 : Cond.methodLink own index y ∈ zall) (hl2 : Cond.instanceMethod y ∈ zall) (hl5 : Cond.selects y.cls y y ∈ zall) (hl3 : Cond.initialized y.cls ∈ zall) (hl4 : Cond.code y M.2.1 M.2.2.1 M.2.2.2.1 ∈ zall) (hn : zNames y As.length) (hR : M.2.2.2.2.2.cells = 0 ∧ M.2.2.2.2.2.slots = 0 ∧ M.2.2.2.2.2.frames + 1 ≤ R.frames ∧ 8 + (M.2.2.1 + 11) + M.2.2.2.2.2.locals ≤ R.locals) (h8 : (rest.map fun v => v.category).sum ≤ 8) (hd : decode cc pc = .ok (.invokevirtual index, 3)) (hf : cells ≤ R.cells ∧ slots ≤ R.slots) (hstk : stk = As.reverse ++ .ref (ad i) :: rest)
    (kk : zRR M.2.2.2.2.1 r → MR mem' → ∀ (H1 : Heap) (locs1 : List Loc), va_P D vwCl (zwl La ad cyI cyZ mem') H1 → H.size ≤ H1.size → (∀ q : Nat, q < H.size → ¬ zAA La ad q → H1[q]? = H[q]?) → va_S A s.heap H1 locs1 → W p l e R s m args below meth c H1 locs1 cells slots Q (F0 m (pc + 3) ls ((zrv ad sc M.2.2.2.2.1 r).toList ++ rest))) : W p l e R s m args below meth c H locs cells slots Q (F0 m pc ls stk) := by
  subst hstk
  obtain ⟨c1, c2, c3⟩ := ct hM r mem' rfl
  have hrun := va_runV (l := l) (cells := cells) (slots := slots) (H := H) (locs := locs) (below := below) (meth := meth) (p := p) (e := e) (g := F0 m pc ls (As.reverse ++ .ref (ad i) :: rest)) (As := As) (rest := rest) (n := As.length) (C := y.cls) S (c3 l D cyI cyZ hinj) ⟨callB_of As.length S.2.2.2.2 (zGoodIn (y := y) (M := M) hl4) rfl hR.1 hR.2.1 (S.2.2.2.2 _ hl3) (S.2.2.2.2 _ hl1) hn ⟨hR.2.2.1, hR.2.2.2⟩, S.2.2.2.2 _ hl2, S.2.2.2.2 _ hl5⟩ ⟨fun a U g mk q => (by
      obtain ⟨q0, q1, q2, q3⟩ := q
      exact ⟨q0, q1, va_K.moved (u := U) (U := U.calling g mk a) (Vm.Alike.refl U.vm) q2, zEV_same (u := U) (U := U.calling g mk a) rfl q3⟩), va_recv hK hP hc.1 (zwl_get hi), fun U hU hW => ⟨rfl, by rw [hU]; exact hP, va_K.moved hW.alike hK, (by
      rw [hU]; exact zEV_narrow (zEV_kept (zEV_warm hW hE) (fun a h1 h2 => hS.2.1 a h1 h2)) hin)⟩⟩ rfl rfl hls rfl (lv_room h8) hd hf
  intro T0 hT X0
  obtain ⟨v1, st₀, t, T', L, h0, X', hL, e1, e2, ⟨hv, hP1, hz, hk⟩, hst⟩ := hrun T0 hT X0
  cases hv
  rw [h0] at hz hk
  obtain ⟨t2, a1, b1⟩ := kk c1 c2 T'.heap (locs ++ L) (by rw [e1]; exact hP1) (by rw [e1]; exact hz) (fun q h1 h2 => by rw [e1]; exact hk q h1 h2)
    ⟨Nat.le_trans hS.1 (by rw [e1]; exact hz), fun q h1 h2 => by rw [e1, hk q (Nat.lt_of_lt_of_le h1 hS.1) (fun z => h2 (hin q z))]; exact hS.2.1 q h1 h2, fun q hq => by
      rcases List.mem_append.mp hq with h | h
      · exact hS.2.2 q h
      · exact hin _ (hL q h)⟩ T' rfl X'
  exact ⟨t2, hst t2 a1, b1⟩
end ZNEW
