/-! THE LAW'S WALK: what stays, what changes, a word of the script, a call on each side -/
def LWC (p : Program) (s : State) (m : MethodId) (args : Array Value) (c : Code) (D : va_G) (cyI cyZ : ClassId) (A : Nat → Prop) (sc sv gx gm : Nat → Nat) (b L : Nat) (xs : Nat → Int32) : Prop :=
  CallFix p m c cL_law 4 s args zall RL ∧ va_K D vwCl (ztys cyI cyZ) s ∧ zEV sc sv A s s.heap ∧ (zInj LX gx ∧ zInj LM gm) ∧ ((∀ q, zAA LX gx q → A q) ∧ ∀ q, zAA LM gm q → A q) ∧ (∀ q, zAA LX gx q → ¬ zAA LM gm q) ∧ va_X b L xs s s.heap ∧ b < s.heap.size ∧ ¬ A b
def LWS (D : va_G) (cyI cyZ : ClassId) (A : Nat → Prop) (s : State) (gx gm : Nat → Nat) (x mm : ZMem) (H : Heap) (locs : List Loc) : Prop :=
  va_P D vwCl (zwl LX gx cyI cyZ x) H ∧ va_P D vwCl (zwl LM gm cyI cyZ mm) H ∧ va_S A s.heap H locs ∧ MR x ∧ MR mm
theorem zwl_in {La : List ZKD} {ad : Nat → Nat} {cyI cyZ : ClassId} {mem : ZMem} {k : Nat} {q : Nat × va_E} (h : (zwl La ad cyI cyZ mem)[k]? = some q) : zAA La ad q.1 := ⟨k, (zwl_get_inv h).1, (zwl_get_inv h).2⟩
theorem l_cmp0 (z : Int64) : lg_cmp z z = 0 := by
  unfold lg_cmp
  rw [if_neg (show ¬ z > z from Int64.lt_irrefl), if_pos rfl]
section ZLAW
variable {p : Program} {l : Launch} {e : Env} {s : State} {m : MethodId} {args : Array Value} {below : List Frame} {meth : Method} {c : Code} {H : Heap} {locs : List Loc} {cells slots : Nat} {Q : State → Prop}
variable {pc : Nat} {ls : Array Slot} {rest stk : List Value} {D : va_G} {A : Nat → Prop} {cyI cyZ : ClassId} {sc sv gx gm : Nat → Nat} {b L : Nat} {xs : Nat → Int32} {x mm : ZMem}
theorem l_arg (C : LWC p s m args c D cyI cyZ A sc sv gx gm b L xs) (j : Nat) {i : Nat} (hi : i + 6 ≤ L) (hL : L ≤ 3072) (hj : j ≤ 5) (hl : lv_has ls 4 [(3, .int (mI (i : Int))), (2, .ref (gm 0)), (1, .ref (gx 0)), (0, .ref b)]) (hS : va_S A s.heap H locs)
    (d0 : decode cL_law pc = .ok (.aload_n 0, 1)) (d1 : decode cL_law (pc + 1) = .ok (.iload_n 3, 1)) (d2 : decode cL_law (pc + 1 + 1) = .ok (.iconst (j : Int), 1)) (d3 : decode cL_law (pc + 1 + 1 + 1) = .ok (.iadd, 1)) (d4 : decode cL_law (pc + 1 + 1 + 1 + 1) = .ok (.iaload, 1))
    (kk : W p l e room_1 s m args below meth c H locs cells slots Q (F0 m (pc + 1 + 1 + 1 + 1 + 1) ls (.int (mI (xs (i + j)).toInt) :: rest))) : W p l e room_1 s m args below meth c H locs cells slots Q (F0 m pc ls rest) := by
  refine lv_aload_n C.1.1 C.1.2.1 d0 rfl (lv_at hl 3 rfl) ?_
  refine lv_iload_n C.1.1 C.1.2.1 d1 rfl (lv_at hl 0 rfl) ?_
  refine lv_iconst (v := mI (j : Int)) C.1.1 C.1.2.1 d2 rfl ?_
  refine lv_iadd C.1.1 C.1.2.1 d3 ?_
  rw [mI_add]
  have hR : R32 ((i : Int) + (j : Int)) := by omega
  refine va_sld C.1.1 C.1.2.1 C.2.2.2.2.2.2.1 C.2.2.2.2.2.2.2.1 C.2.2.2.2.2.2.2.2 hS (vp_in_iff.mpr ?_) d4 ?_
  · rw [mI_toInt hR]; omega
  · rw [mI_cl hR, show ((i : Int) + (j : Int)).toNat = i + j by omega, ← mI_ofToInt (xs (i + j))]
    exact kk
theorem l_callX (C : LWC p s m args c D cyI cyZ A sc sv gx gm b L xs) (hls : ls.size = 4) (hw : LWS D cyI cyZ A s gx gm x mm H locs) {M : ZMI} {y : MethodName} {As : List Value} {x1 : ZMem} {r : Int} {index : Nat}
    (ct : zCT LX gx sc sv M y (.ref (gx 0) :: As) x (some (r, x1))) {v : Value} (hk : ∀ a : Nat → Nat, zrv a sc M.2.2.2.2.1 r = some v) (hy : y.cls = RX11) (hl1 : Cond.methodLink RL index y ∈ zall) (hl2 : Cond.instanceMethod y ∈ zall) (hl5 : Cond.selects RX11 y y ∈ zall) (hl4 : Cond.code y M.2.1 M.2.2.1 M.2.2.2.1 ∈ zall) (hn : zNames y As.length) (hR : M.2.2.2.2.2.cells = 0 ∧ M.2.2.2.2.2.slots = 0 ∧ M.2.2.2.2.2.frames + 1 ≤ room_1.frames ∧ 8 + (M.2.2.1 + 11) + M.2.2.2.2.2.locals ≤ room_1.locals) (h8 : (rest.map fun v => v.category).sum ≤ 8) (hd : decode cL_law pc = .ok (.invokevirtual index, 3)) (hf : cells ≤ room_1.cells ∧ slots ≤ room_1.slots) (hstk : stk = As.reverse ++ .ref (gx 0) :: rest)
    (kk : ∀ (H1 : Heap) (locs1 : List Loc), LWS D cyI cyZ A s gx gm x1 mm H1 locs1 → W p l e room_1 s m args below meth c H1 locs1 cells slots Q (F0 m (pc + 3) ls (v :: rest))) : W p l e room_1 s m args below meth c H locs cells slots Q (F0 m pc ls stk) := by
  obtain ⟨hPx, hPm, hS, hMx, hMm⟩ := hw
  refine w_callz (La := LX) (ad := gx) (i := 0) (sc := sc) (sv := sv) (mem := x) (As := As) (rest := rest) C.1 C.2.1 hls C.2.2.1 hS C.2.2.2.2.1.1 C.2.2.2.1.1 hPx hMx ct (by rw [hy]; exact zc_X11) lx_0 hl1 hl2 (by rw [hy]; exact hl5) (by rw [hy]; exact nk_1) hl4 hn hR h8 hd hf hstk (fun hrr hM1 H1 locs1 hP1 hz1 hk1 hS1 => ?_)
  rw [hk]
  exact kk H1 locs1 ⟨hP1, hPm.kept (fun k q hq => hk1 q.1 ((hPm k q hq).lt) (fun h => C.2.2.2.2.2.1 q.1 h (zwl_in hq))), hS1, hM1, hMm⟩
theorem l_callM (C : LWC p s m args c D cyI cyZ A sc sv gx gm b L xs) (hls : ls.size = 4) (hw : LWS D cyI cyZ A s gx gm x mm H locs) {M : ZMI} {y : MethodName} {As : List Value} {m1 : ZMem} {r : Int} {index : Nat}
    (ct : zCT LM gm sc sv M y (.ref (gm 0) :: As) mm (some (r, m1))) {v : Value} (hk : ∀ a : Nat → Nat, zrv a sc M.2.2.2.2.1 r = some v) (hy : y.cls = RX12) (hl1 : Cond.methodLink RL index y ∈ zall) (hl2 : Cond.instanceMethod y ∈ zall) (hl5 : Cond.selects RX12 y y ∈ zall) (hl4 : Cond.code y M.2.1 M.2.2.1 M.2.2.2.1 ∈ zall) (hn : zNames y As.length) (hR : M.2.2.2.2.2.cells = 0 ∧ M.2.2.2.2.2.slots = 0 ∧ M.2.2.2.2.2.frames + 1 ≤ room_1.frames ∧ 8 + (M.2.2.1 + 11) + M.2.2.2.2.2.locals ≤ room_1.locals) (h8 : (rest.map fun v => v.category).sum ≤ 8) (hd : decode cL_law pc = .ok (.invokevirtual index, 3)) (hf : cells ≤ room_1.cells ∧ slots ≤ room_1.slots) (hstk : stk = As.reverse ++ .ref (gm 0) :: rest)
    (kk : ∀ (H1 : Heap) (locs1 : List Loc), LWS D cyI cyZ A s gx gm x m1 H1 locs1 → W p l e room_1 s m args below meth c H1 locs1 cells slots Q (F0 m (pc + 3) ls (v :: rest))) : W p l e room_1 s m args below meth c H locs cells slots Q (F0 m pc ls stk) := by
  obtain ⟨hPx, hPm, hS, hMx, hMm⟩ := hw
  refine w_callz (La := LM) (ad := gm) (i := 0) (sc := sc) (sv := sv) (mem := mm) (As := As) (rest := rest) C.1 C.2.1 hls C.2.2.1 hS C.2.2.2.2.1.2 C.2.2.2.1.2 hPm hMm ct (by rw [hy]; exact zc_X12) (show LM[0]? = some _ from rfl) hl1 hl2 (by rw [hy]; exact hl5) (by rw [hy]; exact nk_10) hl4 hn hR h8 hd hf hstk (fun hrr hM1 H1 locs1 hP1 hz1 hk1 hS1 => ?_)
  rw [hk]
  exact kk H1 locs1 ⟨hPx.kept (fun k q hq => hk1 q.1 ((hPx k q hq).lt) (fun h => C.2.2.2.2.2.1 q.1 (zwl_in hq) h)), hP1, hS1, hMx, hM1⟩
end ZLAW
