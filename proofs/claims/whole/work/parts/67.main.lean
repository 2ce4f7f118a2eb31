/-! THE CLASS' OWN CONSTRUCTOR (written by gen_cons.py) -/
def nXN (U : State) : Prop := va_Nw (.methodLinkNest RX11 28 yX1_init RX11) U ∧ va_Nw (.methodLinkNest RX11 50 yX7_init RX11) U ∧ va_Nw (.methodLinkNest RX11 57 yX5_init RX11) U ∧ va_Nw (.methodLinkNest RX11 64 yX0_init RX11) U ∧ va_Nw (.methodLinkNest RX11 71 yX4_init RX11) U
theorem nXN_ok : nXok nXN := ⟨fun s U hW h => ⟨va_Nw.warmM hW h.1, va_Nw.warmM hW h.2.1, va_Nw.warmM hW h.2.2.1, va_Nw.warmM hW h.2.2.2.1, va_Nw.warmM hW h.2.2.2.2⟩, fun u U hv h => ⟨va_Nw.same rfl hv.symm h.1, va_Nw.same rfl hv.symm h.2.1, va_Nw.same rfl hv.symm h.2.2.1, va_Nw.same rfl hv.symm h.2.2.2.1, va_Nw.same rfl hv.symm h.2.2.2.2⟩⟩
section ZWS
def zwlS (n : Nat) (La : List ZKD) (g : Nat → Nat) (cyI cyZ : ClassId) (mem : ZMem) : va_W := La.mapIdx (fun i kd => (g (i + n), zcE g cyI cyZ mem (i + n) kd))
theorem zwl_S {La : List ZKD} {g : Nat → Nat} {cyI cyZ : ClassId} {mem : ZMem} : zwl La g cyI cyZ mem = zwlS 0 La g cyI cyZ mem := rfl
theorem zwlS_cat {n : Nat} {La Lb : List ZKD} {g : Nat → Nat} {cyI cyZ : ClassId} {mem : ZMem} : zwlS n (La ++ Lb) g cyI cyZ mem = zwlS n La g cyI cyZ mem ++ zwlS (n + La.length) Lb g cyI cyZ mem := by
  unfold zwlS
  rw [List.mapIdx_append]
  congr 1
  congr 1
  funext i kd
  rw [show i + La.length + n = i + (n + La.length) by omega]
theorem zwl_len {La : List ZKD} {g : Nat → Nat} {cyI cyZ : ClassId} {mem : ZMem} : (zwl La g cyI cyZ mem).length = La.length := List.length_mapIdx
theorem get_mid {pre blk post : va_W} {n : Nat} (h : pre.length = n) {i : Nat} {x : Nat × va_E} (hb : blk[i]? = some x) : ((pre ++ blk) ++ post)[n + i]? = some x := by
  subst h
  have hi := (List.getElem?_eq_some_iff.mp hb).1
  rw [List.getElem?_append_left (by rw [List.length_append]; omega), List.getElem?_append_right (by omega), Nat.add_sub_cancel_left]
  exact hb
theorem set_mid {pre blk post : va_W} {n : Nat} (h : pre.length = n) {i : Nat} {x : Nat × va_E} (hi : i < blk.length) : ((pre ++ blk) ++ post).set (n + i) x = (pre ++ blk.set i x) ++ post := by
  subst h
  rw [List.set_append_left _ _ (by rw [List.length_append]; omega), List.set_append_right _ _ (by omega), Nat.add_sub_cancel_left]
def shZ (n : Nat) (kd : ZKD) : ZKD := (kd.1, kd.2.1, kd.2.2.map (fun x => match x with
  | some (some j) => some (some (j + n))
  | some none => some none
  | none => none))
def okZ (N : Nat) (kd : ZKD) : Bool := kd.2.2.all (fun x => match x with
  | some (some j) => decide (j < N)
  | some none => false
  | none => true)
theorem zcE_sh {n N : Nat} {g g' : Nat → Nat} {cyI cyZ : ClassId} {mem mem' : ZMem} (hg : ∀ j, j < N → g (j + n) = g' j) (hm : ∀ i k, i < N → mem (i + n) k = mem' i k) {i : Nat} (hi : i < N) (kd : ZKD) (hk : okZ N kd = true) : zcE g cyI cyZ mem (i + n) (shZ n kd) = zcE g' cyI cyZ mem' i kd := by
  obtain ⟨a, c, sp⟩ := kd
  have hmf : (fun j => mI (mem (i + n) j)) = fun j => mI (mem' i j) := funext (fun j => by rw [hm i j hi])
  match a with
  | 0 =>
    show (Sum.inr (c, _) : va_E) = Sum.inr (c, _)
    congr 2
    apply List.ext_getElem?
    intro k
    rw [List.getElem?_mapIdx, List.getElem?_mapIdx, List.getElem?_map]
    cases hs : sp[k]? with
    | none => rfl
    | some x =>
      have hx := List.all_eq_true.mp hk x (List.mem_of_getElem? hs)
      match x with
      | none => show some (Value.int (mI (mem (i + n) k))) = some (Value.int (mI (mem' i k))); rw [hm i k hi]
      | some none => cases hx
      | some (some j) =>
        show some (Value.ref (g (j + n))) = some (Value.ref (g' j))
        rw [hg j (of_decide_eq_true hx)]
  | 1 => show (Sum.inl (cyI, c, Sum.inl _) : va_E) = Sum.inl (cyI, c, Sum.inl _); rw [hmf]
  | a + 2 => show (Sum.inl (cyZ, c, Sum.inl _) : va_E) = Sum.inl (cyZ, c, Sum.inl _); rw [hmf]
theorem zwlS_blk {n N : Nat} {La Lb : List ZKD} {g g' : Nat → Nat} {cyI cyZ : ClassId} {mem mem' : ZMem} (hL : La = Lb.map (shZ n)) (hN : Lb.length = N) (hk : Lb.all (okZ N) = true) (hg : ∀ j, j < N → g (j + n) = g' j) (hm : ∀ i k, i < N → mem (i + n) k = mem' i k) : zwlS n La g cyI cyZ mem = zwl Lb g' cyI cyZ mem' := by
  subst hL
  apply List.ext_getElem?
  intro i
  unfold zwlS zwl
  rw [List.getElem?_mapIdx, List.getElem?_mapIdx, List.getElem?_map]
  cases hs : Lb[i]? with
  | none => rfl
  | some kd =>
    have hi : i < N := by rw [← hN]; exact (List.getElem?_eq_some_iff.mp hs).1
    have h1 := List.all_eq_true.mp hk kd (List.mem_of_getElem? hs)
    show some (g (i + n), zcE g cyI cyZ mem (i + n) (shZ n kd)) = some (g' i, zcE g' cyI cyZ mem' i kd)
    rw [hg i hi, zcE_sh hg hm hi kd h1]
end ZWS
section ZRS3
variable {p : Program} {l : Launch} {e : Env} {R0 : Room} {s : State} {m : MethodId} {args : Array Value} {below : List Frame} {meth : Method} {c : Code} {H : Heap} {locs : List Loc} {cells slots : Nat} {Q : State → Prop}
variable {cc : ByteArray} {pc : Nat} {ls : Array Slot} {rest stk : List Value} {D : va_G} {A : Nat → Prop} {cyI cyZ : ClassId} {ws : va_W} {own : String} {nL : Nat}
theorem n_resetM (C : nCX own cc nL p s m args c D cyI cyZ A) (hls : ls.size = nL) {pre post : va_W} {g : Nat → Nat} (hw : nWd D A s ws H locs) {sc sv : Nat → Nat} (hE : zEV sc sv A s s.heap) (hws : ws = (pre ++ zwl (LTb 7) g cyI cyZ (tbs 7 1 0)) ++ post) (n : Nat) (hn : pre.length = n) {index : Nat} (hlk : Cond.methodLink own index yX9_reset ∈ zall) (hroom : 2 ≤ R0.frames ∧ 44 ≤ R0.locals) (h8 : (rest.map fun v => v.category).sum = 0) (hd : decode cc pc = .ok (.invokevirtual index, 3)) (hf : cells ≤ R0.cells ∧ slots ≤ R0.slots) (hstk : stk = .int (mI 0) :: .int (mI 7) :: .ref (g 0) :: rest)
    (kk : ∀ (H1 : Heap) (locs1 : List Loc), nWd D A s ((pre ++ zwl (LTb 7) g cyI cyZ (tbs 7 1 7)) ++ post) H1 locs1 → W p l e R0 s m args below meth c H1 locs1 cells slots Q (F0 m (pc + 3) ls rest)) : W p l e R0 s m args below meth c H locs cells slots Q (F0 m pc ls stk) := by
  subst hws
  refine n_reset C hls hw hE (n + 0) (n + 1) (q0 := g 0) (q1 := g 1) (N := 7) (R := 7) (K := 7) (rest := rest) (get_mid hn rfl) (get_mid hn rfl) (by omega) (by decide) (by decide) (by decide) hlk hroom h8 hd hf hstk (fun H1 locs1 hw1 => kk H1 locs1 ?_)
  rw [set_mid hn (by show 0 < 2; decide)] at hw1
  exact hw1
end ZRS3
def gX (h0 : Nat) (g9 g20 g31 g47 g61 g75 g89 g100 g111 g122 g133 : Nat → Nat) (i : Nat) : Nat := if i < 1 then h0 else if i < 14 then g9 (i - 1) else if i < 27 then g20 (i - 14) else if i < 40 then g31 (i - 27) else if i < 45 then g47 (i - 40) else if i < 47 then g61 (i - 45) else if i < 49 then g75 (i - 47) else if i < 51 then g89 (i - 49) else if i < 54 then g100 (i - 51) else if i < 59 then g111 (i - 54) else if i < 62 then g122 (i - 59) else if i < 65 then g133 (i - 62) else 0
def LXb0 : List ZKD := [(0, 7, [some (some 1), some (some 14), some (some 27), none, some (some 40), some (some 45), some (some 47), some (some 49), some (some 51), some (some 54), some (some 59), some (some 62)])]
def LXb1 : List ZKD := [(0, 2, [none, none, none, none, some (some 2), some (some 4), some (some 6), some (some 8), some (some 10), some (some 12)]), (0, 6, [some (some 3), none, none, none]), (1, 56, []), (0, 6, [some (some 5), none, none, none]), (1, 10, []), (0, 6, [some (some 7), none, none, none]), (1, 30, []), (0, 6, [some (some 9), none, none, none]), (1, 3, []), (0, 6, [some (some 11), none, none, none]), (1, 5, []), (0, 6, [some (some 13), none, none, none]), (1, 20, [])]
def LXb2 : List ZKD := [(0, 2, [none, none, none, none, some (some 15), some (some 17), some (some 19), some (some 21), some (some 23), some (some 25)]), (0, 6, [some (some 16), none, none, none]), (1, 56, []), (0, 6, [some (some 18), none, none, none]), (1, 10, []), (0, 6, [some (some 20), none, none, none]), (1, 30, []), (0, 6, [some (some 22), none, none, none]), (1, 3, []), (0, 6, [some (some 24), none, none, none]), (1, 5, []), (0, 6, [some (some 26), none, none, none]), (1, 20, [])]
def LXb3 : List ZKD := [(0, 2, [none, none, none, none, some (some 28), some (some 30), some (some 32), some (some 34), some (some 36), some (some 38)]), (0, 6, [some (some 29), none, none, none]), (1, 56, []), (0, 6, [some (some 31), none, none, none]), (1, 10, []), (0, 6, [some (some 33), none, none, none]), (1, 30, []), (0, 6, [some (some 35), none, none, none]), (1, 3, []), (0, 6, [some (some 37), none, none, none]), (1, 5, []), (0, 6, [some (some 39), none, none, none]), (1, 20, [])]
def LXb4 : List ZKD := [(0, 1, [some (some 41), some (some 43), none]), (0, 6, [some (some 42), none, none, none]), (1, 96, []), (0, 6, [some (some 44), none, none, none]), (1, 5, [])]
def LXb5 : List ZKD := [(0, 6, [some (some 46), none, none, none]), (1, 8, [])]
def LXb6 : List ZKD := [(0, 6, [some (some 48), none, none, none]), (1, 8, [])]
def LXb7 : List ZKD := [(0, 6, [some (some 50), none, none, none]), (1, 7, [])]
def LXb8 : List ZKD := [(0, 5, [some (some 52)]), (0, 6, [some (some 53), none, none, none]), (1, 100, [])]
def LXb9 : List ZKD := [(0, 4, [some (some 55), some (some 57)]), (0, 6, [some (some 56), none, none, none]), (1, 2197, []), (0, 6, [some (some 58), none, none, none]), (1, 4394, [])]
def LXb10 : List ZKD := [(0, 0, [some (some 60)]), (0, 6, [some (some 61), none, none, none]), (1, 201, [])]
def LXb11 : List ZKD := [(0, 3, [some (some 63)]), (0, 6, [some (some 64), none, none, none]), (1, 3, [])]
theorem LX_cat : LX = LXb0 ++ (LXb1 ++ (LXb2 ++ (LXb3 ++ (LXb4 ++ (LXb5 ++ (LXb6 ++ (LXb7 ++ (LXb8 ++ (LXb9 ++ (LXb10 ++ (LXb11))))))))))) := rfl
theorem xzm_1 (i k : Nat) (hi : i < 13) : xz0 (i + 1) k = kx0 i k := by
  unfold xz0
  rw [if_neg (show ¬ i + 1 < 1 by omega), if_pos (by omega), Nat.add_sub_cancel]
theorem xw_1 {cyI cyZ : ClassId} (h0 : Nat) (g9 g20 g31 g47 g61 g75 g89 g100 g111 g122 g133 : Nat → Nat) : zwlS 1 LXb1 (gX h0 g9 g20 g31 g47 g61 g75 g89 g100 g111 g122 g133) cyI cyZ xz0 = zwl LX30 g9 cyI cyZ kx0 := by
  refine zwlS_blk (N := 13) (by decide +kernel) (by decide +kernel) (by decide +kernel) (fun j hj => ?_) (fun i k hi => ?_)
  · unfold gX
    rw [if_neg (show ¬ j + 1 < 1 by omega), if_pos (by omega), Nat.add_sub_cancel]
  · exact xzm_1 i k hi
theorem xzm_2 (i k : Nat) (hi : i < 13) : xz0 (i + 14) k = kx0 i k := by
  unfold xz0
  rw [if_neg (show ¬ i + 14 < 1 by omega), if_neg (show ¬ i + 14 < 14 by omega), if_pos (by omega), Nat.add_sub_cancel]
theorem xw_2 {cyI cyZ : ClassId} (h0 : Nat) (g9 g20 g31 g47 g61 g75 g89 g100 g111 g122 g133 : Nat → Nat) : zwlS 14 LXb2 (gX h0 g9 g20 g31 g47 g61 g75 g89 g100 g111 g122 g133) cyI cyZ xz0 = zwl LX30 g20 cyI cyZ kx0 := by
  refine zwlS_blk (N := 13) (by decide +kernel) (by decide +kernel) (by decide +kernel) (fun j hj => ?_) (fun i k hi => ?_)
  · unfold gX
    rw [if_neg (show ¬ j + 14 < 1 by omega), if_neg (show ¬ j + 14 < 14 by omega), if_pos (by omega), Nat.add_sub_cancel]
  · exact xzm_2 i k hi
theorem xzm_3 (i k : Nat) (hi : i < 13) : xz0 (i + 27) k = kx0 i k := by
  unfold xz0
  rw [if_neg (show ¬ i + 27 < 1 by omega), if_neg (show ¬ i + 27 < 14 by omega), if_neg (show ¬ i + 27 < 27 by omega), if_pos (by omega), Nat.add_sub_cancel]
theorem xw_3 {cyI cyZ : ClassId} (h0 : Nat) (g9 g20 g31 g47 g61 g75 g89 g100 g111 g122 g133 : Nat → Nat) : zwlS 27 LXb3 (gX h0 g9 g20 g31 g47 g61 g75 g89 g100 g111 g122 g133) cyI cyZ xz0 = zwl LX30 g31 cyI cyZ kx0 := by
  refine zwlS_blk (N := 13) (by decide +kernel) (by decide +kernel) (by decide +kernel) (fun j hj => ?_) (fun i k hi => ?_)
  · unfold gX
    rw [if_neg (show ¬ j + 27 < 1 by omega), if_neg (show ¬ j + 27 < 14 by omega), if_neg (show ¬ j + 27 < 27 by omega), if_pos (by omega), Nat.add_sub_cancel]
  · exact xzm_3 i k hi
theorem xzm_4 (i k : Nat) (hi : i < 5) : xz0 (i + 40) k = mmX10 i k := by
  rcases (show i = 0 ∨ i = 1 ∨ i = 2 ∨ i = 3 ∨ i = 4 by omega) with rfl | rfl | rfl | rfl | rfl <;> rfl
theorem xw_4 {cyI cyZ : ClassId} (h0 : Nat) (g9 g20 g31 g47 g61 g75 g89 g100 g111 g122 g133 : Nat → Nat) : zwlS 40 LXb4 (gX h0 g9 g20 g31 g47 g61 g75 g89 g100 g111 g122 g133) cyI cyZ xz0 = zwl LX10 g47 cyI cyZ mmX10 := by
  refine zwlS_blk (N := 5) (by decide +kernel) (by decide +kernel) (by decide +kernel) (fun j hj => ?_) (fun i k hi => ?_)
  · unfold gX
    rw [if_neg (show ¬ j + 40 < 1 by omega), if_neg (show ¬ j + 40 < 14 by omega), if_neg (show ¬ j + 40 < 27 by omega), if_neg (show ¬ j + 40 < 40 by omega), if_pos (by omega), Nat.add_sub_cancel]
  · exact xzm_4 i k hi
theorem xzm_5 (i k : Nat) (hi : i < 2) : xz0 (i + 45) k = (tbs 8 1 0) i k := by
  rcases (show i = 0 ∨ i = 1 by omega) with rfl | rfl <;> rfl
theorem xw_5 {cyI cyZ : ClassId} (h0 : Nat) (g9 g20 g31 g47 g61 g75 g89 g100 g111 g122 g133 : Nat → Nat) : zwlS 45 LXb5 (gX h0 g9 g20 g31 g47 g61 g75 g89 g100 g111 g122 g133) cyI cyZ xz0 = zwl (LTb 8) g61 cyI cyZ (tbs 8 1 0) := by
  refine zwlS_blk (N := 2) (by decide +kernel) (by decide +kernel) (by decide +kernel) (fun j hj => ?_) (fun i k hi => ?_)
  · unfold gX
    rw [if_neg (show ¬ j + 45 < 1 by omega), if_neg (show ¬ j + 45 < 14 by omega), if_neg (show ¬ j + 45 < 27 by omega), if_neg (show ¬ j + 45 < 40 by omega), if_neg (show ¬ j + 45 < 45 by omega), if_pos (by omega), Nat.add_sub_cancel]
  · exact xzm_5 i k hi
theorem xzm_6 (i k : Nat) (hi : i < 2) : xz0 (i + 47) k = (tbs 8 1 0) i k := by
  rcases (show i = 0 ∨ i = 1 by omega) with rfl | rfl <;> rfl
theorem xw_6 {cyI cyZ : ClassId} (h0 : Nat) (g9 g20 g31 g47 g61 g75 g89 g100 g111 g122 g133 : Nat → Nat) : zwlS 47 LXb6 (gX h0 g9 g20 g31 g47 g61 g75 g89 g100 g111 g122 g133) cyI cyZ xz0 = zwl (LTb 8) g75 cyI cyZ (tbs 8 1 0) := by
  refine zwlS_blk (N := 2) (by decide +kernel) (by decide +kernel) (by decide +kernel) (fun j hj => ?_) (fun i k hi => ?_)
  · unfold gX
    rw [if_neg (show ¬ j + 47 < 1 by omega), if_neg (show ¬ j + 47 < 14 by omega), if_neg (show ¬ j + 47 < 27 by omega), if_neg (show ¬ j + 47 < 40 by omega), if_neg (show ¬ j + 47 < 45 by omega), if_neg (show ¬ j + 47 < 47 by omega), if_pos (by omega), Nat.add_sub_cancel]
  · exact xzm_6 i k hi
theorem xzm_7 (i k : Nat) (hi : i < 2) : xz0 (i + 49) k = (tbs 7 1 7) i k := by
  rcases (show i = 0 ∨ i = 1 by omega) with rfl | rfl <;> rfl
theorem xw_7 {cyI cyZ : ClassId} (h0 : Nat) (g9 g20 g31 g47 g61 g75 g89 g100 g111 g122 g133 : Nat → Nat) : zwlS 49 LXb7 (gX h0 g9 g20 g31 g47 g61 g75 g89 g100 g111 g122 g133) cyI cyZ xz0 = zwl (LTb 7) g89 cyI cyZ (tbs 7 1 7) := by
  refine zwlS_blk (N := 2) (by decide +kernel) (by decide +kernel) (by decide +kernel) (fun j hj => ?_) (fun i k hi => ?_)
  · unfold gX
    rw [if_neg (show ¬ j + 49 < 1 by omega), if_neg (show ¬ j + 49 < 14 by omega), if_neg (show ¬ j + 49 < 27 by omega), if_neg (show ¬ j + 49 < 40 by omega), if_neg (show ¬ j + 49 < 45 by omega), if_neg (show ¬ j + 49 < 47 by omega), if_neg (show ¬ j + 49 < 49 by omega), if_pos (by omega), Nat.add_sub_cancel]
  · exact xzm_7 i k hi
theorem xzm_8 (i k : Nat) (hi : i < 3) : xz0 (i + 51) k = mmX70 i k := by
  rcases (show i = 0 ∨ i = 1 ∨ i = 2 by omega) with rfl | rfl | rfl <;> rfl
theorem xw_8 {cyI cyZ : ClassId} (h0 : Nat) (g9 g20 g31 g47 g61 g75 g89 g100 g111 g122 g133 : Nat → Nat) : zwlS 51 LXb8 (gX h0 g9 g20 g31 g47 g61 g75 g89 g100 g111 g122 g133) cyI cyZ xz0 = zwl LX70 g100 cyI cyZ mmX70 := by
  refine zwlS_blk (N := 3) (by decide +kernel) (by decide +kernel) (by decide +kernel) (fun j hj => ?_) (fun i k hi => ?_)
  · unfold gX
    rw [if_neg (show ¬ j + 51 < 1 by omega), if_neg (show ¬ j + 51 < 14 by omega), if_neg (show ¬ j + 51 < 27 by omega), if_neg (show ¬ j + 51 < 40 by omega), if_neg (show ¬ j + 51 < 45 by omega), if_neg (show ¬ j + 51 < 47 by omega), if_neg (show ¬ j + 51 < 49 by omega), if_neg (show ¬ j + 51 < 51 by omega), if_pos (by omega), Nat.add_sub_cancel]
  · exact xzm_8 i k hi
theorem xzm_9 (i k : Nat) (hi : i < 5) : xz0 (i + 54) k = mmX50 i k := by
  rcases (show i = 0 ∨ i = 1 ∨ i = 2 ∨ i = 3 ∨ i = 4 by omega) with rfl | rfl | rfl | rfl | rfl <;> rfl
theorem xw_9 {cyI cyZ : ClassId} (h0 : Nat) (g9 g20 g31 g47 g61 g75 g89 g100 g111 g122 g133 : Nat → Nat) : zwlS 54 LXb9 (gX h0 g9 g20 g31 g47 g61 g75 g89 g100 g111 g122 g133) cyI cyZ xz0 = zwl LX50 g111 cyI cyZ mmX50 := by
  refine zwlS_blk (N := 5) (by decide +kernel) (by decide +kernel) (by decide +kernel) (fun j hj => ?_) (fun i k hi => ?_)
  · unfold gX
    rw [if_neg (show ¬ j + 54 < 1 by omega), if_neg (show ¬ j + 54 < 14 by omega), if_neg (show ¬ j + 54 < 27 by omega), if_neg (show ¬ j + 54 < 40 by omega), if_neg (show ¬ j + 54 < 45 by omega), if_neg (show ¬ j + 54 < 47 by omega), if_neg (show ¬ j + 54 < 49 by omega), if_neg (show ¬ j + 54 < 51 by omega), if_neg (show ¬ j + 54 < 54 by omega), if_pos (by omega), Nat.add_sub_cancel]
  · exact xzm_9 i k hi
theorem xzm_10 (i k : Nat) (hi : i < 3) : xz0 (i + 59) k = mmX00 i k := by
  rcases (show i = 0 ∨ i = 1 ∨ i = 2 by omega) with rfl | rfl | rfl <;> rfl
theorem xw_10 {cyI cyZ : ClassId} (h0 : Nat) (g9 g20 g31 g47 g61 g75 g89 g100 g111 g122 g133 : Nat → Nat) : zwlS 59 LXb10 (gX h0 g9 g20 g31 g47 g61 g75 g89 g100 g111 g122 g133) cyI cyZ xz0 = zwl LX00 g122 cyI cyZ mmX00 := by
  refine zwlS_blk (N := 3) (by decide +kernel) (by decide +kernel) (by decide +kernel) (fun j hj => ?_) (fun i k hi => ?_)
  · unfold gX
    rw [if_neg (show ¬ j + 59 < 1 by omega), if_neg (show ¬ j + 59 < 14 by omega), if_neg (show ¬ j + 59 < 27 by omega), if_neg (show ¬ j + 59 < 40 by omega), if_neg (show ¬ j + 59 < 45 by omega), if_neg (show ¬ j + 59 < 47 by omega), if_neg (show ¬ j + 59 < 49 by omega), if_neg (show ¬ j + 59 < 51 by omega), if_neg (show ¬ j + 59 < 54 by omega), if_neg (show ¬ j + 59 < 59 by omega), if_pos (by omega), Nat.add_sub_cancel]
  · exact xzm_10 i k hi
theorem xzm_11 (i k : Nat) (hi : i < 3) : xz0 (i + 62) k = mmX40 i k := by
  rcases (show i = 0 ∨ i = 1 ∨ i = 2 by omega) with rfl | rfl | rfl <;> rfl
theorem xw_11 {cyI cyZ : ClassId} (h0 : Nat) (g9 g20 g31 g47 g61 g75 g89 g100 g111 g122 g133 : Nat → Nat) : zwlS 62 LXb11 (gX h0 g9 g20 g31 g47 g61 g75 g89 g100 g111 g122 g133) cyI cyZ xz0 = zwl LX40 g133 cyI cyZ mmX40 := by
  refine zwlS_blk (N := 3) (by decide +kernel) (by decide +kernel) (by decide +kernel) (fun j hj => ?_) (fun i k hi => ?_)
  · unfold gX
    rw [if_neg (show ¬ j + 62 < 1 by omega), if_neg (show ¬ j + 62 < 14 by omega), if_neg (show ¬ j + 62 < 27 by omega), if_neg (show ¬ j + 62 < 40 by omega), if_neg (show ¬ j + 62 < 45 by omega), if_neg (show ¬ j + 62 < 47 by omega), if_neg (show ¬ j + 62 < 49 by omega), if_neg (show ¬ j + 62 < 51 by omega), if_neg (show ¬ j + 62 < 54 by omega), if_neg (show ¬ j + 62 < 59 by omega), if_neg (show ¬ j + 62 < 62 by omega), if_pos (by omega), Nat.add_sub_cancel]
  · exact xzm_11 i k hi
theorem x_world {cyI cyZ : ClassId} (h0 : Nat) (g9 g20 g31 g47 g61 g75 g89 g100 g111 g122 g133 : Nat → Nat) : zwl LX (gX h0 g9 g20 g31 g47 g61 g75 g89 g100 g111 g122 g133) cyI cyZ xz0 = (h0, (.inr (7, [.ref (g9 0), .ref (g20 0), .ref (g31 0), .int (mI 0), .ref (g47 0), .ref (g61 0), .ref (g75 0), .ref (g89 0), .ref (g100 0), .ref (g111 0), .ref (g122 0), .ref (g133 0)]) : va_E)) :: (zwl LX30 g9 cyI cyZ kx0 ++ (zwl LX30 g20 cyI cyZ kx0 ++ (zwl LX30 g31 cyI cyZ kx0 ++ (zwl LX10 g47 cyI cyZ mmX10 ++ (zwl (LTb 8) g61 cyI cyZ (tbs 8 1 0) ++ (zwl (LTb 8) g75 cyI cyZ (tbs 8 1 0) ++ (zwl (LTb 7) g89 cyI cyZ (tbs 7 1 7) ++ (zwl LX70 g100 cyI cyZ mmX70 ++ (zwl LX50 g111 cyI cyZ mmX50 ++ (zwl LX00 g122 cyI cyZ mmX00 ++ (zwl LX40 g133 cyI cyZ mmX40))))))))))) := by
  rw [zwl_S, LX_cat]
  simp only [zwlS_cat]
  have e0 : zwlS 0 LXb0 (gX h0 g9 g20 g31 g47 g61 g75 g89 g100 g111 g122 g133) cyI cyZ xz0 = [(h0, (.inr (7, [.ref (g9 0), .ref (g20 0), .ref (g31 0), .int (mI 0), .ref (g47 0), .ref (g61 0), .ref (g75 0), .ref (g89 0), .ref (g100 0), .ref (g111 0), .ref (g122 0), .ref (g133 0)]) : va_E))] := rfl
  show zwlS 0 LXb0 (gX h0 g9 g20 g31 g47 g61 g75 g89 g100 g111 g122 g133) cyI cyZ xz0 ++ (zwlS 1 LXb1 (gX h0 g9 g20 g31 g47 g61 g75 g89 g100 g111 g122 g133) cyI cyZ xz0 ++ (zwlS 14 LXb2 (gX h0 g9 g20 g31 g47 g61 g75 g89 g100 g111 g122 g133) cyI cyZ xz0 ++ (zwlS 27 LXb3 (gX h0 g9 g20 g31 g47 g61 g75 g89 g100 g111 g122 g133) cyI cyZ xz0 ++ (zwlS 40 LXb4 (gX h0 g9 g20 g31 g47 g61 g75 g89 g100 g111 g122 g133) cyI cyZ xz0 ++ (zwlS 45 LXb5 (gX h0 g9 g20 g31 g47 g61 g75 g89 g100 g111 g122 g133) cyI cyZ xz0 ++ (zwlS 47 LXb6 (gX h0 g9 g20 g31 g47 g61 g75 g89 g100 g111 g122 g133) cyI cyZ xz0 ++ (zwlS 49 LXb7 (gX h0 g9 g20 g31 g47 g61 g75 g89 g100 g111 g122 g133) cyI cyZ xz0 ++ (zwlS 51 LXb8 (gX h0 g9 g20 g31 g47 g61 g75 g89 g100 g111 g122 g133) cyI cyZ xz0 ++ (zwlS 54 LXb9 (gX h0 g9 g20 g31 g47 g61 g75 g89 g100 g111 g122 g133) cyI cyZ xz0 ++ (zwlS 59 LXb10 (gX h0 g9 g20 g31 g47 g61 g75 g89 g100 g111 g122 g133) cyI cyZ xz0 ++ (zwlS 62 LXb11 (gX h0 g9 g20 g31 g47 g61 g75 g89 g100 g111 g122 g133) cyI cyZ xz0))))))))))) = _
  rw [e0, xw_1, xw_2, xw_3, xw_4, xw_5, xw_6, xw_7, xw_8, xw_9, xw_10, xw_11]
  rfl
abbrev M_X11_init : ZMI := (RX11, cX11_init, 1, none, 0, { frames := 3, cells := 64, slots := 7541, locals := 64 })
set_option maxRecDepth 20000 in
set_option maxHeartbeats 4000000 in
theorem ct_X11_init : nCT yX11_init M_X11_init 7 [.null, .null, .null, .int (mI 0), .null, .null, .null, .null, .null, .null, .null, .null] [] LX xz0 nXN := by
  refine nCT_of (lv := fun h0 => [(0, .ref h0)]) (by decide +kernel) rfl rfl (fun _ => Nat.le_of_ble_eq_true rfl) (fun _ => rfl) ?_
  intro p l e s m args below meth c D cyI cyZ sc sv h0 A ls C hr hlk hin hE hX hw hl
  have hx := C.1.1
  have hb := C.1.2.1
  refine lv_aload_n hx hb dX11_init_0 rfl (lv_at hl 0 rfl) ?_
  refine n_obj C hl.1 nk_25 dX11_init_1 (Nat.le_of_ble_eq_true rfl) (Nat.le_of_ble_eq_true rfl) ?_
  refine lv_aload_n hx hb dX11_init_4 rfl (lv_at hl 0 rfl) ?_
  refine n_new C hw (fs := [.int (mI 0), .int (mI 0), .int (mI 0), .int (mI 0), .null, .null, .null, .null, .null, .null]) zc_X3 (fun j hj => by rcases (show j = 0 ∨ j = 1 ∨ j = 2 ∨ j = 3 ∨ j = 4 ∨ j = 5 ∨ j = 6 ∨ j = 7 ∨ j = 8 ∨ j = 9 by omega) with rfl | rfl | rfl | rfl | rfl | rfl | rfl | rfl | rfl | rfl <;> rfl) nk_28 nk_29 nk_2 dX11_init_5 (Nat.le_of_ble_eq_true rfl) (Nat.le_of_ble_eq_true rfl) (fun q5 H hw => ?_)
  have hw : nWd D A s ((h0, (.inr (7, [.null, .null, .null, .int (mI 0), .null, .null, .null, .null, .null, .null, .null, .null]) : va_E)) :: (([] : va_W) ++ [(q5, (.inr (2, [.int (mI 0), .int (mI 0), .int (mI 0), .int (mI 0), .null, .null, .null, .null, .null, .null]) : va_E))])) H _ := hw
  refine lv_dup hx hb dX11_init_8 rfl ?_
  refine n_call (wr := (h0, (.inr (7, [.null, .null, .null, .int (mI 0), .null, .null, .null, .null, .null, .null, .null, .null]) : va_E)) :: ([] : va_W)) (a := q5) (rest := [.ref q5, .ref h0]) C hl.1 hw hE trivial nTT_ok ct_X3_init nk_30 nk_31 nk_2 nk_32 rfl rfl ⟨by decide +kernel, by decide +kernel, by decide +kernel⟩ ⟨(Nat.le_of_ble_eq_true rfl), (Nat.le_of_ble_eq_true rfl)⟩ (Nat.le_of_ble_eq_true rfl) dX11_init_9 ⟨(Nat.le_of_ble_eq_true rfl), (Nat.le_of_ble_eq_true rfl)⟩ rfl (fun g9 H locs e9 hw9 => ?_)
  subst e9
  have hw : nWd D A s ((h0, (.inr (7, [.null, .null, .null, .int (mI 0), .null, .null, .null, .null, .null, .null, .null, .null]) : va_E)) :: (([] : va_W) ++ zwl LX30 g9 cyI cyZ kx0)) H _ := hw9
  refine n_putF (k := 0) C hin hw 0 zc_X11 rfl (by decide) rfl rfl rfl rfl (Nat.le_of_ble_eq_true rfl) nk_195 dX11_init_12 (fun H locs hw => ?_)
  have hw : nWd D A s ((h0, (.inr (7, [.ref (g9 0), .null, .null, .int (mI 0), .null, .null, .null, .null, .null, .null, .null, .null]) : va_E)) :: (([] : va_W) ++ zwl LX30 g9 cyI cyZ kx0)) H _ := hw
  refine lv_aload_n hx hb dX11_init_15 rfl (lv_at hl 0 rfl) ?_
  refine n_new C hw (fs := [.int (mI 0), .int (mI 0), .int (mI 0), .int (mI 0), .null, .null, .null, .null, .null, .null]) zc_X3 (fun j hj => by rcases (show j = 0 ∨ j = 1 ∨ j = 2 ∨ j = 3 ∨ j = 4 ∨ j = 5 ∨ j = 6 ∨ j = 7 ∨ j = 8 ∨ j = 9 by omega) with rfl | rfl | rfl | rfl | rfl | rfl | rfl | rfl | rfl | rfl <;> rfl) nk_28 nk_29 nk_2 dX11_init_16 (Nat.le_of_ble_eq_true rfl) (Nat.le_of_ble_eq_true rfl) (fun q16 H hw => ?_)
  have hw : nWd D A s ((h0, (.inr (7, [.ref (g9 0), .null, .null, .int (mI 0), .null, .null, .null, .null, .null, .null, .null, .null]) : va_E)) :: ((([] : va_W) ++ zwl LX30 g9 cyI cyZ kx0) ++ [(q16, (.inr (2, [.int (mI 0), .int (mI 0), .int (mI 0), .int (mI 0), .null, .null, .null, .null, .null, .null]) : va_E))])) H _ := hw
  refine lv_dup hx hb dX11_init_19 rfl ?_
  refine n_call (wr := (h0, (.inr (7, [.ref (g9 0), .null, .null, .int (mI 0), .null, .null, .null, .null, .null, .null, .null, .null]) : va_E)) :: (([] : va_W) ++ zwl LX30 g9 cyI cyZ kx0)) (a := q16) (rest := [.ref q16, .ref h0]) C hl.1 hw hE trivial nTT_ok ct_X3_init nk_30 nk_31 nk_2 nk_32 rfl rfl ⟨by decide +kernel, by decide +kernel, by decide +kernel⟩ ⟨(Nat.le_of_ble_eq_true rfl), (Nat.le_of_ble_eq_true rfl)⟩ (Nat.le_of_ble_eq_true rfl) dX11_init_20 ⟨(Nat.le_of_ble_eq_true rfl), (Nat.le_of_ble_eq_true rfl)⟩ rfl (fun g20 H locs e20 hw9 => ?_)
  subst e20
  have hw : nWd D A s ((h0, (.inr (7, [.ref (g9 0), .null, .null, .int (mI 0), .null, .null, .null, .null, .null, .null, .null, .null]) : va_E)) :: ((([] : va_W) ++ zwl LX30 g9 cyI cyZ kx0) ++ zwl LX30 g20 cyI cyZ kx0)) H _ := hw9
  refine n_putF (k := 1) C hin hw 0 zc_X11 rfl (by decide) rfl rfl rfl rfl (Nat.le_of_ble_eq_true rfl) nk_196 dX11_init_23 (fun H locs hw => ?_)
  have hw : nWd D A s ((h0, (.inr (7, [.ref (g9 0), .ref (g20 0), .null, .int (mI 0), .null, .null, .null, .null, .null, .null, .null, .null]) : va_E)) :: ((([] : va_W) ++ zwl LX30 g9 cyI cyZ kx0) ++ zwl LX30 g20 cyI cyZ kx0)) H _ := hw
  refine lv_aload_n hx hb dX11_init_26 rfl (lv_at hl 0 rfl) ?_
  refine n_new C hw (fs := [.int (mI 0), .int (mI 0), .int (mI 0), .int (mI 0), .null, .null, .null, .null, .null, .null]) zc_X3 (fun j hj => by rcases (show j = 0 ∨ j = 1 ∨ j = 2 ∨ j = 3 ∨ j = 4 ∨ j = 5 ∨ j = 6 ∨ j = 7 ∨ j = 8 ∨ j = 9 by omega) with rfl | rfl | rfl | rfl | rfl | rfl | rfl | rfl | rfl | rfl <;> rfl) nk_28 nk_29 nk_2 dX11_init_27 (Nat.le_of_ble_eq_true rfl) (Nat.le_of_ble_eq_true rfl) (fun q27 H hw => ?_)
  have hw : nWd D A s ((h0, (.inr (7, [.ref (g9 0), .ref (g20 0), .null, .int (mI 0), .null, .null, .null, .null, .null, .null, .null, .null]) : va_E)) :: (((([] : va_W) ++ zwl LX30 g9 cyI cyZ kx0) ++ zwl LX30 g20 cyI cyZ kx0) ++ [(q27, (.inr (2, [.int (mI 0), .int (mI 0), .int (mI 0), .int (mI 0), .null, .null, .null, .null, .null, .null]) : va_E))])) H _ := hw
  refine lv_dup hx hb dX11_init_30 rfl ?_
  refine n_call (wr := (h0, (.inr (7, [.ref (g9 0), .ref (g20 0), .null, .int (mI 0), .null, .null, .null, .null, .null, .null, .null, .null]) : va_E)) :: ((([] : va_W) ++ zwl LX30 g9 cyI cyZ kx0) ++ zwl LX30 g20 cyI cyZ kx0)) (a := q27) (rest := [.ref q27, .ref h0]) C hl.1 hw hE trivial nTT_ok ct_X3_init nk_30 nk_31 nk_2 nk_32 rfl rfl ⟨by decide +kernel, by decide +kernel, by decide +kernel⟩ ⟨(Nat.le_of_ble_eq_true rfl), (Nat.le_of_ble_eq_true rfl)⟩ (Nat.le_of_ble_eq_true rfl) dX11_init_31 ⟨(Nat.le_of_ble_eq_true rfl), (Nat.le_of_ble_eq_true rfl)⟩ rfl (fun g31 H locs e31 hw9 => ?_)
  subst e31
  have hw : nWd D A s ((h0, (.inr (7, [.ref (g9 0), .ref (g20 0), .null, .int (mI 0), .null, .null, .null, .null, .null, .null, .null, .null]) : va_E)) :: (((([] : va_W) ++ zwl LX30 g9 cyI cyZ kx0) ++ zwl LX30 g20 cyI cyZ kx0) ++ zwl LX30 g31 cyI cyZ kx0)) H _ := hw9
  refine n_putF (k := 2) C hin hw 0 zc_X11 rfl (by decide) rfl rfl rfl rfl (Nat.le_of_ble_eq_true rfl) nk_197 dX11_init_34 (fun H locs hw => ?_)
  have hw : nWd D A s ((h0, (.inr (7, [.ref (g9 0), .ref (g20 0), .ref (g31 0), .int (mI 0), .null, .null, .null, .null, .null, .null, .null, .null]) : va_E)) :: (((([] : va_W) ++ zwl LX30 g9 cyI cyZ kx0) ++ zwl LX30 g20 cyI cyZ kx0) ++ zwl LX30 g31 cyI cyZ kx0)) H _ := hw
  refine lv_aload_n hx hb dX11_init_37 rfl (lv_at hl 0 rfl) ?_
  refine lv_iconst (v := mI 0) hx hb dX11_init_38 rfl ?_
  refine n_put (k := 3) C hw 0 zc_X11 rfl (by decide) rfl rfl rfl (Nat.le_of_ble_eq_true rfl) nk_198 dX11_init_39 (fun H locs hw => ?_)
  have hw : nWd D A s ((h0, (.inr (7, [.ref (g9 0), .ref (g20 0), .ref (g31 0), .int (mI 0), .null, .null, .null, .null, .null, .null, .null, .null]) : va_E)) :: (((([] : va_W) ++ zwl LX30 g9 cyI cyZ kx0) ++ zwl LX30 g20 cyI cyZ kx0) ++ zwl LX30 g31 cyI cyZ kx0)) H _ := hw
  refine lv_aload_n hx hb dX11_init_42 rfl (lv_at hl 0 rfl) ?_
  refine n_new C hw (fs := [.null, .null, .int (mI 0)]) zc_X1 (fun j hj => by rcases (show j = 0 ∨ j = 1 ∨ j = 2 by omega) with rfl | rfl | rfl <;> rfl) nk_123 nk_124 nk_5 dX11_init_43 (Nat.le_of_ble_eq_true rfl) (Nat.le_of_ble_eq_true rfl) (fun q43 H hw => ?_)
  have hw : nWd D A s ((h0, (.inr (7, [.ref (g9 0), .ref (g20 0), .ref (g31 0), .int (mI 0), .null, .null, .null, .null, .null, .null, .null, .null]) : va_E)) :: ((((([] : va_W) ++ zwl LX30 g9 cyI cyZ kx0) ++ zwl LX30 g20 cyI cyZ kx0) ++ zwl LX30 g31 cyI cyZ kx0) ++ [(q43, (.inr (1, [.null, .null, .int (mI 0)]) : va_E))])) H _ := hw
  refine lv_dup hx hb dX11_init_46 rfl ?_
  refine n_callN (wr := (h0, (.inr (7, [.ref (g9 0), .ref (g20 0), .ref (g31 0), .int (mI 0), .null, .null, .null, .null, .null, .null, .null, .null]) : va_E)) :: (((([] : va_W) ++ zwl LX30 g9 cyI cyZ kx0) ++ zwl LX30 g20 cyI cyZ kx0) ++ zwl LX30 g31 cyI cyZ kx0)) (a := q43) (rest := [.ref q43, .ref h0]) C hl.1 hw hE trivial nTT_ok ct_X1_init hX.1 nk_126 nk_5 nk_127 rfl rfl ⟨by decide +kernel, by decide +kernel, by decide +kernel⟩ ⟨(Nat.le_of_ble_eq_true rfl), (Nat.le_of_ble_eq_true rfl)⟩ (Nat.le_of_ble_eq_true rfl) dX11_init_47 ⟨(Nat.le_of_ble_eq_true rfl), (Nat.le_of_ble_eq_true rfl)⟩ rfl (fun g47 H locs e47 hw9 => ?_)
  subst e47
  have hw : nWd D A s ((h0, (.inr (7, [.ref (g9 0), .ref (g20 0), .ref (g31 0), .int (mI 0), .null, .null, .null, .null, .null, .null, .null, .null]) : va_E)) :: ((((([] : va_W) ++ zwl LX30 g9 cyI cyZ kx0) ++ zwl LX30 g20 cyI cyZ kx0) ++ zwl LX30 g31 cyI cyZ kx0) ++ zwl LX10 g47 cyI cyZ mmX10)) H _ := hw9
  refine n_putF (k := 4) C hin hw 0 zc_X11 rfl (by decide) rfl rfl rfl rfl (Nat.le_of_ble_eq_true rfl) nk_199 dX11_init_50 (fun H locs hw => ?_)
  have hw : nWd D A s ((h0, (.inr (7, [.ref (g9 0), .ref (g20 0), .ref (g31 0), .int (mI 0), .ref (g47 0), .null, .null, .null, .null, .null, .null, .null]) : va_E)) :: ((((([] : va_W) ++ zwl LX30 g9 cyI cyZ kx0) ++ zwl LX30 g20 cyI cyZ kx0) ++ zwl LX30 g31 cyI cyZ kx0) ++ zwl LX10 g47 cyI cyZ mmX10)) H _ := hw
  refine lv_aload_n hx hb dX11_init_53 rfl (lv_at hl 0 rfl) ?_
  refine n_new C hw (fs := [.null, .int (mI 0), .int (mI 0), .int (mI 0)]) zc_X9 (fun j hj => by rcases (show j = 0 ∨ j = 1 ∨ j = 2 ∨ j = 3 by omega) with rfl | rfl | rfl | rfl <;> rfl) nk_141 nk_35 nk_3 dX11_init_54 (Nat.le_of_ble_eq_true rfl) (Nat.le_of_ble_eq_true rfl) (fun q54 H hw => ?_)
  have hw : nWd D A s ((h0, (.inr (7, [.ref (g9 0), .ref (g20 0), .ref (g31 0), .int (mI 0), .ref (g47 0), .null, .null, .null, .null, .null, .null, .null]) : va_E)) :: (((((([] : va_W) ++ zwl LX30 g9 cyI cyZ kx0) ++ zwl LX30 g20 cyI cyZ kx0) ++ zwl LX30 g31 cyI cyZ kx0) ++ zwl LX10 g47 cyI cyZ mmX10) ++ [(q54, (.inr (6, [.null, .int (mI 0), .int (mI 0), .int (mI 0)]) : va_E))])) H _ := hw
  refine lv_dup hx hb dX11_init_57 rfl ?_
  refine lv_bipush (v := mI 8) hx hb dX11_init_58 (by decide +kernel) ?_
  refine lv_iconst (v := mI 1) hx hb dX11_init_60 rfl ?_
  refine n_call (wr := (h0, (.inr (7, [.ref (g9 0), .ref (g20 0), .ref (g31 0), .int (mI 0), .ref (g47 0), .null, .null, .null, .null, .null, .null, .null]) : va_E)) :: ((((([] : va_W) ++ zwl LX30 g9 cyI cyZ kx0) ++ zwl LX30 g20 cyI cyZ kx0) ++ zwl LX30 g31 cyI cyZ kx0) ++ zwl LX10 g47 cyI cyZ mmX10)) (a := q54) (rest := [.ref q54, .ref h0]) C hl.1 hw hE trivial nTT_ok (ct_X9_init 8 1 8 (by decide) rfl) nk_142 nk_37 nk_3 nk_38 rfl rfl ⟨by decide +kernel, by decide +kernel, by decide +kernel⟩ ⟨(Nat.le_of_ble_eq_true rfl), (Nat.le_of_ble_eq_true rfl)⟩ (Nat.le_of_ble_eq_true rfl) dX11_init_61 ⟨(Nat.le_of_ble_eq_true rfl), (Nat.le_of_ble_eq_true rfl)⟩ rfl (fun g61 H locs e61 hw9 => ?_)
  subst e61
  have hw : nWd D A s ((h0, (.inr (7, [.ref (g9 0), .ref (g20 0), .ref (g31 0), .int (mI 0), .ref (g47 0), .null, .null, .null, .null, .null, .null, .null]) : va_E)) :: (((((([] : va_W) ++ zwl LX30 g9 cyI cyZ kx0) ++ zwl LX30 g20 cyI cyZ kx0) ++ zwl LX30 g31 cyI cyZ kx0) ++ zwl LX10 g47 cyI cyZ mmX10) ++ zwl (LTb 8) g61 cyI cyZ (tbs 8 1 0))) H _ := hw9
  refine n_putF (k := 5) C hin hw 0 zc_X11 rfl (by decide) rfl rfl rfl rfl (Nat.le_of_ble_eq_true rfl) nk_200 dX11_init_64 (fun H locs hw => ?_)
  have hw : nWd D A s ((h0, (.inr (7, [.ref (g9 0), .ref (g20 0), .ref (g31 0), .int (mI 0), .ref (g47 0), .ref (g61 0), .null, .null, .null, .null, .null, .null]) : va_E)) :: (((((([] : va_W) ++ zwl LX30 g9 cyI cyZ kx0) ++ zwl LX30 g20 cyI cyZ kx0) ++ zwl LX30 g31 cyI cyZ kx0) ++ zwl LX10 g47 cyI cyZ mmX10) ++ zwl (LTb 8) g61 cyI cyZ (tbs 8 1 0))) H _ := hw
  refine lv_aload_n hx hb dX11_init_67 rfl (lv_at hl 0 rfl) ?_
  refine n_new C hw (fs := [.null, .int (mI 0), .int (mI 0), .int (mI 0)]) zc_X9 (fun j hj => by rcases (show j = 0 ∨ j = 1 ∨ j = 2 ∨ j = 3 by omega) with rfl | rfl | rfl | rfl <;> rfl) nk_141 nk_35 nk_3 dX11_init_68 (Nat.le_of_ble_eq_true rfl) (Nat.le_of_ble_eq_true rfl) (fun q68 H hw => ?_)
  have hw : nWd D A s ((h0, (.inr (7, [.ref (g9 0), .ref (g20 0), .ref (g31 0), .int (mI 0), .ref (g47 0), .ref (g61 0), .null, .null, .null, .null, .null, .null]) : va_E)) :: ((((((([] : va_W) ++ zwl LX30 g9 cyI cyZ kx0) ++ zwl LX30 g20 cyI cyZ kx0) ++ zwl LX30 g31 cyI cyZ kx0) ++ zwl LX10 g47 cyI cyZ mmX10) ++ zwl (LTb 8) g61 cyI cyZ (tbs 8 1 0)) ++ [(q68, (.inr (6, [.null, .int (mI 0), .int (mI 0), .int (mI 0)]) : va_E))])) H _ := hw
  refine lv_dup hx hb dX11_init_71 rfl ?_
  refine lv_bipush (v := mI 8) hx hb dX11_init_72 (by decide +kernel) ?_
  refine lv_iconst (v := mI 1) hx hb dX11_init_74 rfl ?_
  refine n_call (wr := (h0, (.inr (7, [.ref (g9 0), .ref (g20 0), .ref (g31 0), .int (mI 0), .ref (g47 0), .ref (g61 0), .null, .null, .null, .null, .null, .null]) : va_E)) :: (((((([] : va_W) ++ zwl LX30 g9 cyI cyZ kx0) ++ zwl LX30 g20 cyI cyZ kx0) ++ zwl LX30 g31 cyI cyZ kx0) ++ zwl LX10 g47 cyI cyZ mmX10) ++ zwl (LTb 8) g61 cyI cyZ (tbs 8 1 0))) (a := q68) (rest := [.ref q68, .ref h0]) C hl.1 hw hE trivial nTT_ok (ct_X9_init 8 1 8 (by decide) rfl) nk_142 nk_37 nk_3 nk_38 rfl rfl ⟨by decide +kernel, by decide +kernel, by decide +kernel⟩ ⟨(Nat.le_of_ble_eq_true rfl), (Nat.le_of_ble_eq_true rfl)⟩ (Nat.le_of_ble_eq_true rfl) dX11_init_75 ⟨(Nat.le_of_ble_eq_true rfl), (Nat.le_of_ble_eq_true rfl)⟩ rfl (fun g75 H locs e75 hw9 => ?_)
  subst e75
  have hw : nWd D A s ((h0, (.inr (7, [.ref (g9 0), .ref (g20 0), .ref (g31 0), .int (mI 0), .ref (g47 0), .ref (g61 0), .null, .null, .null, .null, .null, .null]) : va_E)) :: ((((((([] : va_W) ++ zwl LX30 g9 cyI cyZ kx0) ++ zwl LX30 g20 cyI cyZ kx0) ++ zwl LX30 g31 cyI cyZ kx0) ++ zwl LX10 g47 cyI cyZ mmX10) ++ zwl (LTb 8) g61 cyI cyZ (tbs 8 1 0)) ++ zwl (LTb 8) g75 cyI cyZ (tbs 8 1 0))) H _ := hw9
  refine n_putF (k := 6) C hin hw 0 zc_X11 rfl (by decide) rfl rfl rfl rfl (Nat.le_of_ble_eq_true rfl) nk_201 dX11_init_78 (fun H locs hw => ?_)
  have hw : nWd D A s ((h0, (.inr (7, [.ref (g9 0), .ref (g20 0), .ref (g31 0), .int (mI 0), .ref (g47 0), .ref (g61 0), .ref (g75 0), .null, .null, .null, .null, .null]) : va_E)) :: ((((((([] : va_W) ++ zwl LX30 g9 cyI cyZ kx0) ++ zwl LX30 g20 cyI cyZ kx0) ++ zwl LX30 g31 cyI cyZ kx0) ++ zwl LX10 g47 cyI cyZ mmX10) ++ zwl (LTb 8) g61 cyI cyZ (tbs 8 1 0)) ++ zwl (LTb 8) g75 cyI cyZ (tbs 8 1 0))) H _ := hw
  refine lv_aload_n hx hb dX11_init_81 rfl (lv_at hl 0 rfl) ?_
  refine n_new C hw (fs := [.null, .int (mI 0), .int (mI 0), .int (mI 0)]) zc_X9 (fun j hj => by rcases (show j = 0 ∨ j = 1 ∨ j = 2 ∨ j = 3 by omega) with rfl | rfl | rfl | rfl <;> rfl) nk_141 nk_35 nk_3 dX11_init_82 (Nat.le_of_ble_eq_true rfl) (Nat.le_of_ble_eq_true rfl) (fun q82 H hw => ?_)
  have hw : nWd D A s ((h0, (.inr (7, [.ref (g9 0), .ref (g20 0), .ref (g31 0), .int (mI 0), .ref (g47 0), .ref (g61 0), .ref (g75 0), .null, .null, .null, .null, .null]) : va_E)) :: (((((((([] : va_W) ++ zwl LX30 g9 cyI cyZ kx0) ++ zwl LX30 g20 cyI cyZ kx0) ++ zwl LX30 g31 cyI cyZ kx0) ++ zwl LX10 g47 cyI cyZ mmX10) ++ zwl (LTb 8) g61 cyI cyZ (tbs 8 1 0)) ++ zwl (LTb 8) g75 cyI cyZ (tbs 8 1 0)) ++ [(q82, (.inr (6, [.null, .int (mI 0), .int (mI 0), .int (mI 0)]) : va_E))])) H _ := hw
  refine lv_dup hx hb dX11_init_85 rfl ?_
  refine lv_bipush (v := mI 7) hx hb dX11_init_86 (by decide +kernel) ?_
  refine lv_iconst (v := mI 1) hx hb dX11_init_88 rfl ?_
  refine n_call (wr := (h0, (.inr (7, [.ref (g9 0), .ref (g20 0), .ref (g31 0), .int (mI 0), .ref (g47 0), .ref (g61 0), .ref (g75 0), .null, .null, .null, .null, .null]) : va_E)) :: ((((((([] : va_W) ++ zwl LX30 g9 cyI cyZ kx0) ++ zwl LX30 g20 cyI cyZ kx0) ++ zwl LX30 g31 cyI cyZ kx0) ++ zwl LX10 g47 cyI cyZ mmX10) ++ zwl (LTb 8) g61 cyI cyZ (tbs 8 1 0)) ++ zwl (LTb 8) g75 cyI cyZ (tbs 8 1 0))) (a := q82) (rest := [.ref q82, .ref h0]) C hl.1 hw hE trivial nTT_ok (ct_X9_init 7 1 7 (by decide) rfl) nk_142 nk_37 nk_3 nk_38 rfl rfl ⟨by decide +kernel, by decide +kernel, by decide +kernel⟩ ⟨(Nat.le_of_ble_eq_true rfl), (Nat.le_of_ble_eq_true rfl)⟩ (Nat.le_of_ble_eq_true rfl) dX11_init_89 ⟨(Nat.le_of_ble_eq_true rfl), (Nat.le_of_ble_eq_true rfl)⟩ rfl (fun g89 H locs e89 hw9 => ?_)
  subst e89
  have hw : nWd D A s ((h0, (.inr (7, [.ref (g9 0), .ref (g20 0), .ref (g31 0), .int (mI 0), .ref (g47 0), .ref (g61 0), .ref (g75 0), .null, .null, .null, .null, .null]) : va_E)) :: (((((((([] : va_W) ++ zwl LX30 g9 cyI cyZ kx0) ++ zwl LX30 g20 cyI cyZ kx0) ++ zwl LX30 g31 cyI cyZ kx0) ++ zwl LX10 g47 cyI cyZ mmX10) ++ zwl (LTb 8) g61 cyI cyZ (tbs 8 1 0)) ++ zwl (LTb 8) g75 cyI cyZ (tbs 8 1 0)) ++ zwl (LTb 7) g89 cyI cyZ (tbs 7 1 0))) H _ := hw9
  refine n_putF (k := 7) C hin hw 0 zc_X11 rfl (by decide) rfl rfl rfl rfl (Nat.le_of_ble_eq_true rfl) nk_202 dX11_init_92 (fun H locs hw => ?_)
  have hw : nWd D A s ((h0, (.inr (7, [.ref (g9 0), .ref (g20 0), .ref (g31 0), .int (mI 0), .ref (g47 0), .ref (g61 0), .ref (g75 0), .ref (g89 0), .null, .null, .null, .null]) : va_E)) :: (((((((([] : va_W) ++ zwl LX30 g9 cyI cyZ kx0) ++ zwl LX30 g20 cyI cyZ kx0) ++ zwl LX30 g31 cyI cyZ kx0) ++ zwl LX10 g47 cyI cyZ mmX10) ++ zwl (LTb 8) g61 cyI cyZ (tbs 8 1 0)) ++ zwl (LTb 8) g75 cyI cyZ (tbs 8 1 0)) ++ zwl (LTb 7) g89 cyI cyZ (tbs 7 1 0))) H _ := hw
  refine lv_aload_n hx hb dX11_init_95 rfl (lv_at hl 0 rfl) ?_
  refine n_new C hw (fs := [.null]) zc_X7 (fun j hj => by rcases (show j = 0 by omega) with rfl; rfl) nk_143 nk_144 nk_6 dX11_init_96 (Nat.le_of_ble_eq_true rfl) (Nat.le_of_ble_eq_true rfl) (fun q96 H hw => ?_)
  have hw : nWd D A s ((h0, (.inr (7, [.ref (g9 0), .ref (g20 0), .ref (g31 0), .int (mI 0), .ref (g47 0), .ref (g61 0), .ref (g75 0), .ref (g89 0), .null, .null, .null, .null]) : va_E)) :: ((((((((([] : va_W) ++ zwl LX30 g9 cyI cyZ kx0) ++ zwl LX30 g20 cyI cyZ kx0) ++ zwl LX30 g31 cyI cyZ kx0) ++ zwl LX10 g47 cyI cyZ mmX10) ++ zwl (LTb 8) g61 cyI cyZ (tbs 8 1 0)) ++ zwl (LTb 8) g75 cyI cyZ (tbs 8 1 0)) ++ zwl (LTb 7) g89 cyI cyZ (tbs 7 1 0)) ++ [(q96, (.inr (5, [.null]) : va_E))])) H _ := hw
  refine lv_dup hx hb dX11_init_99 rfl ?_
  refine n_callN (wr := (h0, (.inr (7, [.ref (g9 0), .ref (g20 0), .ref (g31 0), .int (mI 0), .ref (g47 0), .ref (g61 0), .ref (g75 0), .ref (g89 0), .null, .null, .null, .null]) : va_E)) :: (((((((([] : va_W) ++ zwl LX30 g9 cyI cyZ kx0) ++ zwl LX30 g20 cyI cyZ kx0) ++ zwl LX30 g31 cyI cyZ kx0) ++ zwl LX10 g47 cyI cyZ mmX10) ++ zwl (LTb 8) g61 cyI cyZ (tbs 8 1 0)) ++ zwl (LTb 8) g75 cyI cyZ (tbs 8 1 0)) ++ zwl (LTb 7) g89 cyI cyZ (tbs 7 1 0))) (a := q96) (rest := [.ref q96, .ref h0]) C hl.1 hw hE trivial nTT_ok ct_X7_init hX.2.1 nk_146 nk_6 nk_147 rfl rfl ⟨by decide +kernel, by decide +kernel, by decide +kernel⟩ ⟨(Nat.le_of_ble_eq_true rfl), (Nat.le_of_ble_eq_true rfl)⟩ (Nat.le_of_ble_eq_true rfl) dX11_init_100 ⟨(Nat.le_of_ble_eq_true rfl), (Nat.le_of_ble_eq_true rfl)⟩ rfl (fun g100 H locs e100 hw9 => ?_)
  subst e100
  have hw : nWd D A s ((h0, (.inr (7, [.ref (g9 0), .ref (g20 0), .ref (g31 0), .int (mI 0), .ref (g47 0), .ref (g61 0), .ref (g75 0), .ref (g89 0), .null, .null, .null, .null]) : va_E)) :: ((((((((([] : va_W) ++ zwl LX30 g9 cyI cyZ kx0) ++ zwl LX30 g20 cyI cyZ kx0) ++ zwl LX30 g31 cyI cyZ kx0) ++ zwl LX10 g47 cyI cyZ mmX10) ++ zwl (LTb 8) g61 cyI cyZ (tbs 8 1 0)) ++ zwl (LTb 8) g75 cyI cyZ (tbs 8 1 0)) ++ zwl (LTb 7) g89 cyI cyZ (tbs 7 1 0)) ++ zwl LX70 g100 cyI cyZ mmX70)) H _ := hw9
  refine n_putF (k := 8) C hin hw 0 zc_X11 rfl (by decide) rfl rfl rfl rfl (Nat.le_of_ble_eq_true rfl) nk_203 dX11_init_103 (fun H locs hw => ?_)
  have hw : nWd D A s ((h0, (.inr (7, [.ref (g9 0), .ref (g20 0), .ref (g31 0), .int (mI 0), .ref (g47 0), .ref (g61 0), .ref (g75 0), .ref (g89 0), .ref (g100 0), .null, .null, .null]) : va_E)) :: ((((((((([] : va_W) ++ zwl LX30 g9 cyI cyZ kx0) ++ zwl LX30 g20 cyI cyZ kx0) ++ zwl LX30 g31 cyI cyZ kx0) ++ zwl LX10 g47 cyI cyZ mmX10) ++ zwl (LTb 8) g61 cyI cyZ (tbs 8 1 0)) ++ zwl (LTb 8) g75 cyI cyZ (tbs 8 1 0)) ++ zwl (LTb 7) g89 cyI cyZ (tbs 7 1 0)) ++ zwl LX70 g100 cyI cyZ mmX70)) H _ := hw
  refine lv_aload_n hx hb dX11_init_106 rfl (lv_at hl 0 rfl) ?_
  refine n_new C hw (fs := [.null, .null]) zc_X5 (fun j hj => by rcases (show j = 0 ∨ j = 1 by omega) with rfl | rfl <;> rfl) nk_155 nk_156 nk_7 dX11_init_107 (Nat.le_of_ble_eq_true rfl) (Nat.le_of_ble_eq_true rfl) (fun q107 H hw => ?_)
  have hw : nWd D A s ((h0, (.inr (7, [.ref (g9 0), .ref (g20 0), .ref (g31 0), .int (mI 0), .ref (g47 0), .ref (g61 0), .ref (g75 0), .ref (g89 0), .ref (g100 0), .null, .null, .null]) : va_E)) :: (((((((((([] : va_W) ++ zwl LX30 g9 cyI cyZ kx0) ++ zwl LX30 g20 cyI cyZ kx0) ++ zwl LX30 g31 cyI cyZ kx0) ++ zwl LX10 g47 cyI cyZ mmX10) ++ zwl (LTb 8) g61 cyI cyZ (tbs 8 1 0)) ++ zwl (LTb 8) g75 cyI cyZ (tbs 8 1 0)) ++ zwl (LTb 7) g89 cyI cyZ (tbs 7 1 0)) ++ zwl LX70 g100 cyI cyZ mmX70) ++ [(q107, (.inr (4, [.null, .null]) : va_E))])) H _ := hw
  refine lv_dup hx hb dX11_init_110 rfl ?_
  refine n_callN (wr := (h0, (.inr (7, [.ref (g9 0), .ref (g20 0), .ref (g31 0), .int (mI 0), .ref (g47 0), .ref (g61 0), .ref (g75 0), .ref (g89 0), .ref (g100 0), .null, .null, .null]) : va_E)) :: ((((((((([] : va_W) ++ zwl LX30 g9 cyI cyZ kx0) ++ zwl LX30 g20 cyI cyZ kx0) ++ zwl LX30 g31 cyI cyZ kx0) ++ zwl LX10 g47 cyI cyZ mmX10) ++ zwl (LTb 8) g61 cyI cyZ (tbs 8 1 0)) ++ zwl (LTb 8) g75 cyI cyZ (tbs 8 1 0)) ++ zwl (LTb 7) g89 cyI cyZ (tbs 7 1 0)) ++ zwl LX70 g100 cyI cyZ mmX70)) (a := q107) (rest := [.ref q107, .ref h0]) C hl.1 hw hE trivial nTT_ok ct_X5_init hX.2.2.1 nk_158 nk_7 nk_159 rfl rfl ⟨by decide +kernel, by decide +kernel, by decide +kernel⟩ ⟨(Nat.le_of_ble_eq_true rfl), (Nat.le_of_ble_eq_true rfl)⟩ (Nat.le_of_ble_eq_true rfl) dX11_init_111 ⟨(Nat.le_of_ble_eq_true rfl), (Nat.le_of_ble_eq_true rfl)⟩ rfl (fun g111 H locs e111 hw9 => ?_)
  subst e111
  have hw : nWd D A s ((h0, (.inr (7, [.ref (g9 0), .ref (g20 0), .ref (g31 0), .int (mI 0), .ref (g47 0), .ref (g61 0), .ref (g75 0), .ref (g89 0), .ref (g100 0), .null, .null, .null]) : va_E)) :: (((((((((([] : va_W) ++ zwl LX30 g9 cyI cyZ kx0) ++ zwl LX30 g20 cyI cyZ kx0) ++ zwl LX30 g31 cyI cyZ kx0) ++ zwl LX10 g47 cyI cyZ mmX10) ++ zwl (LTb 8) g61 cyI cyZ (tbs 8 1 0)) ++ zwl (LTb 8) g75 cyI cyZ (tbs 8 1 0)) ++ zwl (LTb 7) g89 cyI cyZ (tbs 7 1 0)) ++ zwl LX70 g100 cyI cyZ mmX70) ++ zwl LX50 g111 cyI cyZ mmX50)) H _ := hw9
  refine n_putF (k := 9) C hin hw 0 zc_X11 rfl (by decide) rfl rfl rfl rfl (Nat.le_of_ble_eq_true rfl) nk_204 dX11_init_114 (fun H locs hw => ?_)
  have hw : nWd D A s ((h0, (.inr (7, [.ref (g9 0), .ref (g20 0), .ref (g31 0), .int (mI 0), .ref (g47 0), .ref (g61 0), .ref (g75 0), .ref (g89 0), .ref (g100 0), .ref (g111 0), .null, .null]) : va_E)) :: (((((((((([] : va_W) ++ zwl LX30 g9 cyI cyZ kx0) ++ zwl LX30 g20 cyI cyZ kx0) ++ zwl LX30 g31 cyI cyZ kx0) ++ zwl LX10 g47 cyI cyZ mmX10) ++ zwl (LTb 8) g61 cyI cyZ (tbs 8 1 0)) ++ zwl (LTb 8) g75 cyI cyZ (tbs 8 1 0)) ++ zwl (LTb 7) g89 cyI cyZ (tbs 7 1 0)) ++ zwl LX70 g100 cyI cyZ mmX70) ++ zwl LX50 g111 cyI cyZ mmX50)) H _ := hw
  refine lv_aload_n hx hb dX11_init_117 rfl (lv_at hl 0 rfl) ?_
  refine n_new C hw (fs := [.null]) zc_X0 (fun j hj => by rcases (show j = 0 by omega) with rfl; rfl) nk_170 nk_171 nk_8 dX11_init_118 (Nat.le_of_ble_eq_true rfl) (Nat.le_of_ble_eq_true rfl) (fun q118 H hw => ?_)
  have hw : nWd D A s ((h0, (.inr (7, [.ref (g9 0), .ref (g20 0), .ref (g31 0), .int (mI 0), .ref (g47 0), .ref (g61 0), .ref (g75 0), .ref (g89 0), .ref (g100 0), .ref (g111 0), .null, .null]) : va_E)) :: ((((((((((([] : va_W) ++ zwl LX30 g9 cyI cyZ kx0) ++ zwl LX30 g20 cyI cyZ kx0) ++ zwl LX30 g31 cyI cyZ kx0) ++ zwl LX10 g47 cyI cyZ mmX10) ++ zwl (LTb 8) g61 cyI cyZ (tbs 8 1 0)) ++ zwl (LTb 8) g75 cyI cyZ (tbs 8 1 0)) ++ zwl (LTb 7) g89 cyI cyZ (tbs 7 1 0)) ++ zwl LX70 g100 cyI cyZ mmX70) ++ zwl LX50 g111 cyI cyZ mmX50) ++ [(q118, (.inr (0, [.null]) : va_E))])) H _ := hw
  refine lv_dup hx hb dX11_init_121 rfl ?_
  refine n_callN (wr := (h0, (.inr (7, [.ref (g9 0), .ref (g20 0), .ref (g31 0), .int (mI 0), .ref (g47 0), .ref (g61 0), .ref (g75 0), .ref (g89 0), .ref (g100 0), .ref (g111 0), .null, .null]) : va_E)) :: (((((((((([] : va_W) ++ zwl LX30 g9 cyI cyZ kx0) ++ zwl LX30 g20 cyI cyZ kx0) ++ zwl LX30 g31 cyI cyZ kx0) ++ zwl LX10 g47 cyI cyZ mmX10) ++ zwl (LTb 8) g61 cyI cyZ (tbs 8 1 0)) ++ zwl (LTb 8) g75 cyI cyZ (tbs 8 1 0)) ++ zwl (LTb 7) g89 cyI cyZ (tbs 7 1 0)) ++ zwl LX70 g100 cyI cyZ mmX70) ++ zwl LX50 g111 cyI cyZ mmX50)) (a := q118) (rest := [.ref q118, .ref h0]) C hl.1 hw hE trivial nTT_ok ct_X0_init hX.2.2.2.1 nk_173 nk_8 nk_174 rfl rfl ⟨by decide +kernel, by decide +kernel, by decide +kernel⟩ ⟨(Nat.le_of_ble_eq_true rfl), (Nat.le_of_ble_eq_true rfl)⟩ (Nat.le_of_ble_eq_true rfl) dX11_init_122 ⟨(Nat.le_of_ble_eq_true rfl), (Nat.le_of_ble_eq_true rfl)⟩ rfl (fun g122 H locs e122 hw9 => ?_)
  subst e122
  have hw : nWd D A s ((h0, (.inr (7, [.ref (g9 0), .ref (g20 0), .ref (g31 0), .int (mI 0), .ref (g47 0), .ref (g61 0), .ref (g75 0), .ref (g89 0), .ref (g100 0), .ref (g111 0), .null, .null]) : va_E)) :: ((((((((((([] : va_W) ++ zwl LX30 g9 cyI cyZ kx0) ++ zwl LX30 g20 cyI cyZ kx0) ++ zwl LX30 g31 cyI cyZ kx0) ++ zwl LX10 g47 cyI cyZ mmX10) ++ zwl (LTb 8) g61 cyI cyZ (tbs 8 1 0)) ++ zwl (LTb 8) g75 cyI cyZ (tbs 8 1 0)) ++ zwl (LTb 7) g89 cyI cyZ (tbs 7 1 0)) ++ zwl LX70 g100 cyI cyZ mmX70) ++ zwl LX50 g111 cyI cyZ mmX50) ++ zwl LX00 g122 cyI cyZ mmX00)) H _ := hw9
  refine n_putF (k := 10) C hin hw 0 zc_X11 rfl (by decide) rfl rfl rfl rfl (Nat.le_of_ble_eq_true rfl) nk_205 dX11_init_125 (fun H locs hw => ?_)
  have hw : nWd D A s ((h0, (.inr (7, [.ref (g9 0), .ref (g20 0), .ref (g31 0), .int (mI 0), .ref (g47 0), .ref (g61 0), .ref (g75 0), .ref (g89 0), .ref (g100 0), .ref (g111 0), .ref (g122 0), .null]) : va_E)) :: ((((((((((([] : va_W) ++ zwl LX30 g9 cyI cyZ kx0) ++ zwl LX30 g20 cyI cyZ kx0) ++ zwl LX30 g31 cyI cyZ kx0) ++ zwl LX10 g47 cyI cyZ mmX10) ++ zwl (LTb 8) g61 cyI cyZ (tbs 8 1 0)) ++ zwl (LTb 8) g75 cyI cyZ (tbs 8 1 0)) ++ zwl (LTb 7) g89 cyI cyZ (tbs 7 1 0)) ++ zwl LX70 g100 cyI cyZ mmX70) ++ zwl LX50 g111 cyI cyZ mmX50) ++ zwl LX00 g122 cyI cyZ mmX00)) H _ := hw
  refine lv_aload_n hx hb dX11_init_128 rfl (lv_at hl 0 rfl) ?_
  refine n_new C hw (fs := [.null]) zc_X4 (fun j hj => by rcases (show j = 0 by omega) with rfl; rfl) nk_182 nk_183 nk_9 dX11_init_129 (Nat.le_of_ble_eq_true rfl) (Nat.le_of_ble_eq_true rfl) (fun q129 H hw => ?_)
  have hw : nWd D A s ((h0, (.inr (7, [.ref (g9 0), .ref (g20 0), .ref (g31 0), .int (mI 0), .ref (g47 0), .ref (g61 0), .ref (g75 0), .ref (g89 0), .ref (g100 0), .ref (g111 0), .ref (g122 0), .null]) : va_E)) :: (((((((((((([] : va_W) ++ zwl LX30 g9 cyI cyZ kx0) ++ zwl LX30 g20 cyI cyZ kx0) ++ zwl LX30 g31 cyI cyZ kx0) ++ zwl LX10 g47 cyI cyZ mmX10) ++ zwl (LTb 8) g61 cyI cyZ (tbs 8 1 0)) ++ zwl (LTb 8) g75 cyI cyZ (tbs 8 1 0)) ++ zwl (LTb 7) g89 cyI cyZ (tbs 7 1 0)) ++ zwl LX70 g100 cyI cyZ mmX70) ++ zwl LX50 g111 cyI cyZ mmX50) ++ zwl LX00 g122 cyI cyZ mmX00) ++ [(q129, (.inr (3, [.null]) : va_E))])) H _ := hw
  refine lv_dup hx hb dX11_init_132 rfl ?_
  refine n_callN (wr := (h0, (.inr (7, [.ref (g9 0), .ref (g20 0), .ref (g31 0), .int (mI 0), .ref (g47 0), .ref (g61 0), .ref (g75 0), .ref (g89 0), .ref (g100 0), .ref (g111 0), .ref (g122 0), .null]) : va_E)) :: ((((((((((([] : va_W) ++ zwl LX30 g9 cyI cyZ kx0) ++ zwl LX30 g20 cyI cyZ kx0) ++ zwl LX30 g31 cyI cyZ kx0) ++ zwl LX10 g47 cyI cyZ mmX10) ++ zwl (LTb 8) g61 cyI cyZ (tbs 8 1 0)) ++ zwl (LTb 8) g75 cyI cyZ (tbs 8 1 0)) ++ zwl (LTb 7) g89 cyI cyZ (tbs 7 1 0)) ++ zwl LX70 g100 cyI cyZ mmX70) ++ zwl LX50 g111 cyI cyZ mmX50) ++ zwl LX00 g122 cyI cyZ mmX00)) (a := q129) (rest := [.ref q129, .ref h0]) C hl.1 hw hE trivial nTT_ok ct_X4_init hX.2.2.2.2 nk_185 nk_9 nk_186 rfl rfl ⟨by decide +kernel, by decide +kernel, by decide +kernel⟩ ⟨(Nat.le_of_ble_eq_true rfl), (Nat.le_of_ble_eq_true rfl)⟩ (Nat.le_of_ble_eq_true rfl) dX11_init_133 ⟨(Nat.le_of_ble_eq_true rfl), (Nat.le_of_ble_eq_true rfl)⟩ rfl (fun g133 H locs e133 hw9 => ?_)
  subst e133
  have hw : nWd D A s ((h0, (.inr (7, [.ref (g9 0), .ref (g20 0), .ref (g31 0), .int (mI 0), .ref (g47 0), .ref (g61 0), .ref (g75 0), .ref (g89 0), .ref (g100 0), .ref (g111 0), .ref (g122 0), .null]) : va_E)) :: (((((((((((([] : va_W) ++ zwl LX30 g9 cyI cyZ kx0) ++ zwl LX30 g20 cyI cyZ kx0) ++ zwl LX30 g31 cyI cyZ kx0) ++ zwl LX10 g47 cyI cyZ mmX10) ++ zwl (LTb 8) g61 cyI cyZ (tbs 8 1 0)) ++ zwl (LTb 8) g75 cyI cyZ (tbs 8 1 0)) ++ zwl (LTb 7) g89 cyI cyZ (tbs 7 1 0)) ++ zwl LX70 g100 cyI cyZ mmX70) ++ zwl LX50 g111 cyI cyZ mmX50) ++ zwl LX00 g122 cyI cyZ mmX00) ++ zwl LX40 g133 cyI cyZ mmX40)) H _ := hw9
  refine n_putF (k := 11) C hin hw 0 zc_X11 rfl (by decide) rfl rfl rfl rfl (Nat.le_of_ble_eq_true rfl) nk_206 dX11_init_136 (fun H locs hw => ?_)
  have hw : nWd D A s ((h0, (.inr (7, [.ref (g9 0), .ref (g20 0), .ref (g31 0), .int (mI 0), .ref (g47 0), .ref (g61 0), .ref (g75 0), .ref (g89 0), .ref (g100 0), .ref (g111 0), .ref (g122 0), .ref (g133 0)]) : va_E)) :: (((((((((((([] : va_W) ++ zwl LX30 g9 cyI cyZ kx0) ++ zwl LX30 g20 cyI cyZ kx0) ++ zwl LX30 g31 cyI cyZ kx0) ++ zwl LX10 g47 cyI cyZ mmX10) ++ zwl (LTb 8) g61 cyI cyZ (tbs 8 1 0)) ++ zwl (LTb 8) g75 cyI cyZ (tbs 8 1 0)) ++ zwl (LTb 7) g89 cyI cyZ (tbs 7 1 0)) ++ zwl LX70 g100 cyI cyZ mmX70) ++ zwl LX50 g111 cyI cyZ mmX50) ++ zwl LX00 g122 cyI cyZ mmX00) ++ zwl LX40 g133 cyI cyZ mmX40)) H _ := hw
  refine lv_aload_n hx hb dX11_init_139 rfl (lv_at hl 0 rfl) ?_
  refine n_get (k := 7) C hw 0 zc_X11 rfl (by decide) rfl nk_202 dX11_init_140 ?_
  refine lv_bipush (v := mI 7) hx hb dX11_init_143 (by decide +kernel) ?_
  refine lv_iconst (v := mI 0) hx hb dX11_init_145 rfl ?_
  refine n_resetM C hl.1 (pre := (h0, (.inr (7, [.ref (g9 0), .ref (g20 0), .ref (g31 0), .int (mI 0), .ref (g47 0), .ref (g61 0), .ref (g75 0), .ref (g89 0), .ref (g100 0), .ref (g111 0), .ref (g122 0), .ref (g133 0)]) : va_E)) :: ((((((([] : va_W) ++ zwl LX30 g9 cyI cyZ kx0) ++ zwl LX30 g20 cyI cyZ kx0) ++ zwl LX30 g31 cyI cyZ kx0) ++ zwl LX10 g47 cyI cyZ mmX10) ++ zwl (LTb 8) g61 cyI cyZ (tbs 8 1 0)) ++ zwl (LTb 8) g75 cyI cyZ (tbs 8 1 0))) (post := (zwl LX70 g100 cyI cyZ mmX70 ++ (zwl LX50 g111 cyI cyZ mmX50 ++ (zwl LX00 g122 cyI cyZ mmX00 ++ (zwl LX40 g133 cyI cyZ mmX40))))) (g := g89) hw hE (by simp only [List.append_assoc, List.cons_append, List.nil_append]) 49 (by simp only [List.length_cons, List.length_append, List.length_nil, zwl_len]) (rest := []) nk_194 ⟨(Nat.le_of_ble_eq_true rfl), (Nat.le_of_ble_eq_true rfl)⟩ rfl dX11_init_146 ⟨(Nat.le_of_ble_eq_true rfl), (Nat.le_of_ble_eq_true rfl)⟩ rfl (fun H locs hw => ?_)
  have hw2 := x_world (cyI := cyI) (cyZ := cyZ) h0 g9 g20 g31 g47 g61 g75 g89 g100 g111 g122 g133
  simp only [List.append_assoc, List.cons_append, List.nil_append] at hw
  rw [← hw2] at hw
  exact n_ret (g := gX h0 g9 g20 g31 g47 g61 g75 g89 g100 g111 g122 g133) C hr hlk hw rfl dX11_init_149 (Nat.le_of_ble_eq_true rfl) (Nat.le_of_ble_eq_true rfl)
