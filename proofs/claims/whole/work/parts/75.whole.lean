/-! THE WHOLE: the frame of this part is the task's own starting text (SKELETON.whole), the proof of whole_start is mine -/
/-! THE CLAIM OUT OF ONE WALK OF THE LAW'S BODY. Your part is whole_start (and what it stands on); all else here is the same for every law, but numbers. -/
def R_law : String := "TwoThirdsOfAnEggLaw"
def lw_P (b : Addr) (xs : List Int32) (args : Array Value) (s : State) : Prop := args = #[.ref b] ∧ s.IntsAt b xs ∧ xs.length ≤ 3072 ∧ (Jvm.Cond.and given_1 narrow_1).before args s = true
def lw_Q (_ : Array Value) (s : State) (o : Outcome) (t : State) : Prop := o = .returned (some (.int 1)) ∧ Framed s o t [] 600000 7302250
def lw_Z (below : List Frame) (a : Array Value) (s : State) : State → Prop := fun t => ∃ o, t.status = .running ∧ Ended t below o ∧ lw_Q a s o t
/-- the law's own end, with 1 on the stack, nothing written that was there before, its room as the claim has it -/
theorem lw_ret {p : Program} {l : Launch} {e : Env} {s : State} {m : MethodId} {below : List Frame} {meth : Method} {c : Code} {b : Nat} (hx : p.tables.exec = Jvm.exec) (hb : c.code = code) (hr : meth.sig.returnType = ret) (hlocks : meth.locks = false) {pc : Nat} {H : Heap} {ls : Array Slot} (hdg : decode code pc = .ok (.ireturn, 1)) : W p l e room_1 s m #[Value.ref b] below meth c H [] 600000 7302250 (lw_Z below #[Value.ref b] s) (F0 m pc ls [.int 1]) := by
  intro T hT X
  obtain ⟨fs, hret, hrun, hended, hW, hframe⟩ := X.leave (v := some (.int 1)) (hlocks := hlocks) (fun h => by rw [hr] at h; cases h)
  have hmeth' : T.vm.method? m = some meth := X.method'
  refine ⟨T.setFrames fs, ?_, .returned (some (.int 1)), hrun, hended, rfl, ⟨_, rfl⟩, hW, hframe⟩
  jvm_step X.here [X.here.top, hx, hb, hdg, hmeth', hr, ret, narrow_b1]
  (try refine ⟨rfl, ?_⟩); (try refine ⟨rfl, ?_⟩)
  first | (intro acts; rw [hret _ acts rfl rfl rfl]) | rw [hret _ _ rfl rfl rfl]
  exact Steps.refl _
/-- what holds at the law's entry: the machine, the code, the tables' words (any of lw_tbl by 'hts w (by decide +kernel)'), the script of L ints xs at the cell b, what the Statement gives of the start (any of its parts by flat_of_before) -/
def lw_At (p : Program) (s : State) (m : MethodId) (meth : Method) (c : Code) (b L : Nat) (xs : Nat → Int32) : Prop :=
  p.tables.exec = Jvm.exec ∧ c.code = code ∧ meth.sig.returnType = ret ∧ c.maxLocals = 4 ∧ s.vm.findClass R_law = some m.cls ∧ (∀ w ∈ lw_tbl, w.before #[Value.ref b] s = true) ∧ va_X b L xs s s.heap ∧ b < s.heap.size ∧ meth.locks = false ∧ (Jvm.Cond.and given_1 narrow_1).before #[Value.ref b] s = true
theorem va_nil {D : va_G} {H : Heap} : va_P D vwCl [] H := fun k q hk => by cases hk
theorem va_dnil {A : Nat → Prop} : va_D A [] := ⟨fun i j p q hi _ _ => (by cases hi), fun k q hk => (by cases hk)⟩
theorem MR_x0 : MR xz0 := by
  intro i k
  have h1 : ∀ (R W S : Int) (k : Nat), R32 R → R32 W → R32 S → R32 (tv0 R W S k) := by
    intro R W S k a b c
    match k with
    | 0 => exact (by decide : R32 0)
    | 1 => exact a
    | 2 => exact b
    | 3 => exact c
    | k + 4 => exact (by decide : R32 0)
  have h2 : ∀ i k, R32 (kx0 i k) := by
    intro i k
    match i with
    | 0 =>
      match k with
      | 0 => exact (by decide : R32 6)
      | 1 => exact (by decide : R32 4)
      | 2 => exact (by decide : R32 120)
      | 3 => exact (by decide : R32 30)
      | k + 4 => exact (by decide : R32 0)
    | 1 => exact h1 _ _ _ _ (by decide) (by decide) (by decide)
    | 2 => exact (by decide : R32 0)
    | 3 => exact h1 _ _ _ _ (by decide) (by decide) (by decide)
    | 4 => exact (by decide : R32 0)
    | 5 => exact h1 _ _ _ _ (by decide) (by decide) (by decide)
    | 6 => exact (by decide : R32 0)
    | 7 => exact h1 _ _ _ _ (by decide) (by decide) (by decide)
    | 8 => exact (by decide : R32 0)
    | 9 => exact h1 _ _ _ _ (by decide) (by decide) (by decide)
    | 10 => exact (by decide : R32 0)
    | 11 => exact h1 _ _ _ _ (by decide) (by decide) (by decide)
    | i + 12 => exact (by decide : R32 0)
  unfold xz0
  split
  · exact (by decide : R32 0)
  · split
    · exact h2 _ _
    · split
      · exact h2 _ _
      · split
        · exact h2 _ _
        · split <;> first | exact h1 _ _ _ _ (by decide) (by decide) (by decide) | exact (by decide : R32 0)
theorem MR_m0 : MR mz0 := by
  intro i k
  unfold mz0
  split
  · split <;> exact (by decide)
  · exact (by decide : R32 0)
theorem fresh_ok {N : Nat} {ty : Nat → FieldType} {fs : List Value} (h : (List.range N).all (fun j => decide (defaultValue (ty j) = vp_V fs j)) = true) : ∀ j, j < N → defaultValue (ty j) = vp_V fs j := fun j hj => of_decide_eq_true (List.all_eq_true.mp h j (List.mem_range.mpr hj))
abbrev fsX : List Value := [.null, .null, .null, .int (mI 0), .null, .null, .null, .null, .null, .null, .null, .null]
theorem fsX_ok : ∀ j, j < 12 → defaultValue (tyX11 j) = vp_V fsX j := fresh_ok (by decide +kernel)
abbrev fsM : List Value := [.int (mI 0), .int (mI 0), .int (mI 0), .int (mI 0), .int (mI 0), .int (mI 0), .int (mI 0), .null, .null, .null, .null, .null, .null, .null, .null, .null, .int (mI 0), .null, .null, .int (mI 0), .int (mI 0), .int (mI 0), .int (mI 0), .null, .null, .null, .null, .null, .int (mI 0), .int (mI 0), .int (mI 0), .null, .null, .int (mI 0), .null, .null, .null, .int (mI 0), .null, .null, .null, .int (mI 0), .null, .null, .null, .null, .null, .int (mI 0), .null, .int (mI 0)]
theorem fsM_ok : ∀ j, j < 50 → defaultValue (tyX12 j) = vp_V fsM j := fresh_ok (by decide +kernel)
theorem zD_inj {A : Nat → Prop} {La Lb : List ZKD} {ga gb : Nat → Nat} {cyI cyZ : ClassId} {ma mb : ZMem} (h : va_D A (zwl La ga cyI cyZ ma ++ zwl Lb gb cyI cyZ mb)) : zInj La ga ∧ zInj Lb gb ∧ (∀ q, zAA La ga q → A q) ∧ (∀ q, zAA Lb gb q → A q) ∧ ∀ q, zAA La ga q → ¬ zAA Lb gb q := by
  have ga' : ∀ i, i < La.length → ∃ e : va_E, (zwl La ga cyI cyZ ma ++ zwl Lb gb cyI cyZ mb)[i]? = some (ga i, e) := fun i hi => by
    have h1 := zwl_get (ad := ga) (cyI := cyI) (cyZ := cyZ) (mem := ma) (List.getElem?_eq_getElem hi)
    exact ⟨_, by rw [List.getElem?_append_left (by rw [zwl_len]; exact hi)]; exact h1⟩
  have gb' : ∀ i, i < Lb.length → ∃ e : va_E, (zwl La ga cyI cyZ ma ++ zwl Lb gb cyI cyZ mb)[La.length + i]? = some (gb i, e) := fun i hi => by
    have h1 := zwl_get (ad := gb) (cyI := cyI) (cyZ := cyZ) (mem := mb) (List.getElem?_eq_getElem hi)
    exact ⟨_, by rw [List.getElem?_append_right (by rw [zwl_len]; omega), zwl_len, Nat.add_sub_cancel_left]; exact h1⟩
  refine ⟨fun i j hi hj hij => ?_, fun i j hi hj hij => ?_, ?_, ?_, ?_⟩
  · obtain ⟨e1, h1⟩ := ga' i hi
    obtain ⟨e2, h2⟩ := ga' j hj
    exact h.1 _ _ _ _ h1 h2 hij
  · obtain ⟨e1, h1⟩ := gb' i hi
    obtain ⟨e2, h2⟩ := gb' j hj
    have := h.1 _ _ _ _ h1 h2 hij
    omega
  · rintro q ⟨i, hi, rfl⟩
    obtain ⟨e1, h1⟩ := ga' i hi
    exact h.2 _ _ h1
  · rintro q ⟨i, hi, rfl⟩
    obtain ⟨e1, h1⟩ := gb' i hi
    exact h.2 _ _ h1
  · rintro q ⟨i, hi, rfl⟩ ⟨j, hj, hij⟩
    obtain ⟨e1, h1⟩ := ga' i hi
    obtain ⟨e2, h2⟩ := gb' j hj
    have := h.1 _ _ _ _ h1 h2 hij
    omega
theorem nw_125 : Cond.methodLinkNest RX11 28 yX1_init RX11 ∈ lw_tbl := List.mem_append_right _ (List.mem_of_getElem? (i := 125) (by decide +kernel))
theorem nw_145 : Cond.methodLinkNest RX11 50 yX7_init RX11 ∈ lw_tbl := List.mem_append_right _ (List.mem_of_getElem? (i := 145) (by decide +kernel))
theorem nw_157 : Cond.methodLinkNest RX11 57 yX5_init RX11 ∈ lw_tbl := List.mem_append_right _ (List.mem_of_getElem? (i := 157) (by decide +kernel))
theorem nw_172 : Cond.methodLinkNest RX11 64 yX0_init RX11 ∈ lw_tbl := List.mem_append_right _ (List.mem_of_getElem? (i := 172) (by decide +kernel))
theorem nw_184 : Cond.methodLinkNest RX11 71 yX4_init RX11 ∈ lw_tbl := List.mem_append_right _ (List.mem_of_getElem? (i := 184) (by decide +kernel))
set_option maxHeartbeats 4000000 in
set_option maxRecDepth 20000 in
/-- from the entry, for every script of at most 3072 ints, the law comes to its end with true -/
theorem whole_start {p : Program} {e : Env} {s : State} {m : MethodId} {below : List Frame} {meth : Method} {c : Code} (l : Launch) (hflags : l.flags = flags0) {b L : Nat} {xs : Nat → Int32} (hL : L ≤ 3072) (C0 : lw_At p s m meth c b L xs) : W p l e room_1 s m #[Value.ref b] below meth c s.heap [] 0 0 (lw_Z below #[Value.ref b] s) (entryFrame m ([Value.ref b] : List Value).toArray 4) := by
  obtain ⟨hx, hb, hret, hml, hown, hts, hXs, hbl, hlk, hgv⟩ := C0
  have hz := zall_ok hts
  obtain ⟨D, cyI, cyZ, hK⟩ := st_K hz
  obtain ⟨sc, sv, hE⟩ := st_E (A := fun q : Nat => s.heap.size ≤ q) hts hgv (fun a h1 h2 => absurd h2 (Nat.not_le.mpr h1))
  have C : nCX RL cL_law 4 p s m #[Value.ref b] c D cyI cyZ (fun q : Nat => s.heap.size ≤ q) := ⟨⟨hx, hb, hml, hown, hz⟩, hK, fun q h => h⟩
  have hN : nXN s := ⟨va_Nw.of rfl (hts _ nw_125), va_Nw.of rfl (hts _ nw_145), va_Nw.of rfl (hts _ nw_157), va_Nw.of rfl (hts _ nw_172), va_Nw.of rfl (hts _ nw_184)⟩
  have hl := lv_entry [Value.ref b] (n := 4) (Nat.le_of_ble_eq_true rfl)
  rw [lg_entry_eq]
  generalize (lg_sl [Value.ref b] ++ List.replicate (4 - (lg_sl [Value.ref b]).length) Slot.unset).toArray = ls at hl ⊢
  have hl : lv_has ls 4 [(0, .ref b)] := hl
  have hw : nWd D (fun q : Nat => s.heap.size ≤ q) s [] s.heap [] := ⟨va_nil, va_dnil, va_S.rf⟩
  refine n_new C hw (fs := fsX) zc_X11 fsX_ok nk_20 nk_21 nk_1 dL_law_0 (Nat.le_of_ble_eq_true rfl) (Nat.le_of_ble_eq_true rfl) (fun q0 H hw => ?_)
  have hw : nWd D (fun q : Nat => s.heap.size ≤ q) s (([] : va_W) ++ [(q0, .inr (7, fsX))]) H _ := hw
  refine lv_dup hx hb dL_law_3 rfl ?_
  refine n_call (wr := []) (a := q0) (rest := [.ref q0]) C hl.1 hw hE hN nXN_ok ct_X11_init nk_22 nk_23 nk_1 nk_24 rfl rfl ⟨by decide +kernel, by decide +kernel, by decide +kernel⟩ ⟨Nat.le_of_ble_eq_true rfl, Nat.le_of_ble_eq_true rfl⟩ (Nat.le_of_ble_eq_true rfl) dL_law_4 ⟨Nat.le_of_ble_eq_true rfl, Nat.le_of_ble_eq_true rfl⟩ rfl (fun gx H locs e4 hw9 => ?_)
  subst e4
  rw [List.nil_append] at hw9
  have hw := hw9
  refine lv_astore_n (nL := 4) hx hb dL_law_7 rfl hl (by decide) rfl (fun ls hl => ?_)
  have hl : lv_has ls 4 [(1, .ref (gx 0)), (0, .ref b)] := hl
  refine n_new C hw (fs := fsM) zc_X12 fsM_ok nk_1032 nk_1033 nk_10 dL_law_8 (Nat.le_of_ble_eq_true rfl) (Nat.le_of_ble_eq_true rfl) (fun q8 H hw => ?_)
  refine lv_dup hx hb dL_law_11 rfl ?_
  refine n_call (wr := zwl LX gx cyI cyZ xz0) (a := q8) (rest := [.ref q8]) C hl.1 hw hE trivial nTT_ok ct_X12_init nk_1034 nk_1035 nk_10 nk_1036 rfl rfl ⟨by decide +kernel, by decide +kernel, by decide +kernel⟩ ⟨Nat.le_of_ble_eq_true rfl, Nat.le_of_ble_eq_true rfl⟩ (Nat.le_of_ble_eq_true rfl) dL_law_12 ⟨Nat.le_of_ble_eq_true rfl, Nat.le_of_ble_eq_true rfl⟩ rfl (fun gm H locs e12 hw9 => ?_)
  subst e12
  obtain ⟨hP, hD, hS⟩ := hw9
  obtain ⟨i1, i2, i3, i4, i5⟩ := zD_inj hD
  have hPx : va_P D vwCl (zwl LX gx cyI cyZ xz0) H := fun k q hk => hP k q (by rw [List.getElem?_append_left (List.getElem?_eq_some_iff.mp hk).1]; exact hk)
  have hPm : va_P D vwCl (zwl LM gm cyI cyZ mz0) H := fun k q hk => hP ((zwl LX gx cyI cyZ xz0).length + k) q (by rw [List.getElem?_append_right (Nat.le_add_right _ _), Nat.add_sub_cancel_left]; exact hk)
  refine lv_astore_n (nL := 4) hx hb dL_law_15 rfl hl (by decide) rfl (fun ls hl => ?_)
  have hl : lv_has ls 4 [(2, .ref (gm 0)), (1, .ref (gx 0)), (0, .ref b)] := hl
  refine lv_iconst (v := mI 0) hx hb dL_law_16 rfl ?_
  refine lv_istore_n (nL := 4) hx hb dL_law_17 rfl hl (by decide) rfl (fun ls hl => ?_)
  have hl : lv_has ls 4 [(3, .int (mI ((0 : Nat) : Int))), (2, .ref (gm 0)), (1, .ref (gx 0)), (0, .ref b)] := hl
  have LC : LWC p s m #[Value.ref b] c D cyI cyZ (fun q : Nat => s.heap.size ≤ q) sc sv gx gm b L xs := ⟨C.1, hK, hE, ⟨i1, i2⟩, ⟨i3, i4⟩, i5, hXs, hbl, Nat.not_le.mpr hbl⟩
  refine l_loop LC hL ⟨Nat.le_of_ble_eq_true rfl, Nat.le_of_ble_eq_true rfl⟩ (fun x1 m1 H1 locs1 ls1 hw1 => ?_) 600 0 0 xz0 mz0 H _ ls (by omega) (by omega) (by omega) hl cp0 ⟨hPx, hPm, hS, MR_x0, MR_m0⟩
  refine va_forget (fun q hq => hw1.2.2.1.2.2 q hq) ?_
  refine lv_iconst (v := 1) hx hb dL_law_1608 rfl ?_
  refine W.widen (k := 600000) (n := 7302250) (Nat.le_of_ble_eq_true rfl) (Nat.le_of_ble_eq_true rfl) ?_
  exact lw_ret hx hb hret hlk dL_law_1609
set_option maxHeartbeats 4000000 in
theorem lw_walk (l : Launch) (hflags : l.flags = flags0) (b : Addr) (xs : List Int32) : MetFree l x (headSpec (Jvm.Cond.code x code maxLocals ret :: tables_1) room_1) (lw_P b xs) (fun _ _ _ _ _ => True) lw_Q := by
  refine MetFree.of_bodyS (code := code) (maxLocals := maxLocals) (ret := ret) (by decide) ?_ ?_
  · intro args s m h hn
    obtain ⟨meth, c, h1, h2, h3, h4, h5, h6, -, -⟩ := Cond.code_spec hn (atoms_spec (ws := Jvm.Cond.code x code maxLocals ret :: tables_1) h _ List.mem_cons_self)
    exact ⟨meth, c, h1, h2, h3, h4, h5, h6⟩
  · intro p e s m args below meth c s₁ B hml0 hP _
    obtain ⟨rfl, hx, hbd, hgv⟩ := hP
    obtain ⟨scr, harrAt, hlist, hof, hsmall⟩ := hx
    obtain ⟨hcb, hkn, -, -⟩ := State.arrayAt?_spec harrAt
    have hown : s.vm.findClass R_law = some m.cls := findClass_of_methodNamed B.named
    have hts0 : ∀ c ∈ (Jvm.Cond.code x code maxLocals ret :: tables_1), c.before #[Value.ref b] s = true := atoms_spec (ws := Jvm.Cond.code x code maxLocals ret :: tables_1) B.pre
    have hts : ∀ w ∈ lw_tbl, w.before #[Value.ref b] s = true := k2_hts_sels lw_privs (fun w hw => hts0 w (List.mem_cons_of_mem _ hw)) lw_privs_ok
    have hml : c.maxLocals = 4 := B.maxLocals_eq (hts0 _ List.mem_cons_self)
    have X₀ : Stand p l e room_1 s m #[Value.ref b] below meth c s₁ [] 0 0 := Stand.of_body B
    have hh0 : s₁.heap = s.heap := by rw [B.state]; rfl
    have hsz : scr.slots.size = xs.length := by rw [← Array.length_toList, hlist, List.length_map]
    have hval : ∀ j : Nat, j < xs.length → scr.slots[j]? = some (.int (xs.getD j 0)) := fun j hj => by
      rw [← Array.getElem?_toList, hlist]
      simp [hj]
    have hbl : b < s.heap.size := (Array.getElem?_eq_some_iff.mp hcb).1
    have hX : va_X b xs.length (fun j => xs.getD j 0) s s.heap := ⟨scr, hcb, hof, hkn, hsz, hval⟩
    have K : W p l e room_1 s m #[Value.ref b] below meth c s₁.heap [] 0 0 (lw_Z below #[Value.ref b] s) (entryFrame m ([Value.ref b] : List Value).toArray 4) := by
      rw [hh0]
      exact whole_start l hflags hbd ⟨B.exec, B.bytes, B.returns, hml, hown, hts, hX, hbl, B.notSynchronized, hgv⟩
    obtain ⟨t, a1, o, b1, b2, b3⟩ := K s₁ rfl X₀
    exact ⟨t, o, a1, b1, b2, b3⟩
theorem lw_pre_spec {args : Array Value} {s : State} (h : (Jvm.Cond.and given_1 narrow_1).before args s = true) (hr : rest_1_c.before args s = true) : ∃ (b : Addr) (xs : List Int32), lw_P b xs args s := by
  have hs := flat_of_before _ h
  have hq := flat_of_before _ hr
  have hc : (Cond.count 1).before args s = true := hs _ (by decide +kernel)
  have harr : (Cond.arrayOf (.arg 0) .int).before args s = true := hs _ (by decide +kernel)
  have hle : (Cond.le (.length (.arg 0)) (.int 3072)).before args s = true := hs _ (by decide +kernel)
  have hlen : (Cond.isInt (.length (.arg 0))).before args s = true := hq _ (by decide +kernel)
  have hall : (Cond.all (.arg 0) (.isInt (.elem (.arg 0) (.index 0)))).before args s = true := hq _ (by decide +kernel)
  obtain ⟨b, xs, hb, hx⟩ := State.ints_of_pre rfl harr hlen hall
  have hsm : xs.length < 2 ^ 31 := hx.choose_spec.2.2.2
  have hev : (Term.length (.arg 0)).eval args s none [] s = some (.int xs.length.toInt32) := hx.length_eval hb
  have hv := Cond.le_ints hev (show (Term.int 3072).eval args s none [] s = some (.int 3072) from rfl)
  have hd : xs.length.toInt32 ≤ 3072 := by
    simpa [Cond.before, Cond.holds, hv] using hle
  have hN : xs.length ≤ 3072 := (Int32.ofNat_le_ofNat hsm (by decide)).mp (show Int32.ofNat xs.length ≤ Int32.ofNat 3072 from hd)
  exact ⟨b, xs, Cond.one_arg hc (show args[0]? = some (.ref b) from hb), hx, hN, h⟩
theorem lw_comes (l : Launch) (hflags : l.flags = flags0) : Comes l x (Jvm.Cond.code x code maxLocals ret :: tables_1) room_1 (fun tb e args s => Calls_1 tb e args s ∧ rest_1 tb e args s ∧ Pre_1 tb e args s)
    (fun _ _ args s o t => lw_Q args s o t) := by
  intro p e ha hc hk s m args below hf hfit hheap happ hpre
  obtain ⟨b, xs, hP⟩ := lw_pre_spec hpre.2.2 hpre.2.1
  obtain ⟨k, o, h1, h2, h3, hQ⟩ := lw_walk l hflags b xs p e ha hc hk s m args below hf ((Spec.applies_iff_loose hf).mp happ).1 hP trivial
  exact ⟨k, o, h1, h2, h3, hQ⟩
theorem lw_frame {s t : State} {o : Outcome} {args : Array Value} (h : Framed s o t [] 600000 7302250) :
    Framed s o t (fieldLocs frame_1_writes args s ++ arrayLocs frame_1_arrays args s ++ staticLocs frame_1_statics s) 600000 7302250 := h
theorem lw_limb (L : Cond) (hL : ∀ (args : Array Value) (s t : State), L.after args s (.returned (some (.int 1))) t = true) :
    ArmFor flags0 classFile x code maxLocals ret World_1 tables_1 room_1 Calls_1 rest_1 Pre_1
      (fun tb e a s o t => postC L tb e a s o t ∧ Framed s o t (fieldLocs frame_1_writes a s ++ arrayLocs frame_1_arrays a s ++ staticLocs frame_1_statics s) 600000 7302250) := by
  intro l hflags _ _ p e ha hc hk s m args below hf hfit hheap happ hpre
  obtain ⟨k, o, h1, h2, h3, rfl, hF⟩ := lw_comes l hflags p e ha hc hk s m args below hf hfit hheap happ hpre
  exact ⟨k, _, h1, h2, h3, hL args s _, lw_frame hF⟩
theorem i_vc : Claimed_1_1 ∧ Claimed_1_2 := ⟨lw_limb limb_1_1 (fun args s t => by simp [limb_1_1, Cond.after, Cond.holds, Cond.value]), lw_limb limb_1_2 (fun args s t => Cond.after_iff.mpr (by
  first | (rw [show limb_1_2 = Cond.eq .result (.int 1) from rfl, Cond.eq_ints (x := 1) (y := 1) rfl rfl]; simp; done) | (simp [limb_1_2, Cond.value, Term.eval]; done)))⟩
