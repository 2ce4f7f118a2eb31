/-! Table(int, int), and reset of a table that is new -/
theorem nCT_of {y : MethodName} {M : ZMI} {ci : Nat} {fs0 As : List Value} {La : List ZKD} {mem : ZMem} {X : State → Prop} {lv : Nat → List (Nat × Value)} (hy : plainName y.cls = true) (hown : y.cls = M.1) (hy1 : y.name = "<init>") (hlen : ∀ h0 : Nat, (lg_sl (.ref h0 :: As)).length ≤ M.2.2.1) (hlv : ∀ h0 : Nat, lv_args 0 (.ref h0 :: As) = lv h0)
    (body : ∀ (p : Program) (l : Launch) (e : Env) (s : State) (m : MethodId) (args : Array Value) (below : List Frame) (meth : Method) (c : Code) (D : va_G) (cyI cyZ : ClassId) (sc sv : Nat → Nat) (h0 : Nat) (A : Nat → Prop) (ls : Array Slot), nCX M.1 M.2.1 M.2.2.1 p s m args c D cyI cyZ A → meth.sig.returnType = M.2.2.2.1 → meth.locks = false → meth.name = "<init>" → zEV sc sv A s s.heap → X s → nWd D A s [(h0, .inr (ci, fs0))] s.heap [] → lv_has ls M.2.2.1 (lv h0) →
      W p l e M.2.2.2.2.2 s m args below meth c s.heap [] 0 0 (MQ below (va_Qv (fun g : Nat → Nat => g 0 = h0) (fun g t => va_P D vwCl (zwl La g cyI cyZ mem) t.heap ∧ va_D A (zwl La g cyI cyZ mem)) A) args s M.2.2.2.2.2.cells M.2.2.2.2.2.slots A) (F0 m 0 ls [])) : nCT y M ci fs0 As La mem X := by
  intro l D cyI cyZ sc sv h0 sz
  refine Met.ofW (cc := M.2.1) (maxL := M.2.2.1) (ret := M.2.2.2.1) hy rfl ?_
  intro p e s m args below meth c s₁ B hml hv
  obtain ⟨rfl, hsz, hP, hK, hE, hX⟩ := hv
  subst hsz
  have hts := atoms_spec (ws := zws y M) B.pre
  have hl := lv_entry (.ref h0 :: As) (n := M.2.2.1) (hlen h0)
  rw [lg_entry_eq]
  rw [hlv] at hl
  have hin : meth.name = "<init>" := (name_of_methodNamed B.named B.method).1.trans hy1
  have hD0 : va_D (fun _ => True) [(h0, (.inr (ci, fs0) : va_E))] := by
    refine ⟨fun i j q r hi hj _ => ?_, fun _ _ _ => trivial⟩
    have h1 : i < 1 := (List.getElem?_eq_some_iff.mp hi).1
    have h2 : j < 1 := (List.getElem?_eq_some_iff.mp hj).1
    omega
  exact body p l e s m _ below meth c D cyI cyZ sc sv h0 _ _ ⟨⟨B.exec, B.bytes, hml, by rw [← hown]; exact findClass_of_methodNamed B.named, fun w hw => hts w (List.mem_cons_of_mem _ hw)⟩, hK, fun q h => Or.inr h⟩ B.returns B.notSynchronized hin hE hX ⟨hP, hD0.self, va_S.rf⟩ hl
section ZTAB
variable {p : Program} {l : Launch} {e : Env} {R : Room} {s : State} {m : MethodId} {args : Array Value} {below : List Frame} {meth : Method} {c : Code} {H : Heap} {locs : List Loc} {cells slots : Nat} {Q : State → Prop}
variable {cc : ByteArray} {pc : Nat} {ls : Array Slot} {rest : List Value} {D : va_G} {A : Nat → Prop} {cyI cyZ : ClassId} {ws : va_W} {own : String} {nL : Nat}
theorem n_ret (C : nCX own cc nL p s m args c D cyI cyZ A) (hr : meth.sig.returnType = none) (hlk : meth.locks = false) {h0 mc ms : Nat} {La : List ZKD} {mem : ZMem} {g : Nat → Nat} (hw : nWd D A s (zwl La g cyI cyZ mem) H locs) (hg : g 0 = h0) (hd : decode cc pc = .ok (.return_, 1)) (hc : cells ≤ mc) (hs : slots ≤ ms) : W p l e R s m args below meth c H locs cells slots (MQ below (va_Qv (fun g : Nat → Nat => g 0 = h0) (fun g t => va_P D vwCl (zwl La g cyI cyZ mem) t.heap ∧ va_D A (zwl La g cyI cyZ mem)) A) args s mc ms A) (F0 m pc ls []) := by
  obtain ⟨hP, hD, hS⟩ := hw
  refine W.widen (k := mc) (n := ms) hc hs ?_
  exact W.vret C.1.1 C.1.2.1 hr (fun t ht hW => ⟨⟨g, rfl, hg, by rw [ht]; exact hP, hD⟩, hS.F ht⟩) hS.2.2 hd hlk
theorem n_obj (C : nCX own cc nL p s m args c D cyI cyZ A) (hls : ls.size = nL) {a idx : Nat} (hl : Cond.methodLink own idx Lib.objectInit ∈ zall) (hd : decode cc pc = .ok (.invokespecial idx, 3)) (hf : 1 ≤ R.frames) (hlo : (rest.map fun v => v.category).sum + 12 ≤ R.locals) (kk : W p l e R s m args below meth c H locs cells slots Q (F0 m (pc + 3) ls rest)) : W p l e R s m args below meth c H locs cells slots Q (F0 m pc ls (.ref a :: rest)) :=
  W.objInit C.1.1 C.1.2.1 C.1.2.2.2.1 (C.1.2.2.2.2 _ hl) (C.1.2.2.2.2 _ nk_26) (C.1.2.2.2.2 _ nk_27) rfl (by rw [C.1.2.2.1]; exact hls) rfl hd hf (by show 2 * 0 + _ + 12 ≤ _; omega) kk
theorem n_mmax (C : nCX own cc nL p s m args c D cyI cyZ A) (hls : ls.size = nL) {x y : Int} {idx : Nat} (hx : R32 x) (hy : R32 y) (hl : Cond.methodLink own idx Lib.Math.max.name ∈ zall) (hd : decode cc pc = .ok (.invokestatic idx, 3)) (hf : 1 ≤ R.frames) (hlo : (rest.map fun v => v.category).sum + 13 ≤ R.locals) (hc : cells ≤ R.cells) (hs : slots ≤ R.slots) {z : Int} (hz : max x y = z) (kk : W p l e R s m args below meth c H locs cells slots Q (F0 m (pc + 3) ls (.int (mI z) :: rest))) : W p l e R s m args below meth c H locs cells slots Q (F0 m pc ls (.int (mI y) :: .int (mI x) :: rest)) := by
  refine va_mmax C.1.1 C.1.2.1 (C.1.2.2.1.trans hls.symm) C.1.2.2.2.1 (C.1.2.2.2.2 _ hl) (C.1.2.2.2.2 _ k_41) (C.1.2.2.2.2 _ k_4) (C.1.2.2.2.2 _ k_42) hf hlo hc hs hd ?_
  have e : (if mI x < mI y then mI y else mI x) = mI z := by
    by_cases h : x < y
    · rw [if_pos ((mI_lt hx hy).mpr h)]; congr 1; omega
    · rw [if_neg (fun g => h ((mI_lt hx hy).mp g))]; congr 1; omega
  rw [e]
  exact kk
end ZTAB
abbrev M_X9_init (N : Nat) : ZMI := (RX9, cX9_init, 3, none, 0, { frames := 1, cells := 1, slots := N, locals := 20 })
set_option maxRecDepth 20000 in
theorem ct_X9_init (a b : Int) (N : Nat) (h : (0 ≤ a ∧ a ≤ 5000) ∧ (1 ≤ b ∧ b ≤ 10) ∧ a * b ≤ 5000) (hN : (a * b).toNat = N) : nCT yX9_init (M_X9_init N) 6 [.null, .int (mI 0), .int (mI 0), .int (mI 0)] [.int (mI a), .int (mI b)] (LTb N) (tbs a b 0) nTT := by
  refine nCT_of (lv := fun h0 => [(0, .ref h0), (1, .int (mI a)), (2, .int (mI b))]) (by decide +kernel) rfl rfl (fun _ => Nat.le_of_ble_eq_true rfl) (fun _ => rfl) ?_
  intro p l e s m args below meth c D cyI cyZ sc sv h0 A ls C hr hlk hin hE hX hw hl
  have hx := C.1.1
  have hb := C.1.2.1
  have h0m : 0 ≤ a * b := Int.mul_nonneg h.1.1 (by omega)
  refine lv_aload_n hx hb dX9_init_0 rfl (lv_at hl 0 rfl) ?_
  refine n_obj C hl.1 nk_39 dX9_init_1 (Nat.le_of_ble_eq_true rfl) (Nat.le_of_ble_eq_true rfl) ?_
  refine lv_aload_n hx hb dX9_init_4 rfl (lv_at hl 0 rfl) ?_
  refine lv_iconst (v := mI 0) hx hb dX9_init_5 rfl ?_
  refine n_put (k := 3) C hw 0 zc_X9 rfl (by decide) rfl rfl rfl (Nat.le_of_ble_eq_true rfl) nk_46 dX9_init_6 (fun H locs hw => ?_)
  have hw : nWd D A s [(h0, .inr (6, [.null, .int (mI 0), .int (mI 0), .int (mI 0)]))] H locs := hw
  refine lv_aload_n hx hb dX9_init_9 rfl (lv_at hl 0 rfl) ?_
  refine lv_iload_n hx hb dX9_init_10 rfl (lv_at hl 1 rfl) ?_
  refine lv_iconst (v := mI 0) hx hb dX9_init_11 rfl ?_
  refine n_mmax C hl.1 (by omega) (by decide) k_40 dX9_init_12 (Nat.le_of_ble_eq_true rfl) (Nat.le_of_ble_eq_true rfl) (Nat.zero_le _) (Nat.zero_le _) (z := a) (by omega) ?_
  refine n_putF (k := 1) C hin hw 0 zc_X9 rfl (by decide) rfl rfl rfl rfl (Nat.le_of_ble_eq_true rfl) nk_44 dX9_init_15 (fun H locs hw => ?_)
  have hw : nWd D A s [(h0, .inr (6, [.null, .int (mI a), .int (mI 0), .int (mI 0)]))] H locs := hw
  refine lv_aload_n hx hb dX9_init_18 rfl (lv_at hl 0 rfl) ?_
  refine lv_iload_n hx hb dX9_init_19 rfl (lv_at hl 2 rfl) ?_
  refine lv_iconst (v := mI 1) hx hb dX9_init_20 rfl ?_
  refine n_mmax C hl.1 (by omega) (by decide) k_40 dX9_init_21 (Nat.le_of_ble_eq_true rfl) (Nat.le_of_ble_eq_true rfl) (Nat.zero_le _) (Nat.zero_le _) (z := b) (by omega) ?_
  refine n_putF (k := 2) C hin hw 0 zc_X9 rfl (by decide) rfl rfl rfl rfl (Nat.le_of_ble_eq_true rfl) nk_45 dX9_init_24 (fun H locs hw => ?_)
  have hw : nWd D A s [(h0, .inr (6, [.null, .int (mI a), .int (mI b), .int (mI 0)]))] H locs := hw
  refine lv_aload_n hx hb dX9_init_27 rfl (lv_at hl 0 rfl) ?_
  refine lv_aload_n hx hb dX9_init_28 rfl (lv_at hl 0 rfl) ?_
  refine n_get (k := 1) C hw 0 zc_X9 rfl (by decide) rfl nk_44 dX9_init_29 ?_
  refine lv_aload_n hx hb dX9_init_32 rfl (lv_at hl 0 rfl) ?_
  refine n_get (k := 2) C hw 0 zc_X9 rfl (by decide) rfl nk_45 dX9_init_33 ?_
  refine lv_imul hx hb dX9_init_36 ?_
  rw [mI_mul]
  refine lv_iconst (v := mI 0) hx hb dX9_init_37 rfl ?_
  refine n_mmax C hl.1 (by omega) (by decide) k_40 dX9_init_38 (Nat.le_of_ble_eq_true rfl) (Nat.le_of_ble_eq_true rfl) (Nat.zero_le _) (Nat.zero_le _) (z := a * b) (by omega) ?_
  refine n_newa C hw (N := N) (by omega) hN nk_56 dX9_init_41 (Nat.le_refl _) (by show 0 + N ≤ N; omega) (fun q H hw => ?_)
  have hw : nWd D A s [(h0, .inr (6, [.null, .int (mI a), .int (mI b), .int (mI 0)])), (q, .inl (cyI, N, .inl (fun _ => mI 0)))] H locs := hw
  refine n_putF (k := 0) C hin hw 0 zc_X9 rfl (by decide) rfl rfl rfl rfl (Nat.le_of_ble_eq_true rfl) nk_43 dX9_init_43 (fun H locs hw => ?_)
  have hw : nWd D A s [(h0, .inr (6, [.ref q, .int (mI a), .int (mI b), .int (mI 0)])), (q, .inl (cyI, N, .inl (fun _ => mI 0)))] H locs := hw
  exact n_ret (g := fun i => [h0, q].getD i 0) C hr hlk hw rfl dX9_init_46 (Nat.le_refl _) (by show 0 + N ≤ N; omega)
section ZRST
variable {ad sc sv : Nat → Nat}
theorem zG_ck {La : List ZKD} {M : ZMI} {pc : Nat} {lv : List (Nat × Value)} {st : List Value} {mem : ZMem} {o : ZR} {P : Prop} [Decidable P] (h : P) (k : zG La ad sc sv M pc lv st mem (chk P o)) : zG La ad sc sv M pc lv st mem o := by rw [chk_pos h] at k; exact k
def rsf (m : ZMem) (K i : Nat) (v : Int) : ZMem := fun a b => if a = 1 ∧ i ≤ b ∧ b < K then v else m a b
theorem rs_walk {N : Nat} (hN : N < 1000000) {K : Nat} (hK : K ≤ N) {v : Int} (hv : R32 v) : ∀ (d i : Nat) (mm : ZMem), i + d = K → mm 0 3 * mm 0 2 = (K : Int) → zG (LTb N) ad sc sv M_X9_reset 18 [(0, .ref (ad 0)), (2, .int (mI v)), (3, .int (mI (i : Int)))] [] mm (some (0, rsf mm K i v)) := by
  intro d
  induction d with
  | zero =>
    intro i mm hi hm
    refine z_iload_n dX9_reset_18 2 rfl ?_
    refine z_aload_n dX9_reset_19 0 rfl ?_
    refine z_getI (i := 0) dX9_reset_20 (k := 3) zc_X9 rfl rfl (by decide) k_46 (fun h4 => ?_)
    refine z_aload_n dX9_reset_23 0 rfl ?_
    refine z_getI (i := 0) dX9_reset_24 (k := 2) zc_X9 rfl rfl (by decide) k_45 (fun h5 => ?_)
    refine zG_ck (P := R32 (mm 0 3 * mm 0 2)) (by omega) (z_imul dX9_reset_27 (fun h6 => ?_))
    refine z_icmp_ge_t dX9_reset_28 (by omega) h6 (by omega) (tgt := 53) rfl ?_
    rw [show rsf mm K i v = mm from (by
      funext a b
      exact if_neg (fun h => by omega))]
    exact z_vret dX9_reset_53 rfl rfl
  | succ d ih =>
    intro i mm hi hm
    refine z_iload_n dX9_reset_18 2 rfl ?_
    refine z_aload_n dX9_reset_19 0 rfl ?_
    refine z_getI (i := 0) dX9_reset_20 (k := 3) zc_X9 rfl rfl (by decide) k_46 (fun h4 => ?_)
    refine z_aload_n dX9_reset_23 0 rfl ?_
    refine z_getI (i := 0) dX9_reset_24 (k := 2) zc_X9 rfl rfl (by decide) k_45 (fun h5 => ?_)
    refine zG_ck (P := R32 (mm 0 3 * mm 0 2)) (by omega) (z_imul dX9_reset_27 (fun h6 => ?_))
    refine z_icmp_ge_f dX9_reset_28 (by omega) h6 (by omega) (tgt := 53) rfl ?_
    refine z_iload_n dX9_reset_31 2 rfl ?_
    refine z_aload_n dX9_reset_32 0 rfl ?_
    refine z_getR (i := 0) dX9_reset_33 (k := 0) (j := 1) zc_X9 rfl rfl (by decide) k_43 ?_
    refine z_alen (n := N) (sp := []) dX9_reset_36 rfl hN (fun h8 => ?_)
    have hz : zlen (LTb N) 1 = (N : Int) := rfl
    refine z_icmp_ge_f dX9_reset_37 (by omega) h8 (by omega) (tgt := 53) rfl ?_
    refine z_aload_n dX9_reset_40 0 rfl ?_
    refine z_getR (i := 0) dX9_reset_41 (k := 0) (j := 1) zc_X9 rfl rfl (by decide) k_43 ?_
    refine z_iload_n dX9_reset_44 2 rfl ?_
    refine z_iload_n dX9_reset_45 1 rfl ?_
    refine zG_ck (P := 0 ≤ (i : Int) ∧ (i : Int) < zlen (LTb N) 1) (by omega) (z_iastore dX9_reset_46 (by omega) hv ?_)
    refine zG_ck (P := R32 ((i : Int) + 1)) (by omega) (z_iinc dX9_reset_47 (lv' := [(3, .int (mI ((i : Int) + 1))), (0, .ref (ad 0)), (2, .int (mI v))]) 2 rfl (by decide) rfl (fun h10 => ?_))
    refine z_goto dX9_reset_50 (tgt := 18) rfl ?_
    have h1 := ih (i + 1) (wr mm 1 i v) (by omega) (by simp only [wr]; exact hm)
    have h2 : rsf (wr mm 1 i v) K (i + 1) v = rsf mm K i v := by
      funext a b
      show (if a = 1 ∧ i + 1 ≤ b ∧ b < K then v else (if a = 1 ∧ b = i then v else mm a b)) = (if a = 1 ∧ i ≤ b ∧ b < K then v else mm a b)
      by_cases c1 : a = 1 ∧ i ≤ b ∧ b < K
      · rw [if_pos c1]
        by_cases c2 : b = i
        · rw [if_neg (by omega), if_pos ⟨c1.1, c2⟩]
        · rw [if_pos (by omega)]
      · rw [if_neg c1, if_neg (by omega), if_neg (by omega)]
    rw [h2] at h1
    exact zG_lvk h1 [1, 2, 0] rfl
theorem ct_rst {N : Nat} (hN : N < 1000000) {R : Int} (hR : 0 ≤ R ∧ R ≤ 1000) {K : Nat} (hK : K ≤ N) (hKR : (K : Int) ≤ R) : zCT (LTb N) ad sc sv M_X9_reset yX9_reset [.ref (ad 0), .int (mI (K : Int)), .int (mI 0)] (tbs R 1 0) (some (0, tbs R 1 (K : Int))) := by
  refine zCT_of (lv := [(0, .ref (ad 0)), (1, .int (mI (K : Int))), (2, .int (mI 0))]) (by decide) rfl (Nat.le_of_ble_eq_true rfl) rfl ?_
  have e0 : tbs R 1 0 0 1 = R := rfl
  have e1 : max (min (K : Int) (tbs R 1 0 0 1)) 0 = (K : Int) := by omega
  refine z_aload_n dX9_reset_0 0 rfl ?_
  refine z_iload_n dX9_reset_1 1 rfl ?_
  refine z_aload_n dX9_reset_2 0 rfl ?_
  refine z_getI (i := 0) dX9_reset_3 (k := 1) zc_X9 rfl rfl (by decide) k_44 (fun h1 => ?_)
  refine z_mmin dX9_reset_6 (by omega) h1 k_61 k_62 k_4 k_63 (Nat.le_of_ble_eq_true rfl) (Nat.le_of_ble_eq_true rfl) (fun h2 => ?_)
  refine z_iconst dX9_reset_9 ?_
  refine z_mmax dX9_reset_10 h2 (by decide) k_40 k_41 k_4 k_42 (Nat.le_of_ble_eq_true rfl) (Nat.le_of_ble_eq_true rfl) (fun h3 => ?_)
  rw [e1]
  refine z_putI (i := 0) dX9_reset_13 (k := 3) zc_X9 rfl rfl (by decide) rfl rfl (by omega) k_46 ?_
  refine z_iconst dX9_reset_16 ?_
  refine z_istore_n dX9_reset_17 (lv' := [(3, .int (mI 0)), (0, .ref (ad 0)), (1, .int (mI (K : Int))), (2, .int (mI 0))]) (by decide) rfl ?_
  have h5 := rs_walk (ad := ad) (sc := sc) (sv := sv) hN hK (v := 0) (by decide) K 0 (wr (tbs R 1 0) 0 3 (K : Int)) (by omega) (by
    show (K : Int) * 1 = _
    omega)
  have h6 : rsf (wr (tbs R 1 0) 0 3 (K : Int)) K 0 0 = tbs R 1 (K : Int) := by
    funext a b
    match a with
    | 0 =>
      show (if 0 = 1 ∧ 0 ≤ b ∧ b < K then (0 : Int) else (if 0 = 0 ∧ b = 3 then (K : Int) else tv0 R 1 0 b)) = tv0 R 1 (K : Int) b
      rw [if_neg (by omega)]
      match b with
      | 0 => rfl
      | 1 => rfl
      | 2 => rfl
      | 3 => rfl
      | b + 4 => rw [if_neg (by omega)]; rfl
    | a + 1 =>
      show (if a + 1 = 1 ∧ 0 ≤ b ∧ b < K then (0 : Int) else (if a + 1 = 0 ∧ b = 3 then (K : Int) else 0)) = 0
      split
      · rfl
      · rw [if_neg (by omega)]
  rw [h6] at h5
  exact zG_lvk h5 [1, 3, 0] rfl
end ZRST
