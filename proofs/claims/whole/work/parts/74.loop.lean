/-! THE LAW'S LOOP, AND THE WHOLE (the fifty alternatives written by gen_law.py) -/
section ZLAW
variable {p : Program} {l : Launch} {e : Env} {s : State} {m : MethodId} {args : Array Value} {below : List Frame} {meth : Method} {c : Code} {H : Heap} {locs : List Loc} {cells slots : Nat} {Q : State → Prop}
variable {D : va_G} {A : Nat → Prop} {cyI cyZ : ClassId} {sc sv gx gm : Nat → Nat} {b L : Nat} {xs : Nat → Int32} {x mm : ZMem}
set_option maxHeartbeats 4000000 in
theorem l_switch {ls : Array Slot} (C : LWC p s m args c D cyI cyZ A sc sv gx gm b L xs) {i cn : Nat} (hi : i + 6 ≤ L) (hL : L ≤ 3072) (hl : lv_has ls 4 [(3, .int (mI (i : Int))), (2, .ref (gm 0)), (1, .ref (gx 0)), (0, .ref b)]) (hf : cells ≤ room_1.cells ∧ slots ≤ room_1.slots) (h : CP cn x mm) (hc : cn ≤ 1000) (hw : LWS D cyI cyZ A s gx gm x mm H locs)
    (kk : ∀ (c1 : Nat) (x1 m1 : ZMem) (H1 : Heap) (locs1 : List Loc), c1 ≤ cn + 1 → CP c1 x1 m1 → LWS D cyI cyZ A s gx gm x1 m1 H1 locs1 → W p l e room_1 s m args below meth c H1 locs1 cells slots Q (F0 m 1602 ls [])) (k : Nat) (hk : k ≤ 63) : W p l e room_1 s m args below meth c H locs cells slots Q (F0 m 33 ls [.int (mI (k : Int))]) := by
  have k2 := fun (x1 m1 : ZMem) (H1 : Heap) (locs1 : List Loc) (h1 : CP (cn + 1) x1 m1) => kk (cn + 1) x1 m1 H1 locs1 (Nat.le_refl _) h1
  match k, hk with
  | 0, _ => exact lv_tableIn C.1.1 C.1.2.1 dL_law_33 (off := 215) (tgt := 248) (by decide +kernel) (by decide +kernel) (by decide +kernel) rfl (lc_feed C hi hL hl hf h hc hw k2)
  | 1, _ => exact lv_tableIn C.1.1 C.1.2.1 dL_law_33 (off := 238) (tgt := 271) (by decide +kernel) (by decide +kernel) (by decide +kernel) rfl (lc_book C hi hL hl hf h hc hw k2)
  | 2, _ => exact lv_tableIn C.1.1 C.1.2.1 dL_law_33 (off := 251) (tgt := 284) (by decide +kernel) (by decide +kernel) (by decide +kernel) rfl (lc_part C hi hL hl hf h hc hw k2)
  | 3, _ => exact lv_tableIn C.1.1 C.1.2.1 dL_law_33 (off := 284) (tgt := 317) (by decide +kernel) (by decide +kernel) (by decide +kernel) rfl (lc_guests C hi hL hl hf h hc hw k2)
  | 4, _ => exact lv_tableIn C.1.1 C.1.2.1 dL_law_33 (off := 307) (tgt := 340) (by decide +kernel) (by decide +kernel) (by decide +kernel) rfl (lc_house C hi hL hl hf h hc hw k2)
  | 5, _ => exact lv_tableIn C.1.1 C.1.2.1 dL_law_33 (off := 340) (tgt := 373) (by decide +kernel) (by decide +kernel) (by decide +kernel) rfl (lc_set C hi hL hl hf h hc hw k2)
  | 6, _ => exact lv_tableIn C.1.1 C.1.2.1 dL_law_33 (off := 373) (tgt := 406) (by decide +kernel) (by decide +kernel) (by decide +kernel) rfl (lc_share C hi hL hl hf h hc hw k2)
  | 7, _ => exact lv_tableIn C.1.1 C.1.2.1 dL_law_33 (off := 417) (tgt := 450) (by decide +kernel) (by decide +kernel) (by decide +kernel) rfl (lc_off C hi hL hl hf h hc hw k2)
  | 8, _ => exact lv_tableIn C.1.1 C.1.2.1 dL_law_33 (off := 451) (tgt := 484) (by decide +kernel) (by decide +kernel) (by decide +kernel) rfl (lc_best C hi hL hl hf h hc hw k2)
  | 9, _ => exact lv_tableIn C.1.1 C.1.2.1 dL_law_33 (off := 484) (tgt := 517) (by decide +kernel) (by decide +kernel) (by decide +kernel) rfl (lc_out C hi hL hl hf h hc hw k2)
  | 10, _ => exact lv_tableIn C.1.1 C.1.2.1 dL_law_33 (off := 507) (tgt := 540) (by decide +kernel) (by decide +kernel) (by decide +kernel) rfl (lc_scale C hi hL hl hf h hc hw k2)
  | 11, _ => exact lv_tableIn C.1.1 C.1.2.1 dL_law_33 (off := 550) (tgt := 583) (by decide +kernel) (by decide +kernel) (by decide +kernel) rfl (lc_tin C hi hL hl hf h hc hw k2)
  | 12, _ => exact lv_tableIn C.1.1 C.1.2.1 dL_law_33 (off := 583) (tgt := 616) (by decide +kernel) (by decide +kernel) (by decide +kernel) rfl (lc_deep C hi hL hl hf h hc hw k2)
  | 13, _ => exact lv_tableIn C.1.1 C.1.2.1 dL_law_33 (off := 617) (tgt := 650) (by decide +kernel) (by decide +kernel) (by decide +kernel) rfl (lc_tinFor C hi hL hl hf h hc hw k2)
  | 14, _ => exact lv_tableIn C.1.1 C.1.2.1 dL_law_33 (off := 630) (tgt := 663) (by decide +kernel) (by decide +kernel) (by decide +kernel) rfl (lc_enough C hi hL hl hf h hc hw k2)
  | 15, _ => exact lv_tableIn C.1.1 C.1.2.1 dL_law_33 (off := 643) (tgt := 676) (by decide +kernel) (by decide +kernel) (by decide +kernel) rfl (lc_lacks C hi hL hl hf h hc hw k2)
  | 16, _ => exact lv_tableIn C.1.1 C.1.2.1 dL_law_33 (off := 656) (tgt := 689) (by decide +kernel) (by decide +kernel) (by decide +kernel) rfl (lc_standIn C hi hL hl hf h hc hw k2)
  | 17, _ => exact lv_tableIn C.1.1 C.1.2.1 dL_law_33 (off := 689) (tgt := 722) (by decide +kernel) (by decide +kernel) (by decide +kernel) rfl (lc_stead C hi hL hl hf h hc hw k2)
  | 18, _ => exact lv_tableIn C.1.1 C.1.2.1 dL_law_33 (off := 712) (tgt := 745) (by decide +kernel) (by decide +kernel) (by decide +kernel) rfl (lc_cup C hi hL hl hf h hc hw k2)
  | 19, _ => exact lv_tableIn C.1.1 C.1.2.1 dL_law_33 (off := 745) (tgt := 778) (by decide +kernel) (by decide +kernel) (by decide +kernel) rfl (lc_pours C hi hL hl hf h hc hw k2)
  | 20, _ => exact lv_tableIn C.1.1 C.1.2.1 dL_law_33 (off := 768) (tgt := 801) (by decide +kernel) (by decide +kernel) (by decide +kernel) rfl (lc_steps C hi hL hl hf h hc hw k2)
  | 21, _ => exact lv_tableIn C.1.1 C.1.2.1 dL_law_33 (off := 811) (tgt := 844) (by decide +kernel) (by decide +kernel) (by decide +kernel) rfl (lc_mistake C hi hL hl hf h hc hw k2)
  | 22, _ => exact lv_tableIn C.1.1 C.1.2.1 dL_law_33 (off := 844) (tgt := 877) (by decide +kernel) (by decide +kernel) (by decide +kernel) rfl (lc_more C hi hL hl hf h hc hw k2)
  | 23, _ => exact lv_tableIn C.1.1 C.1.2.1 dL_law_33 (off := 887) (tgt := 920) (by decide +kernel) (by decide +kernel) (by decide +kernel) rfl (lc_lots C hi hL hl hf h hc hw k2)
  | 24, _ => exact lv_tableIn C.1.1 C.1.2.1 dL_law_33 (off := 920) (tgt := 953) (by decide +kernel) (by decide +kernel) (by decide +kernel) rfl (lc_used C hi hL hl hf h hc hw k2)
  | 25, _ => exact lv_tableIn C.1.1 C.1.2.1 dL_law_33 (off := 933) (tgt := 966) (by decide +kernel) (by decide +kernel) (by decide +kernel) rfl (lc_row C hi hL hl hf h hc hw k2)
  | 26, _ => exact lv_tableIn C.1.1 C.1.2.1 dL_law_33 (off := 956) (tgt := 989) (by decide +kernel) (by decide +kernel) (by decide +kernel) rfl (lc_read C hi hL hl hf h hc hw k2)
  | 27, _ => exact lv_tableIn C.1.1 C.1.2.1 dL_law_33 (off := 979) (tgt := 1012) (by decide +kernel) (by decide +kernel) (by decide +kernel) rfl (lc_judge C hi hL hl hf h hc hw k2)
  | 28, _ => exact lv_tableIn C.1.1 C.1.2.1 dL_law_33 (off := 992) (tgt := 1025) (by decide +kernel) (by decide +kernel) (by decide +kernel) rfl (lc_clear C hi hL hl hf h hc hw k2)
  | 29, _ => exact lv_tableIn C.1.1 C.1.2.1 dL_law_33 (off := 1005) (tgt := 1038) (by decide +kernel) (by decide +kernel) (by decide +kernel) rfl (lc_seeds C hi hL hl hf h hc hw k2)
  | 30, _ => exact lv_tableIn C.1.1 C.1.2.1 dL_law_33 (off := 1049) (tgt := 1082) (by decide +kernel) (by decide +kernel) (by decide +kernel) rfl (lc_back C hi hL hl hf h hc hw k2)
  | 31, _ => exact lv_tableIn C.1.1 C.1.2.1 dL_law_33 (off := 1062) (tgt := 1095) (by decide +kernel) (by decide +kernel) (by decide +kernel) rfl (lc_price C hi hL hl hf h hc hw k2)
  | 32, _ => exact lv_tableIn C.1.1 C.1.2.1 dL_law_33 (off := 1095) (tgt := 1128) (by decide +kernel) (by decide +kernel) (by decide +kernel) rfl (lc_buy C hi hL hl hf h hc hw k2)
  | 33, _ => exact lv_tableIn C.1.1 C.1.2.1 dL_law_33 (off := 1118) (tgt := 1151) (by decide +kernel) (by decide +kernel) (by decide +kernel) rfl (lc_cheapest C hi hL hl hf h hc hw k2)
  | 34, _ => exact lv_tableIn C.1.1 C.1.2.1 dL_law_33 (off := 1151) (tgt := 1184) (by decide +kernel) (by decide +kernel) (by decide +kernel) rfl (lc_weight C hi hL hl hf h hc hw k2)
  | 35, _ => exact lv_tableIn C.1.1 C.1.2.1 dL_law_33 (off := 1174) (tgt := 1207) (by decide +kernel) (by decide +kernel) (by decide +kernel) rfl (lc_weighed C hi hL hl hf h hc hw k2)
  | 36, _ => exact lv_tableIn C.1.1 C.1.2.1 dL_law_33 (off := 1207) (tgt := 1240) (by decide +kernel) (by decide +kernel) (by decide +kernel) rfl (lc_heavy C hi hL hl hf h hc hw k2)
  | 37, _ => exact lv_tableIn C.1.1 C.1.2.1 dL_law_33 (off := 1220) (tgt := 1253) (by decide +kernel) (by decide +kernel) (by decide +kernel) rfl (lc_oven C hi hL hl hf h hc hw k2)
  | 38, _ => exact lv_tableIn C.1.1 C.1.2.1 dL_law_33 (off := 1253) (tgt := 1286) (by decide +kernel) (by decide +kernel) (by decide +kernel) rfl (lc_also C hi hL hl hf h hc hw k2)
  | 39, _ => exact lv_tableIn C.1.1 C.1.2.1 dL_law_33 (off := 1286) (tgt := 1319) (by decide +kernel) (by decide +kernel) (by decide +kernel) rfl (lc_recipes C hi hL hl hf h hc hw k2)
  | 40, _ => exact lv_tableIn C.1.1 C.1.2.1 dL_law_33 (off := 1309) (tgt := 1342) (by decide +kernel) (by decide +kernel) (by decide +kernel) rfl (lc_needed C hi hL hl hf h hc hw k2)
  | 41, _ => exact lv_tableIn C.1.1 C.1.2.1 dL_law_33 (off := 1352) (tgt := 1385) (by decide +kernel) (by decide +kernel) (by decide +kernel) rfl (lc_forgotten C hi hL hl hf h hc hw k2)
  | 42, _ => exact lv_tableIn C.1.1 C.1.2.1 dL_law_33 (off := 1365) (tgt := 1398) (by decide +kernel) (by decide +kernel) (by decide +kernel) rfl (lc_pair C hi hL hl hf h hc hw k2)
  | 43, _ => exact lv_tableIn C.1.1 C.1.2.1 dL_law_33 (off := 1378) (tgt := 1411) (by decide +kernel) (by decide +kernel) (by decide +kernel) rfl (lc_path C hi hL hl hf h hc hw k2)
  | 44, _ => exact lv_tableIn C.1.1 C.1.2.1 dL_law_33 (off := 1411) (tgt := 1444) (by decide +kernel) (by decide +kernel) (by decide +kernel) rfl (lc_dish C hi hL hl hf h hc hw k2)
  | 45, _ => exact lv_tableIn C.1.1 C.1.2.1 dL_law_33 (off := 1474) (tgt := 1507) (by decide +kernel) (by decide +kernel) (by decide +kernel) rfl (lc_usedUp C hi hL hl hf h hc hw k2)
  | 46, _ => exact lv_tableIn C.1.1 C.1.2.1 dL_law_33 (off := 1497) (tgt := 1530) (by decide +kernel) (by decide +kernel) (by decide +kernel) rfl (lc_fair C hi hL hl hf h hc hw k2)
  | 47, _ => exact lv_tableIn C.1.1 C.1.2.1 dL_law_33 (off := 1520) (tgt := 1553) (by decide +kernel) (by decide +kernel) (by decide +kernel) rfl (lc_image C hi hL hl hf h hc hw k2)
  | 48, _ => exact lv_tableIn C.1.1 C.1.2.1 dL_law_33 (off := 1533) (tgt := 1566) (by decide +kernel) (by decide +kernel) (by decide +kernel) rfl (lc_restore C hi hL hl hf h hc hw k2)
  | 49, _ => exact lv_tableIn C.1.1 C.1.2.1 dL_law_33 (off := 1546) (tgt := 1579) (by decide +kernel) (by decide +kernel) (by decide +kernel) rfl (lc_count C hi hL hl hf h hc hw k2)
  | k + 50, hk => exact lv_tableOut C.1.1 C.1.2.1 dL_law_33 (tgt := 1602) (Or.inr (by rw [mI_toInt (by omega)]; omega)) rfl (kk cn x mm H locs (by omega) h hw)
theorem l_and {v : Int32} : ∃ k : Nat, k ≤ 63 ∧ v &&& mI 63 = mI (k : Int) := by
  refine ⟨(v.toInt % 2 ^ 6).toNat, ?_, ?_⟩
  · have h1 := Int.emod_nonneg v.toInt (show (2 ^ 6 : Int) ≠ 0 by decide)
    have h2 := Int.emod_lt_of_pos v.toInt (show (0 : Int) < 2 ^ 6 by decide)
    omega
  · have h1 := Int.emod_nonneg v.toInt (show (2 ^ 6 : Int) ≠ 0 by decide)
    rw [Int.toNat_of_nonneg h1]
    have h2 := mI_mask v.toInt (m := 63) 6 (by decide +kernel) (by decide)
    rw [mI_ofToInt] at h2
    exact h2
theorem l_loop (C : LWC p s m args c D cyI cyZ A sc sv gx gm b L xs) (hL : L ≤ 3072) (hf : cells ≤ room_1.cells ∧ slots ≤ room_1.slots)
    (hend : ∀ (x1 m1 : ZMem) (H1 : Heap) (locs1 : List Loc) (ls1 : Array Slot), LWS D cyI cyZ A s gx gm x1 m1 H1 locs1 → W p l e room_1 s m args below meth c H1 locs1 cells slots Q (F0 m 1608 ls1 [])) :
    ∀ (d i cn : Nat) (x mm : ZMem) (H : Heap) (locs : List Loc) (ls : Array Slot), L ≤ i + 6 * d → i ≤ 4000 → cn + d ≤ 1000 → lv_has ls 4 [(3, .int (mI (i : Int))), (2, .ref (gm 0)), (1, .ref (gx 0)), (0, .ref b)] → CP cn x mm → LWS D cyI cyZ A s gx gm x mm H locs → W p l e room_1 s m args below meth c H locs cells slots Q (F0 m 18 ls []) := by
  intro d
  induction d with
  | zero =>
    intro i cn x mm H locs ls hd hi4 hcn hl h hw
    refine lv_iload_n C.1.1 C.1.2.1 dL_law_18 rfl (lv_at hl 0 rfl) ?_
    refine lv_aload_n C.1.1 C.1.2.1 dL_law_19 rfl (lv_at hl 3 rfl) ?_
    refine va_slen C.1.1 C.1.2.1 C.2.2.2.2.2.2.1 C.2.2.2.2.2.2.2.1 C.2.2.2.2.2.2.2.2 hw.2.2.1 dL_law_20 ?_
    rw [show Int32.ofNat L = mI (L : Int) from mI_nI.symm]
    refine lv_bipush (v := mI 6) C.1.1 C.1.2.1 dL_law_21 (by decide +kernel) ?_
    refine lv_isub C.1.1 C.1.2.1 dL_law_23 ?_
    rw [mI_sub]
    refine lv_icmp_gt C.1.1 C.1.2.1 dL_law_24 (tgt := 1608) rfl (fun _ => hend x mm H locs ls hw) (fun g => absurd ((mI_lt (by omega) (by omega)).mpr (by omega)) g)
  | succ d ih =>
    intro i cn x mm H locs ls hd hi4 hcn hl h hw
    refine lv_iload_n C.1.1 C.1.2.1 dL_law_18 rfl (lv_at hl 0 rfl) ?_
    refine lv_aload_n C.1.1 C.1.2.1 dL_law_19 rfl (lv_at hl 3 rfl) ?_
    refine va_slen C.1.1 C.1.2.1 C.2.2.2.2.2.2.1 C.2.2.2.2.2.2.2.1 C.2.2.2.2.2.2.2.2 hw.2.2.1 dL_law_20 ?_
    rw [show Int32.ofNat L = mI (L : Int) from mI_nI.symm]
    refine lv_bipush (v := mI 6) C.1.1 C.1.2.1 dL_law_21 (by decide +kernel) ?_
    refine lv_isub C.1.1 C.1.2.1 dL_law_23 ?_
    rw [mI_sub]
    refine lv_icmp_gt C.1.1 C.1.2.1 dL_law_24 (tgt := 1608) rfl (fun _ => hend x mm H locs ls hw) (fun g => ?_)
    have hi : i + 6 ≤ L := by
      have h9 : ¬ ((L : Int) - 6 < (i : Int)) := fun z => g ((mI_lt (by omega) (by omega)).mpr z)
      omega
    refine lv_aload_n C.1.1 C.1.2.1 dL_law_27 rfl (lv_at hl 3 rfl) ?_
    refine lv_iload_n C.1.1 C.1.2.1 dL_law_28 rfl (lv_at hl 0 rfl) ?_
    have hR : R32 (i : Int) := by omega
    refine va_sld C.1.1 C.1.2.1 C.2.2.2.2.2.2.1 C.2.2.2.2.2.2.2.1 C.2.2.2.2.2.2.2.2 hw.2.2.1 (vp_in_iff.mpr (by rw [mI_toInt hR]; omega)) dL_law_29 ?_
    refine lv_bipush (v := mI 63) C.1.1 C.1.2.1 dL_law_30 (by decide +kernel) ?_
    refine lv_iand C.1.1 C.1.2.1 dL_law_32 ?_
    obtain ⟨k, hk, e⟩ := l_and (v := xs (mI (i : Int)).toNatClampNeg)
    rw [e]
    refine l_switch C hi hL hl hf h (by omega) hw (fun c1 x1 m1 H1 locs1 hc1 h1 hw1 => ?_) k hk
    refine lv_iinc (k := 0) (x := mI (i : Int)) (v := mI ((i + 6 : Nat) : Int)) (lv' := [(3, .int (mI ((i + 6 : Nat) : Int))), (2, .ref (gm 0)), (1, .ref (gx 0)), (0, .ref b)]) C.1.1 C.1.2.1 dL_law_1602 hl rfl ?_ (by decide) rfl (fun ls1 hl1 => ?_)
    · show mI (i : Int) + mI 6 = _
      rw [mI_add]
      congr 1
    · refine lv_goto C.1.1 C.1.2.1 dL_law_1605 (tgt := 18) rfl ?_
      exact ih (i + 6) c1 x1 m1 H1 locs1 ls1 (by omega) (by omega) (by omega) hl1 h1 hw1
end ZLAW

