set_option maxRecDepth 20000 in
theorem ct_X11_noPartOf {ad sc sv : Nat → Nat} (n : Nat) (a0 : Int) (a1 : Int) (m : ZMem) (ha0 : R32 a0) (ha1 : R32 a1) : zCT LX ad sc sv M_X11_noPartOf yX11_noPartOf [.ref (ad 0), .int (mI a0), .int (mI a1)] m (F_X11_noPartOf n a0 a1 m) := by
  refine zCT_of (lv := [(0, .ref (ad 0)), (1, .int (mI a0)), (2, .int (mI a1))]) (by decide) rfl (Nat.le_of_ble_eq_true rfl) rfl ?_
  unfold F_X11_noPartOf
  refine z_aload_n dX11_noPartOf_0 0 rfl ?_
  refine z_iload_n dX11_noPartOf_1 1 rfl ?_
  refine z_callV1 dX11_noPartOf_2 rfl (ct_X11_noPart n a0 m ha0) zc_X11 lx_0 k_438 k_440 kp_18 k_1 k_441 zn_X11_noPart ⟨rfl, rfl, Nat.le_of_ble_eq_true rfl, Nat.le_of_ble_eq_true rfl⟩ (Nat.le_of_ble_eq_true rfl) rfl (fun v1 m2 h3 ho4 => ?_)
  refine z_if_eq dX11_noPartOf_5 h3 (tgt := 12) rfl (fun h5 => ?_) (fun h5 => ?_)
  · refine z_aload_n dX11_noPartOf_12 0 rfl ?_
    refine z_iload_n dX11_noPartOf_13 2 rfl ?_
    refine z_callV1 dX11_noPartOf_14 rfl (ct_X11_noPart n a1 m2 ha1) zc_X11 lx_0 k_438 k_440 kp_18 k_1 k_441 zn_X11_noPart ⟨rfl, rfl, Nat.le_of_ble_eq_true rfl, Nat.le_of_ble_eq_true rfl⟩ (Nat.le_of_ble_eq_true rfl) rfl (fun v6 m7 h8 ho9 => ?_)
    exact z_iret dX11_noPartOf_17 rfl rfl h8
  · refine z_iconst dX11_noPartOf_8 ?_
    refine z_goto dX11_noPartOf_9 (tgt := 17) rfl ?_
    exact z_iret dX11_noPartOf_17 rfl rfl (by decide)
set_option maxRecDepth 20000 in
theorem ct_X11_more {ad sc sv : Nat → Nat} (n : Nat) (a0 : Int) (a1 : Int) (a2 : Int) (m : ZMem) (ha0 : R32 a0) (ha1 : R32 a1) (ha2 : R32 a2) : zCT LX ad sc sv M_X11_more yX11_more [.ref (ad 0), .int (mI a0), .int (mI a1), .int (mI a2)] m (F_X11_more n a0 a1 a2 m) := by
  refine zCT_of (lv := [(0, .ref (ad 0)), (1, .int (mI a0)), (2, .int (mI a1)), (3, .int (mI a2))]) (by decide) rfl (Nat.le_of_ble_eq_true rfl) rfl ?_
  unfold F_X11_more
  refine z_aload_n dX11_more_0 0 rfl ?_
  refine z_aload_n dX11_more_1 0 rfl ?_
  refine z_iload_n dX11_more_2 1 rfl ?_
  refine z_iload_n dX11_more_3 3 rfl ?_
  refine z_callV1 dX11_more_4 rfl (ct_X11_noPartOf n a0 a2 m ha0 ha2) zc_X11 lx_0 k_737 k_739 kp_28 k_1 k_740 zn_X11_noPartOf ⟨rfl, rfl, Nat.le_of_ble_eq_true rfl, Nat.le_of_ble_eq_true rfl⟩ (Nat.le_of_ble_eq_true rfl) rfl (fun v1 m2 h3 ho4 => ?_)
  refine z_iconst dX11_more_7 ?_
  refine z_sipush dX11_more_8 (x := 999) (by decide +kernel) ?_
  refine z_iload_n dX11_more_11 2 rfl ?_
  refine z_callS1 dX11_more_12 rfl (ct_X11_outside n 0 999 a1 m2 (by decide) (by decide) ha1) k_236 k_237 k_1 k_238 zn_X11_outside ⟨rfl, rfl, Nat.le_of_ble_eq_true rfl, Nat.le_of_ble_eq_true rfl⟩ (Nat.le_of_ble_eq_true rfl) rfl (fun v5 m6 h7 ho8 => ?_)
  refine z_callV1 dX11_more_15 rfl (ct_X11_refused_ n v1 v5 m6 h3 h7) zc_X11 lx_0 k_255 k_257 kp_0 k_1 k_258 zn_X11_refused_ ⟨rfl, rfl, Nat.le_of_ble_eq_true rfl, Nat.le_of_ble_eq_true rfl⟩ (Nat.le_of_ble_eq_true rfl) rfl (fun v9 m10 h11 ho12 => ?_)
  refine z_istore dX11_more_18 (lv' := [(4, .int (mI v9)), (0, .ref (ad 0)), (1, .int (mI a0)), (2, .int (mI a1)), (3, .int (mI a2))]) (by decide) rfl ?_
  refine z_iload dX11_more_20 0 rfl ?_
  refine z_if_eq dX11_more_22 h11 (tgt := 30) rfl (fun h13 => ?_) (fun h13 => ?_)
  · refine z_aload_n dX11_more_30 1 rfl ?_
    refine z_getR dX11_more_31 (k := 0) (j := 1) zc_X11 lx_0 rfl (by decide) k_195 ?_
    refine z_iload_n dX11_more_34 2 rfl ?_
    refine z_iload_n dX11_more_35 3 rfl ?_
    refine z_iload_n dX11_more_36 4 rfl ?_
    refine z_callS1 dX11_more_37 rfl (ct_X6_moreOf n a0 a1 a2 m10 ha0 ha1 ha2) k_741 k_742 k_16 k_743 zn_X6_moreOf ⟨rfl, rfl, Nat.le_of_ble_eq_true rfl, Nat.le_of_ble_eq_true rfl⟩ (Nat.le_of_ble_eq_true rfl) rfl (fun v14 m15 h16 ho17 => ?_)
    exact z_iret dX11_more_40 rfl rfl h16
  · refine z_iload dX11_more_25 0 rfl ?_
    refine z_goto dX11_more_27 (tgt := 40) rfl ?_
    exact z_iret dX11_more_40 rfl rfl h11
set_option maxRecDepth 20000 in
theorem ct_X11_lots {ad sc sv : Nat → Nat} (n : Nat) (a0 : Int) (a1 : Int) (m : ZMem) (ha0 : R32 a0) (ha1 : R32 a1) : zCT LX ad sc sv M_X11_lots yX11_lots [.ref (ad 0), .int (mI a0), .int (mI a1)] m (F_X11_lots n a0 a1 m) := by
  refine zCT_of (lv := [(0, .ref (ad 0)), (1, .int (mI a0)), (2, .int (mI a1))]) (by decide) rfl (Nat.le_of_ble_eq_true rfl) rfl ?_
  unfold F_X11_lots
  refine z_aload_n dX11_lots_0 0 rfl ?_
  refine z_iconst dX11_lots_1 ?_
  refine z_bipush dX11_lots_2 (x := 24) (by decide +kernel) ?_
  refine z_iload_n dX11_lots_4 1 rfl ?_
  refine z_iload_n dX11_lots_5 2 rfl ?_
  refine z_callS1 dX11_lots_6 rfl (ct_X11_either n 1 24 a0 a1 m (by decide) (by decide) ha0 ha1) k_239 k_240 k_1 k_241 zn_X11_either ⟨rfl, rfl, Nat.le_of_ble_eq_true rfl, Nat.le_of_ble_eq_true rfl⟩ (Nat.le_of_ble_eq_true rfl) rfl (fun v1 m2 h3 ho4 => ?_)
  refine z_callV1 dX11_lots_9 rfl (ct_X11_refused__ n v1 m2 h3) zc_X11 lx_0 k_477 k_479 kp_19 k_1 k_480 zn_X11_refused__ ⟨rfl, rfl, Nat.le_of_ble_eq_true rfl, Nat.le_of_ble_eq_true rfl⟩ (Nat.le_of_ble_eq_true rfl) rfl (fun v5 m6 h7 ho8 => ?_)
  refine z_istore_n dX11_lots_12 (lv' := [(3, .int (mI v5)), (0, .ref (ad 0)), (1, .int (mI a0)), (2, .int (mI a1))]) (by decide) rfl ?_
  refine z_iload_n dX11_lots_13 0 rfl ?_
  refine z_if_eq dX11_lots_14 h7 (tgt := 21) rfl (fun h9 => ?_) (fun h9 => ?_)
  · refine z_aload_n dX11_lots_21 1 rfl ?_
    refine z_getR dX11_lots_22 (k := 0) (j := 1) zc_X11 lx_0 rfl (by decide) k_195 ?_
    refine z_getI dX11_lots_25 (k := 1) zc_X3 lx_1 rfl (by decide) k_74 (fun h10 => ?_)
    refine z_iload_n dX11_lots_28 2 rfl ?_
    refine z_iload_n dX11_lots_29 3 rfl ?_
    refine z_callS1 dX11_lots_30 rfl (ct_X6_lotsFor n (m6 1 1) a0 a1 m6 h10 ha0 ha1) k_750 k_751 k_16 k_752 zn_X6_lotsFor ⟨rfl, rfl, Nat.le_of_ble_eq_true rfl, Nat.le_of_ble_eq_true rfl⟩ (Nat.le_of_ble_eq_true rfl) rfl (fun v11 m12 h13 ho14 => ?_)
    exact z_iret dX11_lots_33 rfl rfl h13
  · refine z_iload_n dX11_lots_17 0 rfl ?_
    refine z_goto dX11_lots_18 (tgt := 33) rfl ?_
    exact z_iret dX11_lots_33 rfl rfl h7
set_option maxRecDepth 20000 in
theorem ct_X11_used {ad sc sv : Nat → Nat} (n : Nat) (m : ZMem) : zCT LX ad sc sv M_X11_used yX11_used [.ref (ad 0)] m (F_X11_used n m) := by
  refine zCT_of (lv := [(0, .ref (ad 0))]) (by decide) rfl (Nat.le_of_ble_eq_true rfl) rfl ?_
  unfold F_X11_used
  refine z_aload_n dX11_used_0 0 rfl ?_
  refine z_getR dX11_used_1 (k := 0) (j := 1) zc_X11 lx_0 rfl (by decide) k_195 ?_
  refine z_callS1 dX11_used_4 rfl (ct_X7_moreGuests n m) k_758 k_759 k_6 k_760 zn_X7_moreGuests ⟨rfl, rfl, Nat.le_of_ble_eq_true rfl, Nat.le_of_ble_eq_true rfl⟩ (Nat.le_of_ble_eq_true rfl) rfl (fun v1 m2 h3 ho4 => ?_)
  exact z_iret dX11_used_7 rfl rfl h3
set_option maxRecDepth 20000 in
theorem ct_X11_row {ad sc sv : Nat → Nat} (n : Nat) (a0 : Int) (m : ZMem) (ha0 : R32 a0) : zCT LX ad sc sv M_X11_row yX11_row [.ref (ad 0), .int (mI a0)] m (F_X11_row n a0 m) := by
  refine zCT_of (lv := [(0, .ref (ad 0)), (1, .int (mI a0))]) (by decide) rfl (Nat.le_of_ble_eq_true rfl) rfl ?_
  unfold F_X11_row
  refine z_aload_n dX11_row_0 0 rfl ?_
  refine z_iconst dX11_row_1 ?_
  refine z_bipush dX11_row_2 (x := 99) (by decide +kernel) ?_
  refine z_iload_n dX11_row_4 1 rfl ?_
  refine z_callS1 dX11_row_5 rfl (ct_X11_outside n 0 99 a0 m (by decide) (by decide) ha0) k_236 k_237 k_1 k_238 zn_X11_outside ⟨rfl, rfl, Nat.le_of_ble_eq_true rfl, Nat.le_of_ble_eq_true rfl⟩ (Nat.le_of_ble_eq_true rfl) rfl (fun v1 m2 h3 ho4 => ?_)
  refine z_aload_n dX11_row_8 0 rfl ?_
  refine z_getR dX11_row_9 (k := 5) (j := 45) zc_X11 lx_0 rfl (by decide) k_200 ?_
  refine z_callS1 dX11_row_12 rfl (ct_X11_noRoom n 45 zt_45 m2) k_248 k_249 k_1 k_250 zn_X11_noRoom ⟨rfl, rfl, Nat.le_of_ble_eq_true rfl, Nat.le_of_ble_eq_true rfl⟩ (Nat.le_of_ble_eq_true rfl) rfl (fun v5 m6 h7 ho8 => ?_)
  refine z_callV1 dX11_row_15 rfl (ct_X11_refused_ n v1 v5 m6 h3 h7) zc_X11 lx_0 k_255 k_257 kp_0 k_1 k_258 zn_X11_refused_ ⟨rfl, rfl, Nat.le_of_ble_eq_true rfl, Nat.le_of_ble_eq_true rfl⟩ (Nat.le_of_ble_eq_true rfl) rfl (fun v9 m10 h11 ho12 => ?_)
  refine z_istore_n dX11_row_18 (lv' := [(2, .int (mI v9)), (0, .ref (ad 0)), (1, .int (mI a0))]) (by decide) rfl ?_
  refine z_iload_n dX11_row_19 0 rfl ?_
  refine z_if_eq dX11_row_20 h11 (tgt := 25) rfl (fun h13 => ?_) (fun h13 => ?_)
  · refine z_aload_n dX11_row_25 1 rfl ?_
    refine z_getR dX11_row_26 (k := 5) (j := 45) zc_X11 lx_0 rfl (by decide) k_200 ?_
    refine z_iload_n dX11_row_29 2 rfl ?_
    refine z_callV1 dX11_row_30 rfl (ct_X9_add n 45 zt_45 a0 m10 ha0) zc_X9 lx_45 k_271 k_272 k_273 k_3 k_274 zn_X9_add ⟨rfl, rfl, Nat.le_of_ble_eq_true rfl, Nat.le_of_ble_eq_true rfl⟩ (Nat.le_of_ble_eq_true rfl) rfl (fun v14 m15 h16 ho17 => ?_)
    refine z_pop dX11_row_33 rfl ?_
    refine z_aload_n dX11_row_34 1 rfl ?_
    refine z_getR dX11_row_35 (k := 5) (j := 45) zc_X11 lx_0 rfl (by decide) k_200 ?_
    refine z_callV1 dX11_row_38 rfl (ct_X9_size n 45 zt_45 m15) zc_X9 lx_45 k_275 k_276 k_277 k_3 k_278 zn_X9_size ⟨rfl, rfl, Nat.le_of_ble_eq_true rfl, Nat.le_of_ble_eq_true rfl⟩ (Nat.le_of_ble_eq_true rfl) rfl (fun v18 m19 h20 ho21 => ?_)
    exact z_iret dX11_row_41 rfl rfl h20
  · refine z_iload_n dX11_row_23 0 rfl ?_
    exact z_iret dX11_row_24 rfl rfl h11
set_option maxRecDepth 20000 in
theorem ct_X11_rowNotForParts {ad sc sv : Nat → Nat} (n : Nat) (m : ZMem) : zCT LX ad sc sv M_X11_rowNotForParts yX11_rowNotForParts [.ref (ad 0)] m (F_X11_rowNotForParts n m) := by
  refine zCT_of (lv := [(0, .ref (ad 0))]) (by decide) rfl (Nat.le_of_ble_eq_true rfl) rfl ?_
  unfold F_X11_rowNotForParts
  refine z_aload_n dX11_rowNotForParts_0 0 rfl ?_
  refine z_getR dX11_rowNotForParts_1 (k := 5) (j := 45) zc_X11 lx_0 rfl (by decide) k_200 ?_
  refine z_callV1 dX11_rowNotForParts_4 rfl (ct_X9_size n 45 zt_45 m) zc_X9 lx_45 k_275 k_276 k_277 k_3 k_278 zn_X9_size ⟨rfl, rfl, Nat.le_of_ble_eq_true rfl, Nat.le_of_ble_eq_true rfl⟩ (Nat.le_of_ble_eq_true rfl) rfl (fun v1 m2 h3 ho4 => ?_)
  refine z_aload_n dX11_rowNotForParts_7 0 rfl ?_
  refine z_getR dX11_rowNotForParts_8 (k := 0) (j := 1) zc_X11 lx_0 rfl (by decide) k_195 ?_
  refine z_getR dX11_rowNotForParts_11 (k := 4) (j := 2) zc_X3 lx_1 rfl (by decide) k_84 ?_
  refine z_callV1 dX11_rowNotForParts_14 rfl (ct_X9_size n 2 zt_2 m2) zc_X9 lx_2 k_275 k_276 k_277 k_3 k_278 zn_X9_size ⟨rfl, rfl, Nat.le_of_ble_eq_true rfl, Nat.le_of_ble_eq_true rfl⟩ (Nat.le_of_ble_eq_true rfl) rfl (fun v5 m6 h7 ho8 => ?_)
  refine z_icmp_ne dX11_rowNotForParts_17 h3 h7 (tgt := 24) rfl (fun h9 => ?_) (fun h9 => ?_)
  · refine z_iconst dX11_rowNotForParts_20 ?_
    refine z_goto dX11_rowNotForParts_21 (tgt := 26) rfl ?_
    exact z_iret dX11_rowNotForParts_26 rfl rfl (by decide)
  · refine z_bipush dX11_rowNotForParts_24 (x := (-3)) (by decide +kernel) ?_
    exact z_iret dX11_rowNotForParts_26 rfl rfl (by decide)
set_option maxRecDepth 20000 in
theorem ct_X11_read {ad sc sv : Nat → Nat} (n : Nat) (a0 : Int) (m : ZMem) (ha0 : R32 a0) : zCT LX ad sc sv M_X11_read yX11_read [.ref (ad 0), .int (mI a0)] m (F_X11_read n a0 m) := by
  refine zCT_of (lv := [(0, .ref (ad 0)), (1, .int (mI a0))]) (by decide) rfl (Nat.le_of_ble_eq_true rfl) rfl ?_
  unfold F_X11_read
  refine z_aload_n dX11_read_0 0 rfl ?_
  refine z_iload_n dX11_read_1 1 rfl ?_
  refine z_iconst dX11_read_2 ?_
  refine z_callS1 dX11_read_3 rfl (ct_X11_noChoice n a0 2 m ha0 (by decide)) k_446 k_447 k_1 k_448 zn_X11_noChoice ⟨rfl, rfl, Nat.le_of_ble_eq_true rfl, Nat.le_of_ble_eq_true rfl⟩ (Nat.le_of_ble_eq_true rfl) rfl (fun v1 m2 h3 ho4 => ?_)
  refine z_aload_n dX11_read_6 0 rfl ?_
  refine z_callV1 dX11_read_7 rfl (ct_X11_rowNotForParts n m2) zc_X11 lx_0 k_773 k_775 kp_29 k_1 k_776 zn_X11_rowNotForParts ⟨rfl, rfl, Nat.le_of_ble_eq_true rfl, Nat.le_of_ble_eq_true rfl⟩ (Nat.le_of_ble_eq_true rfl) rfl (fun v5 m6 h7 ho8 => ?_)
  refine z_callV1 dX11_read_10 rfl (ct_X11_refused_ n v1 v5 m6 h3 h7) zc_X11 lx_0 k_255 k_257 kp_0 k_1 k_258 zn_X11_refused_ ⟨rfl, rfl, Nat.le_of_ble_eq_true rfl, Nat.le_of_ble_eq_true rfl⟩ (Nat.le_of_ble_eq_true rfl) rfl (fun v9 m10 h11 ho12 => ?_)
  refine z_istore_n dX11_read_13 (lv' := [(2, .int (mI v9)), (0, .ref (ad 0)), (1, .int (mI a0))]) (by decide) rfl ?_
  refine z_iload_n dX11_read_14 0 rfl ?_
  refine z_if_eq dX11_read_15 h11 (tgt := 20) rfl (fun h13 => ?_) (fun h13 => ?_)
  · refine z_iload_n dX11_read_20 2 rfl ?_
    refine z_if_ne dX11_read_21 ha0 (tgt := 36) rfl (fun h14 => ?_) (fun h14 => ?_)
    · refine z_aload_n dX11_read_24 1 rfl ?_
      refine z_getR dX11_read_25 (k := 0) (j := 1) zc_X11 lx_0 rfl (by decide) k_195 ?_
      refine z_aload_n dX11_read_28 1 rfl ?_
      refine z_getR dX11_read_29 (k := 5) (j := 45) zc_X11 lx_0 rfl (by decide) k_200 ?_
      refine z_callS1 dX11_read_32 rfl (ct_X2_numbersSo n m10) k_777 k_778 k_18 k_779 zn_X2_numbersSo ⟨rfl, rfl, Nat.le_of_ble_eq_true rfl, Nat.le_of_ble_eq_true rfl⟩ (Nat.le_of_ble_eq_true rfl) rfl (fun v15 m16 h17 ho18 => ?_)
      exact z_iret dX11_read_35 rfl rfl h17
    · refine z_iload_n dX11_read_36 2 rfl ?_
      refine z_iconst dX11_read_37 ?_
      refine z_icmp_ne dX11_read_38 ha0 (by decide) (tgt := 55) rfl (fun h19 => ?_) (fun h19 => ?_)
      · refine z_aload_n dX11_read_41 1 rfl ?_
        refine z_getR dX11_read_42 (k := 0) (j := 1) zc_X11 lx_0 rfl (by decide) k_195 ?_
        refine z_aload_n dX11_read_45 1 rfl ?_
        refine z_getR dX11_read_46 (k := 5) (j := 45) zc_X11 lx_0 rfl (by decide) k_200 ?_
        refine z_callS1 dX11_read_49 rfl (ct_X2_halvedParts n m10) k_789 k_790 k_18 k_791 zn_X2_halvedParts ⟨rfl, rfl, Nat.le_of_ble_eq_true rfl, Nat.le_of_ble_eq_true rfl⟩ (Nat.le_of_ble_eq_true rfl) rfl (fun v20 m21 h22 ho23 => ?_)
        refine z_goto dX11_read_52 (tgt := 66) rfl ?_
        exact z_iret dX11_read_66 rfl rfl h22
      · refine z_aload_n dX11_read_55 1 rfl ?_
        refine z_getR dX11_read_56 (k := 0) (j := 1) zc_X11 lx_0 rfl (by decide) k_195 ?_
        refine z_aload_n dX11_read_59 1 rfl ?_
        refine z_getR dX11_read_60 (k := 5) (j := 45) zc_X11 lx_0 rfl (by decide) k_200 ?_
        refine z_callS1 dX11_read_63 rfl (ct_X2_amountParts n m10) k_795 k_796 k_18 k_797 zn_X2_amountParts ⟨rfl, rfl, Nat.le_of_ble_eq_true rfl, Nat.le_of_ble_eq_true rfl⟩ (Nat.le_of_ble_eq_true rfl) rfl (fun v24 m25 h26 ho27 => ?_)
        exact z_iret dX11_read_66 rfl rfl h26
  · refine z_iload_n dX11_read_18 0 rfl ?_
    exact z_iret dX11_read_19 rfl rfl h11
set_option maxRecDepth 20000 in
theorem ct_X11_judge {ad sc sv : Nat → Nat} (n : Nat) (m : ZMem) : zCT LX ad sc sv M_X11_judge yX11_judge [.ref (ad 0)] m (F_X11_judge n m) := by
  refine zCT_of (lv := [(0, .ref (ad 0))]) (by decide) rfl (Nat.le_of_ble_eq_true rfl) rfl ?_
  unfold F_X11_judge
  refine z_aload_n dX11_judge_0 0 rfl ?_
  refine z_aload_n dX11_judge_1 0 rfl ?_
  refine z_callV1 dX11_judge_2 rfl (ct_X11_rowNotForParts n m) zc_X11 lx_0 k_773 k_775 kp_29 k_1 k_776 zn_X11_rowNotForParts ⟨rfl, rfl, Nat.le_of_ble_eq_true rfl, Nat.le_of_ble_eq_true rfl⟩ (Nat.le_of_ble_eq_true rfl) rfl (fun v1 m2 h3 ho4 => ?_)
  refine z_callV1 dX11_judge_5 rfl (ct_X11_refused__ n v1 m2 h3) zc_X11 lx_0 k_477 k_479 kp_19 k_1 k_480 zn_X11_refused__ ⟨rfl, rfl, Nat.le_of_ble_eq_true rfl, Nat.le_of_ble_eq_true rfl⟩ (Nat.le_of_ble_eq_true rfl) rfl (fun v5 m6 h7 ho8 => ?_)
  refine z_istore_n dX11_judge_8 (lv' := [(1, .int (mI v5)), (0, .ref (ad 0))]) (by decide) rfl ?_
  refine z_iload_n dX11_judge_9 0 rfl ?_
  refine z_if_eq dX11_judge_10 h7 (tgt := 15) rfl (fun h9 => ?_) (fun h9 => ?_)
  · refine z_aload_n dX11_judge_15 1 rfl ?_
    refine z_getR dX11_judge_16 (k := 0) (j := 1) zc_X11 lx_0 rfl (by decide) k_195 ?_
    refine z_aload_n dX11_judge_19 1 rfl ?_
    refine z_getR dX11_judge_20 (k := 5) (j := 45) zc_X11 lx_0 rfl (by decide) k_200 ?_
    refine z_callS1 dX11_judge_23 rfl (ct_X2_firstNeither n m6) k_805 k_806 k_18 k_807 zn_X2_firstNeither ⟨rfl, rfl, Nat.le_of_ble_eq_true rfl, Nat.le_of_ble_eq_true rfl⟩ (Nat.le_of_ble_eq_true rfl) rfl (fun v10 m11 h12 ho13 => ?_)
    refine z_istore_n dX11_judge_26 (lv' := [(2, .int (mI v10)), (1, .int (mI v5)), (0, .ref (ad 0))]) (by decide) rfl ?_
    refine z_aload_n dX11_judge_27 2 rfl ?_
    refine z_getR dX11_judge_28 (k := 5) (j := 45) zc_X11 lx_0 rfl (by decide) k_200 ?_
    refine z_iconst dX11_judge_31 ?_
    refine z_iconst dX11_judge_32 ?_
    refine z_callV0 dX11_judge_33 rfl (ct_X9_reset n 45 zt_45 0 0 m11 (by decide) (by decide)) zc_X9 lx_45 k_194 k_58 k_59 k_3 k_60 zn_X9_reset ⟨rfl, rfl, Nat.le_of_ble_eq_true rfl, Nat.le_of_ble_eq_true rfl⟩ (Nat.le_of_ble_eq_true rfl) rfl (fun v14 m15 ho17 => ?_)
    refine z_iload_n dX11_judge_36 0 rfl ?_
    exact z_iret dX11_judge_37 rfl rfl h12
  · refine z_iload_n dX11_judge_13 0 rfl ?_
    exact z_iret dX11_judge_14 rfl rfl h7
set_option maxRecDepth 20000 in
theorem ct_X11_clear {ad sc sv : Nat → Nat} (n : Nat) (m : ZMem) : zCT LX ad sc sv M_X11_clear yX11_clear [.ref (ad 0)] m (F_X11_clear n m) := by
  refine zCT_of (lv := [(0, .ref (ad 0))]) (by decide) rfl (Nat.le_of_ble_eq_true rfl) rfl ?_
  unfold F_X11_clear
  refine z_aload_n dX11_clear_0 0 rfl ?_
  refine z_getR dX11_clear_1 (k := 5) (j := 45) zc_X11 lx_0 rfl (by decide) k_200 ?_
  refine z_callV1 dX11_clear_4 rfl (ct_X9_size n 45 zt_45 m) zc_X9 lx_45 k_275 k_276 k_277 k_3 k_278 zn_X9_size ⟨rfl, rfl, Nat.le_of_ble_eq_true rfl, Nat.le_of_ble_eq_true rfl⟩ (Nat.le_of_ble_eq_true rfl) rfl (fun v1 m2 h3 ho4 => ?_)
  refine z_istore_n dX11_clear_7 (lv' := [(1, .int (mI v1)), (0, .ref (ad 0))]) (by decide) rfl ?_
  refine z_aload_n dX11_clear_8 1 rfl ?_
  refine z_getR dX11_clear_9 (k := 5) (j := 45) zc_X11 lx_0 rfl (by decide) k_200 ?_
  refine z_iconst dX11_clear_12 ?_
  refine z_iconst dX11_clear_13 ?_
  refine z_callV0 dX11_clear_14 rfl (ct_X9_reset n 45 zt_45 0 0 m2 (by decide) (by decide)) zc_X9 lx_45 k_194 k_58 k_59 k_3 k_60 zn_X9_reset ⟨rfl, rfl, Nat.le_of_ble_eq_true rfl, Nat.le_of_ble_eq_true rfl⟩ (Nat.le_of_ble_eq_true rfl) rfl (fun v5 m6 ho8 => ?_)
  refine z_iload_n dX11_clear_17 0 rfl ?_
  exact z_iret dX11_clear_18 rfl rfl h3
set_option maxRecDepth 20000 in
theorem ct_X11_seeds {ad sc sv : Nat → Nat} (n : Nat) (a0 : Int) (a1 : Int) (a2 : Int) (m : ZMem) (ha0 : R32 a0) (ha1 : R32 a1) (ha2 : R32 a2) : zCT LX ad sc sv M_X11_seeds yX11_seeds [.ref (ad 0), .int (mI a0), .int (mI a1), .int (mI a2)] m (F_X11_seeds n a0 a1 a2 m) := by
  refine zCT_of (lv := [(0, .ref (ad 0)), (1, .int (mI a0)), (2, .int (mI a1)), (3, .int (mI a2))]) (by decide) rfl (Nat.le_of_ble_eq_true rfl) rfl ?_
  unfold F_X11_seeds
  refine z_aload_n dX11_seeds_0 0 rfl ?_
  refine z_iconst dX11_seeds_1 ?_
  refine z_bipush dX11_seeds_2 (x := 20) (by decide +kernel) ?_
  refine z_iload_n dX11_seeds_4 1 rfl ?_
  refine z_callS1 dX11_seeds_5 rfl (ct_X11_outside n 1 20 a0 m (by decide) (by decide) ha0) k_236 k_237 k_1 k_238 zn_X11_outside ⟨rfl, rfl, Nat.le_of_ble_eq_true rfl, Nat.le_of_ble_eq_true rfl⟩ (Nat.le_of_ble_eq_true rfl) rfl (fun v1 m2 h3 ho4 => ?_)
  refine z_iload_n dX11_seeds_8 3 rfl ?_
  refine z_iconst dX11_seeds_9 ?_
  refine z_callS1 dX11_seeds_10 rfl (ct_X11_noChoice n a2 2 m2 ha2 (by decide)) k_446 k_447 k_1 k_448 zn_X11_noChoice ⟨rfl, rfl, Nat.le_of_ble_eq_true rfl, Nat.le_of_ble_eq_true rfl⟩ (Nat.le_of_ble_eq_true rfl) rfl (fun v5 m6 h7 ho8 => ?_)
  refine z_callV1 dX11_seeds_13 rfl (ct_X11_refused_ n v1 v5 m6 h3 h7) zc_X11 lx_0 k_255 k_257 kp_0 k_1 k_258 zn_X11_refused_ ⟨rfl, rfl, Nat.le_of_ble_eq_true rfl, Nat.le_of_ble_eq_true rfl⟩ (Nat.le_of_ble_eq_true rfl) rfl (fun v9 m10 h11 ho12 => ?_)
  refine z_istore dX11_seeds_16 (lv' := [(4, .int (mI v9)), (0, .ref (ad 0)), (1, .int (mI a0)), (2, .int (mI a1)), (3, .int (mI a2))]) (by decide) rfl ?_
  refine z_iload dX11_seeds_18 0 rfl ?_
  refine z_if_eq dX11_seeds_20 h11 (tgt := 31) rfl (fun h13 => ?_) (fun h13 => ?_)
  · refine z_iload_n dX11_seeds_31 4 rfl ?_
    refine z_iconst dX11_seeds_32 ?_
    refine z_icmp_ne dX11_seeds_33 ha2 (by decide) (tgt := 47) rfl (fun h14 => ?_) (fun h14 => ?_)
    · refine z_aload_n dX11_seeds_36 1 rfl ?_
      refine z_getR dX11_seeds_37 (k := 0) (j := 1) zc_X11 lx_0 rfl (by decide) k_195 ?_
      refine z_iload_n dX11_seeds_40 2 rfl ?_
      refine z_iload_n dX11_seeds_41 3 rfl ?_
      refine z_callS1 dX11_seeds_42 rfl (ct_X6_bakingsFed n a0 a1 m10 ha0 ha1) k_816 k_817 k_16 k_818 zn_X6_bakingsFed ⟨rfl, rfl, Nat.le_of_ble_eq_true rfl, Nat.le_of_ble_eq_true rfl⟩ (Nat.le_of_ble_eq_true rfl) rfl (fun v15 m16 h17 ho18 => ?_)
      refine z_i2l dX11_seeds_45 h17 (fun h19 => ?_)
      exact z_lret dX11_seeds_46 rfl rfl h19
    · refine z_aload_n dX11_seeds_47 1 rfl ?_
      refine z_getR dX11_seeds_48 (k := 0) (j := 1) zc_X11 lx_0 rfl (by decide) k_195 ?_
      refine z_iload_n dX11_seeds_51 2 rfl ?_
      refine z_iload_n dX11_seeds_52 3 rfl ?_
      refine z_callS1 dX11_seeds_53 rfl (ct_X6_bakingsOff n a0 a1 m10 ha0 ha1) k_828 k_829 k_16 k_830 zn_X6_bakingsOff ⟨rfl, rfl, Nat.le_of_ble_eq_true rfl, Nat.le_of_ble_eq_true rfl⟩ (Nat.le_of_ble_eq_true rfl) rfl (fun v20 m21 h22 ho23 => ?_)
      refine z_aload_n dX11_seeds_56 1 rfl ?_
      refine z_getR dX11_seeds_57 (k := 0) (j := 1) zc_X11 lx_0 rfl (by decide) k_195 ?_
      refine z_getI dX11_seeds_60 (k := 0) zc_X3 lx_1 rfl (by decide) k_67 (fun h24 => ?_)
      refine z_iload_n dX11_seeds_63 4 rfl ?_
      refine z_callS1 dX11_seeds_64 rfl (ct_X8_inLeastTerms n v20 (m21 1 0) a2 m21 h22 h24 ha2) k_512 k_513 k_15 k_514 zn_X8_inLeastTerms ⟨rfl, rfl, Nat.le_of_ble_eq_true rfl, Nat.le_of_ble_eq_true rfl⟩ (Nat.le_of_ble_eq_true rfl) rfl (fun v25 m26 h27 ho28 => ?_)
      refine z_i2l dX11_seeds_67 h27 (fun h29 => ?_)
      exact z_lret dX11_seeds_68 rfl rfl h29
  · refine z_ldc2 dX11_seeds_23 (x := 4000000000000000000) k_511 ?_
    refine z_iload dX11_seeds_26 0 rfl ?_
    refine z_i2l dX11_seeds_28 h11 (fun h30 => ?_)
    refine z_lsub dX11_seeds_29 (fun h31 => ?_)
    exact z_lret dX11_seeds_30 rfl rfl h31
set_option maxRecDepth 20000 in
theorem ct_X11_back {ad sc sv : Nat → Nat} (n : Nat) (m : ZMem) : zCT LX ad sc sv M_X11_back yX11_back [.ref (ad 0)] m (F_X11_back n m) := by
  refine zCT_of (lv := [(0, .ref (ad 0))]) (by decide) rfl (Nat.le_of_ble_eq_true rfl) rfl ?_
  unfold F_X11_back
  refine z_aload_n dX11_back_0 0 rfl ?_
  refine z_getR dX11_back_1 (k := 6) (j := 47) zc_X11 lx_0 rfl (by decide) k_201 ?_
  refine z_callV1 dX11_back_4 rfl (ct_X9_size n 47 zt_47 m) zc_X9 lx_47 k_275 k_276 k_277 k_3 k_278 zn_X9_size ⟨rfl, rfl, Nat.le_of_ble_eq_true rfl, Nat.le_of_ble_eq_true rfl⟩ (Nat.le_of_ble_eq_true rfl) rfl (fun v1 m2 h3 ho4 => ?_)
  refine z_iconst dX11_back_7 ?_
  refine z_isub dX11_back_8 (fun h5 => ?_)
  refine z_istore_n dX11_back_9 (lv' := [(1, .int (mI (v1 - 1))), (0, .ref (ad 0))]) (by decide) rfl ?_
  refine z_aload_n dX11_back_10 1 rfl ?_
  refine z_iload_n dX11_back_11 0 rfl ?_
  refine z_if_ge dX11_back_12 h5 (tgt := 20) rfl (fun h6 => ?_) (fun h6 => ?_)
  · refine z_iconst dX11_back_20 ?_
    refine z_callV1 dX11_back_21 rfl (ct_X11_refused__ n 0 m2 (by decide)) zc_X11 lx_0 k_477 k_479 kp_19 k_1 k_480 zn_X11_refused__ ⟨rfl, rfl, Nat.le_of_ble_eq_true rfl, Nat.le_of_ble_eq_true rfl⟩ (Nat.le_of_ble_eq_true rfl) rfl (fun v7 m8 h9 ho10 => ?_)
    refine z_istore_n dX11_back_24 (lv' := [(2, .int (mI v7)), (1, .int (mI (v1 - 1))), (0, .ref (ad 0))]) (by decide) rfl ?_
    refine z_iload_n dX11_back_25 0 rfl ?_
    refine z_if_eq dX11_back_26 h9 (tgt := 31) rfl (fun h11 => ?_) (fun h11 => ?_)
    · refine z_aload_n dX11_back_31 2 rfl ?_
      refine z_getR dX11_back_32 (k := 0) (j := 1) zc_X11 lx_0 rfl (by decide) k_195 ?_
      refine z_aload_n dX11_back_35 2 rfl ?_
      refine z_getR dX11_back_36 (k := 6) (j := 47) zc_X11 lx_0 rfl (by decide) k_201 ?_
      refine z_iload_n dX11_back_39 1 rfl ?_
      refine z_iconst dX11_back_40 ?_
      refine z_callV1 dX11_back_41 rfl (ct_X9_at n 47 zt_47 (v1 - 1) 0 m8 h5 (by decide)) zc_X9 lx_47 k_263 k_264 k_265 k_3 k_266 zn_X9_at ⟨rfl, rfl, Nat.le_of_ble_eq_true rfl, Nat.le_of_ble_eq_true rfl⟩ (Nat.le_of_ble_eq_true rfl) rfl (fun v12 m13 h14 ho15 => ?_)
      refine z_putI dX11_back_44 (k := 1) zc_X3 lx_1 rfl (by decide) rfl rfl h14 k_74 ?_
      refine z_aload_n dX11_back_47 2 rfl ?_
      refine z_getR dX11_back_48 (k := 6) (j := 47) zc_X11 lx_0 rfl (by decide) k_201 ?_
      refine z_callV0 dX11_back_51 rfl (ct_X9_dropLast n 47 zt_47 (wr m13 1 1 v12)) zc_X9 lx_47 k_835 k_488 k_489 k_3 k_490 zn_X9_dropLast ⟨rfl, rfl, Nat.le_of_ble_eq_true rfl, Nat.le_of_ble_eq_true rfl⟩ (Nat.le_of_ble_eq_true rfl) rfl (fun v16 m17 ho19 => ?_)
      refine z_aload_n dX11_back_54 2 rfl ?_
      refine z_getR dX11_back_55 (k := 0) (j := 1) zc_X11 lx_0 rfl (by decide) k_195 ?_
      refine z_getI dX11_back_58 (k := 1) zc_X3 lx_1 rfl (by decide) k_74 (fun h20 => ?_)
      exact z_iret dX11_back_61 rfl rfl h20
    · refine z_iload_n dX11_back_29 0 rfl ?_
      exact z_iret dX11_back_30 rfl rfl h9
  · refine z_bipush dX11_back_15 (x := (-3)) (by decide +kernel) ?_
    refine z_goto dX11_back_17 (tgt := 21) rfl ?_
    refine z_callV1 dX11_back_21 rfl (ct_X11_refused__ n (-3) m2 (by decide)) zc_X11 lx_0 k_477 k_479 kp_19 k_1 k_480 zn_X11_refused__ ⟨rfl, rfl, Nat.le_of_ble_eq_true rfl, Nat.le_of_ble_eq_true rfl⟩ (Nat.le_of_ble_eq_true rfl) rfl (fun v21 m22 h23 ho24 => ?_)
    refine z_istore_n dX11_back_24 (lv' := [(2, .int (mI v21)), (1, .int (mI (v1 - 1))), (0, .ref (ad 0))]) (by decide) rfl ?_
    refine z_iload_n dX11_back_25 0 rfl ?_
    refine z_if_eq dX11_back_26 h23 (tgt := 31) rfl (fun h25 => ?_) (fun h25 => ?_)
    · refine z_aload_n dX11_back_31 2 rfl ?_
      refine z_getR dX11_back_32 (k := 0) (j := 1) zc_X11 lx_0 rfl (by decide) k_195 ?_
      refine z_aload_n dX11_back_35 2 rfl ?_
      refine z_getR dX11_back_36 (k := 6) (j := 47) zc_X11 lx_0 rfl (by decide) k_201 ?_
      refine z_iload_n dX11_back_39 1 rfl ?_
      refine z_iconst dX11_back_40 ?_
      refine z_callV1 dX11_back_41 rfl (ct_X9_at n 47 zt_47 (v1 - 1) 0 m22 h5 (by decide)) zc_X9 lx_47 k_263 k_264 k_265 k_3 k_266 zn_X9_at ⟨rfl, rfl, Nat.le_of_ble_eq_true rfl, Nat.le_of_ble_eq_true rfl⟩ (Nat.le_of_ble_eq_true rfl) rfl (fun v26 m27 h28 ho29 => ?_)
      refine z_putI dX11_back_44 (k := 1) zc_X3 lx_1 rfl (by decide) rfl rfl h28 k_74 ?_
      refine z_aload_n dX11_back_47 2 rfl ?_
      refine z_getR dX11_back_48 (k := 6) (j := 47) zc_X11 lx_0 rfl (by decide) k_201 ?_
      refine z_callV0 dX11_back_51 rfl (ct_X9_dropLast n 47 zt_47 (wr m27 1 1 v26)) zc_X9 lx_47 k_835 k_488 k_489 k_3 k_490 zn_X9_dropLast ⟨rfl, rfl, Nat.le_of_ble_eq_true rfl, Nat.le_of_ble_eq_true rfl⟩ (Nat.le_of_ble_eq_true rfl) rfl (fun v30 m31 ho33 => ?_)
      refine z_aload_n dX11_back_54 2 rfl ?_
      refine z_getR dX11_back_55 (k := 0) (j := 1) zc_X11 lx_0 rfl (by decide) k_195 ?_
      refine z_getI dX11_back_58 (k := 1) zc_X3 lx_1 rfl (by decide) k_74 (fun h34 => ?_)
      exact z_iret dX11_back_61 rfl rfl h34
    · refine z_iload_n dX11_back_29 0 rfl ?_
      exact z_iret dX11_back_30 rfl rfl h23
set_option maxRecDepth 20000 in
theorem ct_X11_price {ad sc sv : Nat → Nat} (n : Nat) (a0 : Int) (a1 : Int) (m : ZMem) (ha0 : R32 a0) (ha1 : R32 a1) : zCT LX ad sc sv M_X11_price yX11_price [.ref (ad 0), .int (mI a0), .int (mI a1)] m (F_X11_price n a0 a1 m) := by
  refine zCT_of (lv := [(0, .ref (ad 0)), (1, .int (mI a0)), (2, .int (mI a1))]) (by decide) rfl (Nat.le_of_ble_eq_true rfl) rfl ?_
  unfold F_X11_price
  refine z_aload_n dX11_price_0 0 rfl ?_
  refine z_iload_n dX11_price_1 1 rfl ?_
  refine z_iconst dX11_price_2 ?_
  refine z_iload_n dX11_price_3 2 rfl ?_
  refine z_callV1 dX11_price_4 rfl (ct_X11_partBecomes n a0 5 a1 m ha0 (by decide) ha1) zc_X11 lx_0 k_495 k_497 kp_20 k_1 k_498 zn_X11_partBecomes ⟨rfl, rfl, Nat.le_of_ble_eq_true rfl, Nat.le_of_ble_eq_true rfl⟩ (Nat.le_of_ble_eq_true rfl) rfl (fun v1 m2 h3 ho4 => ?_)
  exact z_iret dX11_price_7 rfl rfl h3
set_option maxRecDepth 20000 in
theorem ct_X11_buy {ad sc sv : Nat → Nat} (n : Nat) (a0 : Int) (m : ZMem) (ha0 : R32 a0) : zCT LX ad sc sv M_X11_buy yX11_buy [.ref (ad 0), .int (mI a0)] m (F_X11_buy n a0 m) := by
  refine zCT_of (lv := [(0, .ref (ad 0)), (1, .int (mI a0))]) (by decide) rfl (Nat.le_of_ble_eq_true rfl) rfl ?_
  unfold F_X11_buy
  refine z_aload_n dX11_buy_0 0 rfl ?_
  refine z_iconst dX11_buy_1 ?_
  refine z_bipush dX11_buy_2 (x := 24) (by decide +kernel) ?_
  refine z_iload_n dX11_buy_4 1 rfl ?_
  refine z_callS1 dX11_buy_5 rfl (ct_X11_outside n 1 24 a0 m (by decide) (by decide) ha0) k_236 k_237 k_1 k_238 zn_X11_outside ⟨rfl, rfl, Nat.le_of_ble_eq_true rfl, Nat.le_of_ble_eq_true rfl⟩ (Nat.le_of_ble_eq_true rfl) rfl (fun v1 m2 h3 ho4 => ?_)
  refine z_callV1 dX11_buy_8 rfl (ct_X11_refused__ n v1 m2 h3) zc_X11 lx_0 k_477 k_479 kp_19 k_1 k_480 zn_X11_refused__ ⟨rfl, rfl, Nat.le_of_ble_eq_true rfl, Nat.le_of_ble_eq_true rfl⟩ (Nat.le_of_ble_eq_true rfl) rfl (fun v5 m6 h7 ho8 => ?_)
  refine z_istore_n dX11_buy_11 (lv' := [(2, .int (mI v5)), (0, .ref (ad 0)), (1, .int (mI a0))]) (by decide) rfl ?_
  refine z_iload_n dX11_buy_12 0 rfl ?_
  refine z_if_eq dX11_buy_13 h7 (tgt := 20) rfl (fun h9 => ?_) (fun h9 => ?_)
  · refine z_aload_n dX11_buy_20 1 rfl ?_
    refine z_getR dX11_buy_21 (k := 0) (j := 1) zc_X11 lx_0 rfl (by decide) k_195 ?_
    refine z_iload_n dX11_buy_24 2 rfl ?_
    refine z_callS1 dX11_buy_25 rfl (ct_X7_penceFor n a0 m6 ha0) k_844 k_845 k_6 k_846 zn_X7_penceFor ⟨rfl, rfl, Nat.le_of_ble_eq_true rfl, Nat.le_of_ble_eq_true rfl⟩ (Nat.le_of_ble_eq_true rfl) rfl (fun v10 m11 h12 ho13 => ?_)
    exact z_iret dX11_buy_28 rfl rfl h12
  · refine z_iload_n dX11_buy_16 0 rfl ?_
    refine z_goto dX11_buy_17 (tgt := 28) rfl ?_
    exact z_iret dX11_buy_28 rfl rfl h7
set_option maxRecDepth 20000 in
theorem ct_X11_cheapest {ad sc sv : Nat → Nat} (n : Nat) (a0 : Int) (a1 : Int) (m : ZMem) (ha0 : R32 a0) (ha1 : R32 a1) : zCT LX ad sc sv M_X11_cheapest yX11_cheapest [.ref (ad 0), .int (mI a0), .int (mI a1)] m (F_X11_cheapest n a0 a1 m) := by
  refine zCT_of (lv := [(0, .ref (ad 0)), (1, .int (mI a0)), (2, .int (mI a1))]) (by decide) rfl (Nat.le_of_ble_eq_true rfl) rfl ?_
  unfold F_X11_cheapest
  refine z_aload_n dX11_cheapest_0 0 rfl ?_
  refine z_iconst dX11_cheapest_1 ?_
  refine z_bipush dX11_cheapest_2 (x := 24) (by decide +kernel) ?_
  refine z_iload_n dX11_cheapest_4 1 rfl ?_
  refine z_iload_n dX11_cheapest_5 2 rfl ?_
  refine z_callS1 dX11_cheapest_6 rfl (ct_X11_either n 1 24 a0 a1 m (by decide) (by decide) ha0 ha1) k_239 k_240 k_1 k_241 zn_X11_either ⟨rfl, rfl, Nat.le_of_ble_eq_true rfl, Nat.le_of_ble_eq_true rfl⟩ (Nat.le_of_ble_eq_true rfl) rfl (fun v1 m2 h3 ho4 => ?_)
  refine z_iload_n dX11_cheapest_9 1 rfl ?_
  refine z_iload_n dX11_cheapest_10 2 rfl ?_
  refine z_icmp_le dX11_cheapest_11 ha0 ha1 (tgt := 19) rfl (fun h5 => ?_) (fun h5 => ?_)
  · refine z_iconst dX11_cheapest_19 ?_
    refine z_callV1 dX11_cheapest_20 rfl (ct_X11_refused_ n v1 0 m2 h3 (by decide)) zc_X11 lx_0 k_255 k_257 kp_0 k_1 k_258 zn_X11_refused_ ⟨rfl, rfl, Nat.le_of_ble_eq_true rfl, Nat.le_of_ble_eq_true rfl⟩ (Nat.le_of_ble_eq_true rfl) rfl (fun v6 m7 h8 ho9 => ?_)
    refine z_istore_n dX11_cheapest_23 (lv' := [(3, .int (mI v6)), (0, .ref (ad 0)), (1, .int (mI a0)), (2, .int (mI a1))]) (by decide) rfl ?_
    refine z_iload_n dX11_cheapest_24 0 rfl ?_
    refine z_if_eq dX11_cheapest_25 h8 (tgt := 32) rfl (fun h10 => ?_) (fun h10 => ?_)
    · refine z_aload_n dX11_cheapest_32 1 rfl ?_
      refine z_getR dX11_cheapest_33 (k := 0) (j := 1) zc_X11 lx_0 rfl (by decide) k_195 ?_
      refine z_iload_n dX11_cheapest_36 2 rfl ?_
      refine z_iload_n dX11_cheapest_37 3 rfl ?_
      refine z_callS1 dX11_cheapest_38 rfl (ct_X7_leastPence n a0 a1 m7 ha0 ha1) k_851 k_852 k_6 k_853 zn_X7_leastPence ⟨rfl, rfl, Nat.le_of_ble_eq_true rfl, Nat.le_of_ble_eq_true rfl⟩ (Nat.le_of_ble_eq_true rfl) rfl (fun v11 m12 h13 ho14 => ?_)
      exact z_iret dX11_cheapest_41 rfl rfl h13
    · refine z_iload_n dX11_cheapest_28 0 rfl ?_
      refine z_goto dX11_cheapest_29 (tgt := 41) rfl ?_
      exact z_iret dX11_cheapest_41 rfl rfl h8
  · refine z_bipush dX11_cheapest_14 (x := (-3)) (by decide +kernel) ?_
    refine z_goto dX11_cheapest_16 (tgt := 20) rfl ?_
    refine z_callV1 dX11_cheapest_20 rfl (ct_X11_refused_ n v1 (-3) m2 h3 (by decide)) zc_X11 lx_0 k_255 k_257 kp_0 k_1 k_258 zn_X11_refused_ ⟨rfl, rfl, Nat.le_of_ble_eq_true rfl, Nat.le_of_ble_eq_true rfl⟩ (Nat.le_of_ble_eq_true rfl) rfl (fun v15 m16 h17 ho18 => ?_)
    refine z_istore_n dX11_cheapest_23 (lv' := [(3, .int (mI v15)), (0, .ref (ad 0)), (1, .int (mI a0)), (2, .int (mI a1))]) (by decide) rfl ?_
    refine z_iload_n dX11_cheapest_24 0 rfl ?_
    refine z_if_eq dX11_cheapest_25 h17 (tgt := 32) rfl (fun h19 => ?_) (fun h19 => ?_)
    · refine z_aload_n dX11_cheapest_32 1 rfl ?_
      refine z_getR dX11_cheapest_33 (k := 0) (j := 1) zc_X11 lx_0 rfl (by decide) k_195 ?_
      refine z_iload_n dX11_cheapest_36 2 rfl ?_
      refine z_iload_n dX11_cheapest_37 3 rfl ?_
      refine z_callS1 dX11_cheapest_38 rfl (ct_X7_leastPence n a0 a1 m16 ha0 ha1) k_851 k_852 k_6 k_853 zn_X7_leastPence ⟨rfl, rfl, Nat.le_of_ble_eq_true rfl, Nat.le_of_ble_eq_true rfl⟩ (Nat.le_of_ble_eq_true rfl) rfl (fun v20 m21 h22 ho23 => ?_)
      exact z_iret dX11_cheapest_41 rfl rfl h22
    · refine z_iload_n dX11_cheapest_28 0 rfl ?_
      refine z_goto dX11_cheapest_29 (tgt := 41) rfl ?_
      exact z_iret dX11_cheapest_41 rfl rfl h17
set_option maxRecDepth 20000 in
theorem ct_X11_weight {ad sc sv : Nat → Nat} (n : Nat) (a0 : Int) (m : ZMem) (ha0 : R32 a0) : zCT LX ad sc sv M_X11_weight yX11_weight [.ref (ad 0), .int (mI a0)] m (F_X11_weight n a0 m) := by
  refine zCT_of (lv := [(0, .ref (ad 0)), (1, .int (mI a0))]) (by decide) rfl (Nat.le_of_ble_eq_true rfl) rfl ?_
  unfold F_X11_weight
  refine z_aload_n dX11_weight_0 0 rfl ?_
  refine z_iconst dX11_weight_1 ?_
  refine z_bipush dX11_weight_2 (x := 40) (by decide +kernel) ?_
  refine z_iload_n dX11_weight_4 1 rfl ?_
  refine z_callS1 dX11_weight_5 rfl (ct_X11_outside n 1 40 a0 m (by decide) (by decide) ha0) k_236 k_237 k_1 k_238 zn_X11_outside ⟨rfl, rfl, Nat.le_of_ble_eq_true rfl, Nat.le_of_ble_eq_true rfl⟩ (Nat.le_of_ble_eq_true rfl) rfl (fun v1 m2 h3 ho4 => ?_)
  refine z_aload_n dX11_weight_8 0 rfl ?_
  refine z_getR dX11_weight_9 (k := 0) (j := 1) zc_X11 lx_0 rfl (by decide) k_195 ?_
  refine z_getR dX11_weight_12 (k := 8) (j := 10) zc_X3 lx_1 rfl (by decide) k_98 ?_
  refine z_callS1 dX11_weight_15 rfl (ct_X11_noRoom n 10 zt_10 m2) k_248 k_249 k_1 k_250 zn_X11_noRoom ⟨rfl, rfl, Nat.le_of_ble_eq_true rfl, Nat.le_of_ble_eq_true rfl⟩ (Nat.le_of_ble_eq_true rfl) rfl (fun v5 m6 h7 ho8 => ?_)
  refine z_callV1 dX11_weight_18 rfl (ct_X11_refused_ n v1 v5 m6 h3 h7) zc_X11 lx_0 k_255 k_257 kp_0 k_1 k_258 zn_X11_refused_ ⟨rfl, rfl, Nat.le_of_ble_eq_true rfl, Nat.le_of_ble_eq_true rfl⟩ (Nat.le_of_ble_eq_true rfl) rfl (fun v9 m10 h11 ho12 => ?_)
  refine z_istore_n dX11_weight_21 (lv' := [(2, .int (mI v9)), (0, .ref (ad 0)), (1, .int (mI a0))]) (by decide) rfl ?_
  refine z_iload_n dX11_weight_22 0 rfl ?_
  refine z_if_eq dX11_weight_23 h11 (tgt := 28) rfl (fun h13 => ?_) (fun h13 => ?_)
  · refine z_aload_n dX11_weight_28 1 rfl ?_
    refine z_getR dX11_weight_29 (k := 0) (j := 1) zc_X11 lx_0 rfl (by decide) k_195 ?_
    refine z_getR dX11_weight_32 (k := 8) (j := 10) zc_X3 lx_1 rfl (by decide) k_98 ?_
    refine z_iload_n dX11_weight_35 2 rfl ?_
    refine z_callV1 dX11_weight_36 rfl (ct_X9_add n 10 zt_10 a0 m10 ha0) zc_X9 lx_10 k_271 k_272 k_273 k_3 k_274 zn_X9_add ⟨rfl, rfl, Nat.le_of_ble_eq_true rfl, Nat.le_of_ble_eq_true rfl⟩ (Nat.le_of_ble_eq_true rfl) rfl (fun v14 m15 h16 ho17 => ?_)
    refine z_pop dX11_weight_39 rfl ?_
    refine z_aload_n dX11_weight_40 1 rfl ?_
    refine z_getR dX11_weight_41 (k := 0) (j := 1) zc_X11 lx_0 rfl (by decide) k_195 ?_
    refine z_getR dX11_weight_44 (k := 8) (j := 10) zc_X3 lx_1 rfl (by decide) k_98 ?_
    refine z_callV1 dX11_weight_47 rfl (ct_X9_size n 10 zt_10 m15) zc_X9 lx_10 k_275 k_276 k_277 k_3 k_278 zn_X9_size ⟨rfl, rfl, Nat.le_of_ble_eq_true rfl, Nat.le_of_ble_eq_true rfl⟩ (Nat.le_of_ble_eq_true rfl) rfl (fun v18 m19 h20 ho21 => ?_)
    exact z_iret dX11_weight_50 rfl rfl h20
  · refine z_iload_n dX11_weight_26 0 rfl ?_
    exact z_iret dX11_weight_27 rfl rfl h11
set_option maxRecDepth 20000 in
theorem ct_X11_weighed {ad sc sv : Nat → Nat} (n : Nat) (a0 : Int) (a1 : Int) (m : ZMem) (ha0 : R32 a0) (ha1 : R32 a1) : zCT LX ad sc sv M_X11_weighed yX11_weighed [.ref (ad 0), .int (mI a0), .int (mI a1)] m (F_X11_weighed n a0 a1 m) := by
  refine zCT_of (lv := [(0, .ref (ad 0)), (1, .int (mI a0)), (2, .int (mI a1))]) (by decide) rfl (Nat.le_of_ble_eq_true rfl) rfl ?_
  unfold F_X11_weighed
  refine z_aload_n dX11_weighed_0 0 rfl ?_
  refine z_iconst dX11_weighed_1 ?_
  refine z_sipush dX11_weighed_2 (x := 200) (by decide +kernel) ?_
  refine z_iload_n dX11_weighed_5 1 rfl ?_
  refine z_callS1 dX11_weighed_6 rfl (ct_X11_outside n 1 200 a0 m (by decide) (by decide) ha0) k_236 k_237 k_1 k_238 zn_X11_outside ⟨rfl, rfl, Nat.le_of_ble_eq_true rfl, Nat.le_of_ble_eq_true rfl⟩ (Nat.le_of_ble_eq_true rfl) rfl (fun v1 m2 h3 ho4 => ?_)
  refine z_iload_n dX11_weighed_9 2 rfl ?_
  refine z_iconst dX11_weighed_10 ?_
  refine z_callS1 dX11_weighed_11 rfl (ct_X11_noChoice n a1 1 m2 ha1 (by decide)) k_446 k_447 k_1 k_448 zn_X11_noChoice ⟨rfl, rfl, Nat.le_of_ble_eq_true rfl, Nat.le_of_ble_eq_true rfl⟩ (Nat.le_of_ble_eq_true rfl) rfl (fun v5 m6 h7 ho8 => ?_)
  refine z_callV1 dX11_weighed_14 rfl (ct_X11_refused_ n v1 v5 m6 h3 h7) zc_X11 lx_0 k_255 k_257 kp_0 k_1 k_258 zn_X11_refused_ ⟨rfl, rfl, Nat.le_of_ble_eq_true rfl, Nat.le_of_ble_eq_true rfl⟩ (Nat.le_of_ble_eq_true rfl) rfl (fun v9 m10 h11 ho12 => ?_)
  refine z_istore_n dX11_weighed_17 (lv' := [(3, .int (mI v9)), (0, .ref (ad 0)), (1, .int (mI a0)), (2, .int (mI a1))]) (by decide) rfl ?_
  refine z_iload_n dX11_weighed_18 0 rfl ?_
  refine z_if_eq dX11_weighed_19 h11 (tgt := 26) rfl (fun h13 => ?_) (fun h13 => ?_)
  · refine z_aload_n dX11_weighed_26 1 rfl ?_
    refine z_getR dX11_weighed_27 (k := 10) (j := 59) zc_X11 lx_0 rfl (by decide) k_205 ?_
    refine z_aload_n dX11_weighed_30 1 rfl ?_
    refine z_getR dX11_weighed_31 (k := 0) (j := 1) zc_X11 lx_0 rfl (by decide) k_195 ?_
    refine z_getR dX11_weighed_34 (k := 8) (j := 10) zc_X3 lx_1 rfl (by decide) k_98 ?_
    refine z_iload_n dX11_weighed_37 2 rfl ?_
    refine z_iload_n dX11_weighed_38 3 rfl ?_
    refine z_callV1 dX11_weighed_39 rfl (ct_X0_weighing n a0 a1 m10 ha0 ha1) zc_X0 lx_59 k_863 k_864 k_865 k_8 k_866 zn_X0_weighing ⟨rfl, rfl, Nat.le_of_ble_eq_true rfl, Nat.le_of_ble_eq_true rfl⟩ (Nat.le_of_ble_eq_true rfl) rfl (fun v14 m15 h16 ho17 => ?_)
    exact z_iret dX11_weighed_42 rfl rfl h16
  · refine z_iload_n dX11_weighed_22 0 rfl ?_
    refine z_goto dX11_weighed_23 (tgt := 42) rfl ?_
    exact z_iret dX11_weighed_42 rfl rfl h11
set_option maxRecDepth 20000 in
theorem ct_X11_heavy {ad sc sv : Nat → Nat} (n : Nat) (m : ZMem) : zCT LX ad sc sv M_X11_heavy yX11_heavy [.ref (ad 0)] m (F_X11_heavy n m) := by
  refine zCT_of (lv := [(0, .ref (ad 0))]) (by decide) rfl (Nat.le_of_ble_eq_true rfl) rfl ?_
  unfold F_X11_heavy
  refine z_aload_n dX11_heavy_0 0 rfl ?_
  refine z_getR dX11_heavy_1 (k := 10) (j := 59) zc_X11 lx_0 rfl (by decide) k_205 ?_
  refine z_aload_n dX11_heavy_4 0 rfl ?_
  refine z_getR dX11_heavy_5 (k := 0) (j := 1) zc_X11 lx_0 rfl (by decide) k_195 ?_
  refine z_getR dX11_heavy_8 (k := 8) (j := 10) zc_X3 lx_1 rfl (by decide) k_98 ?_
  refine z_callV1 dX11_heavy_11 rfl (ct_X0_weighable n m) zc_X0 lx_59 k_892 k_893 k_894 k_8 k_895 zn_X0_weighable ⟨rfl, rfl, Nat.le_of_ble_eq_true rfl, Nat.le_of_ble_eq_true rfl⟩ (Nat.le_of_ble_eq_true rfl) rfl (fun v1 m2 h3 ho4 => ?_)
  exact z_iret dX11_heavy_14 rfl rfl h3
set_option maxRecDepth 20000 in
theorem ct_X11_oven {ad sc sv : Nat → Nat} (n : Nat) (a0 : Int) (a1 : Int) (m : ZMem) (ha0 : R32 a0) (ha1 : R32 a1) : zCT LX ad sc sv M_X11_oven yX11_oven [.ref (ad 0), .int (mI a0), .int (mI a1)] m (F_X11_oven n a0 a1 m) := by
  refine zCT_of (lv := [(0, .ref (ad 0)), (1, .int (mI a0)), (2, .int (mI a1))]) (by decide) rfl (Nat.le_of_ble_eq_true rfl) rfl ?_
  unfold F_X11_oven
  refine z_aload_n dX11_oven_0 0 rfl ?_
  refine z_iconst dX11_oven_1 ?_
  refine z_iconst dX11_oven_2 ?_
  refine z_iload_n dX11_oven_3 1 rfl ?_
  refine z_callS1 dX11_oven_4 rfl (ct_X11_outside n 1 3 a0 m (by decide) (by decide) ha0) k_236 k_237 k_1 k_238 zn_X11_outside ⟨rfl, rfl, Nat.le_of_ble_eq_true rfl, Nat.le_of_ble_eq_true rfl⟩ (Nat.le_of_ble_eq_true rfl) rfl (fun v1 m2 h3 ho4 => ?_)
  refine z_iload_n dX11_oven_7 2 rfl ?_
  refine z_iconst dX11_oven_8 ?_
  refine z_callS1 dX11_oven_9 rfl (ct_X11_noChoice n a1 2 m2 ha1 (by decide)) k_446 k_447 k_1 k_448 zn_X11_noChoice ⟨rfl, rfl, Nat.le_of_ble_eq_true rfl, Nat.le_of_ble_eq_true rfl⟩ (Nat.le_of_ble_eq_true rfl) rfl (fun v5 m6 h7 ho8 => ?_)
  refine z_callV1 dX11_oven_12 rfl (ct_X11_refused_ n v1 v5 m6 h3 h7) zc_X11 lx_0 k_255 k_257 kp_0 k_1 k_258 zn_X11_refused_ ⟨rfl, rfl, Nat.le_of_ble_eq_true rfl, Nat.le_of_ble_eq_true rfl⟩ (Nat.le_of_ble_eq_true rfl) rfl (fun v9 m10 h11 ho12 => ?_)
  refine z_istore_n dX11_oven_15 (lv' := [(3, .int (mI v9)), (0, .ref (ad 0)), (1, .int (mI a0)), (2, .int (mI a1))]) (by decide) rfl ?_
  refine z_iload_n dX11_oven_16 0 rfl ?_
  refine z_if_eq dX11_oven_17 h11 (tgt := 22) rfl (fun h13 => ?_) (fun h13 => ?_)
  · refine z_iload_n dX11_oven_22 3 rfl ?_
    refine z_if_ne dX11_oven_23 ha1 (tgt := 41) rfl (fun h14 => ?_) (fun h14 => ?_)
    · refine z_aload_n dX11_oven_26 1 rfl ?_
      refine z_getR dX11_oven_27 (k := 11) (j := 62) zc_X11 lx_0 rfl (by decide) k_206 ?_
      refine z_aload_n dX11_oven_30 1 rfl ?_
      refine z_getR dX11_oven_31 (k := 5) (j := 45) zc_X11 lx_0 rfl (by decide) k_200 ?_
      refine z_iload_n dX11_oven_34 2 rfl ?_
      refine z_callV1 dX11_oven_35 rfl (ct_X4_oneBehindTheOther n a0 m10 ha0) zc_X4 lx_62 k_900 k_901 k_902 k_9 k_903 zn_X4_oneBehindTheOther ⟨rfl, rfl, Nat.le_of_ble_eq_true rfl, Nat.le_of_ble_eq_true rfl⟩ (Nat.le_of_ble_eq_true rfl) rfl (fun v15 m16 h17 ho18 => ?_)
      refine z_goto dX11_oven_38 (tgt := 63) rfl ?_
      exact z_iret dX11_oven_63 rfl rfl h17
    · refine z_aload_n dX11_oven_41 1 rfl ?_
      refine z_getR dX11_oven_42 (k := 11) (j := 62) zc_X11 lx_0 rfl (by decide) k_206 ?_
      refine z_aload_n dX11_oven_45 1 rfl ?_
      refine z_getR dX11_oven_46 (k := 5) (j := 45) zc_X11 lx_0 rfl (by decide) k_200 ?_
      refine z_iload_n dX11_oven_49 2 rfl ?_
      refine z_iload_n dX11_oven_50 3 rfl ?_
      refine z_iconst dX11_oven_51 ?_
      refine z_icmp_ne dX11_oven_52 ha1 (by decide) (tgt := 59) rfl (fun h19 => ?_) (fun h19 => ?_)
      · refine z_iconst dX11_oven_55 ?_
        refine z_goto dX11_oven_56 (tgt := 60) rfl ?_
        refine z_callV1 dX11_oven_60 rfl (ct_X4_soonest n a0 1 m10 ha0 (by decide)) zc_X4 lx_62 k_921 k_922 k_923 k_9 k_924 zn_X4_soonest ⟨rfl, rfl, Nat.le_of_ble_eq_true rfl, Nat.le_of_ble_eq_true rfl⟩ (Nat.le_of_ble_eq_true rfl) rfl (fun v20 m21 h22 ho23 => ?_)
        exact z_iret dX11_oven_63 rfl rfl h22
      · refine z_iconst dX11_oven_59 ?_
        refine z_callV1 dX11_oven_60 rfl (ct_X4_soonest n a0 0 m10 ha0 (by decide)) zc_X4 lx_62 k_921 k_922 k_923 k_9 k_924 zn_X4_soonest ⟨rfl, rfl, Nat.le_of_ble_eq_true rfl, Nat.le_of_ble_eq_true rfl⟩ (Nat.le_of_ble_eq_true rfl) rfl (fun v24 m25 h26 ho27 => ?_)
        exact z_iret dX11_oven_63 rfl rfl h26
  · refine z_iload_n dX11_oven_20 0 rfl ?_
    exact z_iret dX11_oven_21 rfl rfl h11
set_option maxRecDepth 20000 in
theorem ct_X11_also {ad sc sv : Nat → Nat} (n : Nat) (a0 : Int) (a1 : Int) (m : ZMem) (ha0 : R32 a0) (ha1 : R32 a1) : zCT LX ad sc sv M_X11_also yX11_also [.ref (ad 0), .int (mI a0), .int (mI a1)] m (F_X11_also n a0 a1 m) := by
  refine zCT_of (lv := [(0, .ref (ad 0)), (1, .int (mI a0)), (2, .int (mI a1))]) (by decide) rfl (Nat.le_of_ble_eq_true rfl) rfl ?_
  unfold F_X11_also
  refine z_aload_n dX11_also_0 0 rfl ?_
  refine z_iload_n dX11_also_1 1 rfl ?_
  refine z_bipush dX11_also_2 (x := 6) (by decide +kernel) ?_
  refine z_iload_n dX11_also_4 2 rfl ?_
  refine z_callV1 dX11_also_5 rfl (ct_X11_partBecomes n a0 6 a1 m ha0 (by decide) ha1) zc_X11 lx_0 k_495 k_497 kp_20 k_1 k_498 zn_X11_partBecomes ⟨rfl, rfl, Nat.le_of_ble_eq_true rfl, Nat.le_of_ble_eq_true rfl⟩ (Nat.le_of_ble_eq_true rfl) rfl (fun v1 m2 h3 ho4 => ?_)
  exact z_iret dX11_also_8 rfl rfl h3
set_option maxRecDepth 20000 in
theorem ct_X11_recipes {ad sc sv : Nat → Nat} (n : Nat) (a0 : Int) (m : ZMem) (ha0 : R32 a0) : zCT LX ad sc sv M_X11_recipes yX11_recipes [.ref (ad 0), .int (mI a0)] m (F_X11_recipes n a0 m) := by
  refine zCT_of (lv := [(0, .ref (ad 0)), (1, .int (mI a0))]) (by decide) rfl (Nat.le_of_ble_eq_true rfl) rfl ?_
  unfold F_X11_recipes
  refine z_aload_n dX11_recipes_0 0 rfl ?_
  refine z_iload_n dX11_recipes_1 1 rfl ?_
  refine z_iconst dX11_recipes_2 ?_
  refine z_callS1 dX11_recipes_3 rfl (ct_X11_noChoice n a0 1 m ha0 (by decide)) k_446 k_447 k_1 k_448 zn_X11_noChoice ⟨rfl, rfl, Nat.le_of_ble_eq_true rfl, Nat.le_of_ble_eq_true rfl⟩ (Nat.le_of_ble_eq_true rfl) rfl (fun v1 m2 h3 ho4 => ?_)
  refine z_callV1 dX11_recipes_6 rfl (ct_X11_refused__ n v1 m2 h3) zc_X11 lx_0 k_477 k_479 kp_19 k_1 k_480 zn_X11_refused__ ⟨rfl, rfl, Nat.le_of_ble_eq_true rfl, Nat.le_of_ble_eq_true rfl⟩ (Nat.le_of_ble_eq_true rfl) rfl (fun v5 m6 h7 ho8 => ?_)
  refine z_istore_n dX11_recipes_9 (lv' := [(2, .int (mI v5)), (0, .ref (ad 0)), (1, .int (mI a0))]) (by decide) rfl ?_
  refine z_iload_n dX11_recipes_10 0 rfl ?_
  refine z_if_eq dX11_recipes_11 h7 (tgt := 16) rfl (fun h9 => ?_) (fun h9 => ?_)
  · refine z_aload_n dX11_recipes_16 1 rfl ?_
    refine z_getR dX11_recipes_17 (k := 0) (j := 1) zc_X11 lx_0 rfl (by decide) k_195 ?_
    refine z_callS1 dX11_recipes_20 rfl (ct_X6_bothRecipes n m6) k_941 k_942 k_16 k_943 zn_X6_bothRecipes ⟨rfl, rfl, Nat.le_of_ble_eq_true rfl, Nat.le_of_ble_eq_true rfl⟩ (Nat.le_of_ble_eq_true rfl) rfl (fun v10 m11 h12 ho13 => ?_)
    refine z_istore_n dX11_recipes_23 (lv' := [(3, .int (mI v10)), (2, .int (mI v5)), (0, .ref (ad 0)), (1, .int (mI a0))]) (by decide) rfl ?_
    refine z_iload_n dX11_recipes_24 3 rfl ?_
    refine z_if_ne dX11_recipes_25 ha0 (tgt := 35) rfl (fun h14 => ?_) (fun h14 => ?_)
    · refine z_iload_n dX11_recipes_28 0 rfl ?_
      refine z_bipush dX11_recipes_29 (x := 100) (by decide +kernel) ?_
      refine z_idiv dX11_recipes_31 h12 (by decide) (fun h15 => ?_)
      refine z_goto dX11_recipes_32 (tgt := 39) rfl ?_
      exact z_iret dX11_recipes_39 rfl rfl h15
    · refine z_iload_n dX11_recipes_35 0 rfl ?_
      refine z_bipush dX11_recipes_36 (x := 100) (by decide +kernel) ?_
      refine z_irem dX11_recipes_38 h12 (by decide) (fun h16 => ?_)
      exact z_iret dX11_recipes_39 rfl rfl h16
  · refine z_iload_n dX11_recipes_14 0 rfl ?_
    exact z_iret dX11_recipes_15 rfl rfl h7
set_option maxRecDepth 20000 in
theorem ct_X11_notTwoParts {ad sc sv : Nat → Nat} (n : Nat) (a0 : Int) (a1 : Int) (m : ZMem) (ha0 : R32 a0) (ha1 : R32 a1) : zCT LX ad sc sv M_X11_notTwoParts yX11_notTwoParts [.ref (ad 0), .int (mI a0), .int (mI a1)] m (F_X11_notTwoParts n a0 a1 m) := by
  refine zCT_of (lv := [(0, .ref (ad 0)), (1, .int (mI a0)), (2, .int (mI a1))]) (by decide) rfl (Nat.le_of_ble_eq_true rfl) rfl ?_
  unfold F_X11_notTwoParts
  refine z_iload_n dX11_notTwoParts_0 1 rfl ?_
  refine z_iload_n dX11_notTwoParts_1 2 rfl ?_
  refine z_icmp_ne dX11_notTwoParts_2 ha0 ha1 (tgt := 9) rfl (fun h1 => ?_) (fun h1 => ?_)
  · refine z_iconst dX11_notTwoParts_5 ?_
    refine z_goto dX11_notTwoParts_6 (tgt := 15) rfl ?_
    exact z_iret dX11_notTwoParts_15 rfl rfl (by decide)
  · refine z_aload_n dX11_notTwoParts_9 0 rfl ?_
    refine z_iload_n dX11_notTwoParts_10 1 rfl ?_
    refine z_iload_n dX11_notTwoParts_11 2 rfl ?_
    refine z_callV1 dX11_notTwoParts_12 rfl (ct_X11_noPartOf n a0 a1 m ha0 ha1) zc_X11 lx_0 k_737 k_739 kp_28 k_1 k_740 zn_X11_noPartOf ⟨rfl, rfl, Nat.le_of_ble_eq_true rfl, Nat.le_of_ble_eq_true rfl⟩ (Nat.le_of_ble_eq_true rfl) rfl (fun v2 m3 h4 ho5 => ?_)
    exact z_iret dX11_notTwoParts_15 rfl rfl h4
set_option maxRecDepth 20000 in
theorem ct_X11_needed {ad sc sv : Nat → Nat} (n : Nat) (a0 : Int) (a1 : Int) (a2 : Int) (m : ZMem) (ha0 : R32 a0) (ha1 : R32 a1) (ha2 : R32 a2) : zCT LX ad sc sv M_X11_needed yX11_needed [.ref (ad 0), .int (mI a0), .int (mI a1), .int (mI a2)] m (F_X11_needed n a0 a1 a2 m) := by
  refine zCT_of (lv := [(0, .ref (ad 0)), (1, .int (mI a0)), (2, .int (mI a1)), (3, .int (mI a2))]) (by decide) rfl (Nat.le_of_ble_eq_true rfl) rfl ?_
  unfold F_X11_needed
  refine z_aload_n dX11_needed_0 0 rfl ?_
  refine z_aload_n dX11_needed_1 0 rfl ?_
  refine z_iload_n dX11_needed_2 1 rfl ?_
  refine z_iload_n dX11_needed_3 3 rfl ?_
  refine z_callV1 dX11_needed_4 rfl (ct_X11_notTwoParts n a0 a2 m ha0 ha2) zc_X11 lx_0 k_951 k_953 kp_36 k_1 k_954 zn_X11_notTwoParts ⟨rfl, rfl, Nat.le_of_ble_eq_true rfl, Nat.le_of_ble_eq_true rfl⟩ (Nat.le_of_ble_eq_true rfl) rfl (fun v1 m2 h3 ho4 => ?_)
  refine z_iconst dX11_needed_7 ?_
  refine z_bipush dX11_needed_8 (x := 99) (by decide +kernel) ?_
  refine z_iload_n dX11_needed_10 2 rfl ?_
  refine z_callS1 dX11_needed_11 rfl (ct_X11_outside n 0 99 a1 m2 (by decide) (by decide) ha1) k_236 k_237 k_1 k_238 zn_X11_outside ⟨rfl, rfl, Nat.le_of_ble_eq_true rfl, Nat.le_of_ble_eq_true rfl⟩ (Nat.le_of_ble_eq_true rfl) rfl (fun v5 m6 h7 ho8 => ?_)
  refine z_callV1 dX11_needed_14 rfl (ct_X11_refused_ n v1 v5 m6 h3 h7) zc_X11 lx_0 k_255 k_257 kp_0 k_1 k_258 zn_X11_refused_ ⟨rfl, rfl, Nat.le_of_ble_eq_true rfl, Nat.le_of_ble_eq_true rfl⟩ (Nat.le_of_ble_eq_true rfl) rfl (fun v9 m10 h11 ho12 => ?_)
  refine z_istore dX11_needed_17 (lv' := [(4, .int (mI v9)), (0, .ref (ad 0)), (1, .int (mI a0)), (2, .int (mI a1)), (3, .int (mI a2))]) (by decide) rfl ?_
  refine z_iload dX11_needed_19 0 rfl ?_
  refine z_if_eq dX11_needed_21 h11 (tgt := 27) rfl (fun h13 => ?_) (fun h13 => ?_)
  · refine z_bipush dX11_needed_27 (x := 12) (by decide +kernel) ?_
    refine z_aload_n dX11_needed_29 1 rfl ?_
    refine z_getR dX11_needed_30 (k := 0) (j := 1) zc_X11 lx_0 rfl (by decide) k_195 ?_
    refine z_getR dX11_needed_33 (k := 4) (j := 2) zc_X3 lx_1 rfl (by decide) k_84 ?_
    refine z_iload_n dX11_needed_36 4 rfl ?_
    refine z_iconst dX11_needed_37 ?_
    refine z_callV1 dX11_needed_38 rfl (ct_X9_at n 2 zt_2 a2 3 m10 ha2 (by decide)) zc_X9 lx_2 k_263 k_264 k_265 k_3 k_266 zn_X9_at ⟨rfl, rfl, Nat.le_of_ble_eq_true rfl, Nat.le_of_ble_eq_true rfl⟩ (Nat.le_of_ble_eq_true rfl) rfl (fun v14 m15 h16 ho17 => ?_)
    refine z_imul dX11_needed_41 (fun h18 => ?_)
    refine z_iload_n dX11_needed_42 3 rfl ?_
    refine z_imul dX11_needed_43 (fun h19 => ?_)
    refine z_istore dX11_needed_44 (lv' := [(5, .int (mI ((12 * v14) * a1))), (4, .int (mI v9)), (0, .ref (ad 0)), (1, .int (mI a0)), (2, .int (mI a1)), (3, .int (mI a2))]) (by decide) rfl ?_
    refine z_iload dX11_needed_46 0 rfl ?_
    refine z_aload_n dX11_needed_48 2 rfl ?_
    refine z_getR dX11_needed_49 (k := 0) (j := 1) zc_X11 lx_0 rfl (by decide) k_195 ?_
    refine z_getR dX11_needed_52 (k := 4) (j := 2) zc_X3 lx_1 rfl (by decide) k_84 ?_
    refine z_iload_n dX11_needed_55 3 rfl ?_
    refine z_iconst dX11_needed_56 ?_
    refine z_callV1 dX11_needed_57 rfl (ct_X9_at n 2 zt_2 a0 3 m15 ha0 (by decide)) zc_X9 lx_2 k_263 k_264 k_265 k_3 k_266 zn_X9_at ⟨rfl, rfl, Nat.le_of_ble_eq_true rfl, Nat.le_of_ble_eq_true rfl⟩ (Nat.le_of_ble_eq_true rfl) rfl (fun v20 m21 h22 ho23 => ?_)
    refine z_callS1 dX11_needed_60 rfl (ct_X8_nearest n ((12 * v14) * a1) v20 m21 h19 h22) k_955 k_459 k_15 k_460 zn_X8_nearest ⟨rfl, rfl, Nat.le_of_ble_eq_true rfl, Nat.le_of_ble_eq_true rfl⟩ (Nat.le_of_ble_eq_true rfl) rfl (fun v24 m25 h26 ho27 => ?_)
    exact z_iret dX11_needed_63 rfl rfl h26
  · refine z_iload dX11_needed_24 0 rfl ?_
    exact z_iret dX11_needed_26 rfl rfl h11
set_option maxRecDepth 20000 in
theorem ct_X11_forgotten {ad sc sv : Nat → Nat} (n : Nat) (m : ZMem) : zCT LX ad sc sv M_X11_forgotten yX11_forgotten [.ref (ad 0)] m (F_X11_forgotten n m) := by
  refine zCT_of (lv := [(0, .ref (ad 0))]) (by decide) rfl (Nat.le_of_ble_eq_true rfl) rfl ?_
  unfold F_X11_forgotten
  refine z_aload_n dX11_forgotten_0 0 rfl ?_
  refine z_getR dX11_forgotten_1 (k := 0) (j := 1) zc_X11 lx_0 rfl (by decide) k_195 ?_
  refine z_callS1 dX11_forgotten_4 rfl (ct_X6_worstForgotten n m) k_960 k_961 k_16 k_962 zn_X6_worstForgotten ⟨rfl, rfl, Nat.le_of_ble_eq_true rfl, Nat.le_of_ble_eq_true rfl⟩ (Nat.le_of_ble_eq_true rfl) rfl (fun v1 m2 h3 ho4 => ?_)
  exact z_iret dX11_forgotten_7 rfl rfl h3
set_option maxRecDepth 20000 in
theorem ct_X11_pair {ad sc sv : Nat → Nat} (n : Nat) (m : ZMem) : zCT LX ad sc sv M_X11_pair yX11_pair [.ref (ad 0)] m (F_X11_pair n m) := by
  refine zCT_of (lv := [(0, .ref (ad 0))]) (by decide) rfl (Nat.le_of_ble_eq_true rfl) rfl ?_
  unfold F_X11_pair
  refine z_aload_n dX11_pair_0 0 rfl ?_
  refine z_getR dX11_pair_1 (k := 0) (j := 1) zc_X11 lx_0 rfl (by decide) k_195 ?_
  refine z_callS1 dX11_pair_4 rfl (ct_X10_nearestPair n m) k_967 k_968 k_17 k_969 zn_X10_nearestPair ⟨rfl, rfl, Nat.le_of_ble_eq_true rfl, Nat.le_of_ble_eq_true rfl⟩ (Nat.le_of_ble_eq_true rfl) rfl (fun v1 m2 h3 ho4 => ?_)
  exact z_iret dX11_pair_7 rfl rfl h3
set_option maxRecDepth 20000 in
theorem T_X11_path_16 {ad sc sv : Nat → Nat} (n : Nat) : ∀ (x1 : Int) (x2 : Int) (s0 : Int) (m : ZMem), R32 x1 → R32 x2 → R32 s0 → zG LX ad sc sv M_X11_path 16 [(0, .ref (ad 0)), (1, .int (mI x1)), (2, .int (mI x2))] [.int (mI s0), .ref (ad 0)] m (B_X11_path_16 n x1 x2 s0 m) := by
  intro x1 x2 s0 m hx1 hx2 hs0
  unfold B_X11_path_16
  refine z_iload_n dX11_path_16 1 rfl ?_
  refine z_bipush dX11_path_17 (x := 12) (by decide +kernel) ?_
  refine z_icmp_le dX11_path_19 hx1 (by decide) (tgt := 27) rfl (fun h3 => ?_) (fun h3 => ?_)
  · refine z_iconst dX11_path_27 ?_
    refine z_callV1 dX11_path_28 rfl (ct_X11_refused_ n s0 0 m hs0 (by decide)) zc_X11 lx_0 k_255 k_257 kp_0 k_1 k_258 zn_X11_refused_ ⟨rfl, rfl, Nat.le_of_ble_eq_true rfl, Nat.le_of_ble_eq_true rfl⟩ (Nat.le_of_ble_eq_true rfl) rfl (fun v4 m5 h6 ho7 => ?_)
    refine z_istore_n dX11_path_31 (lv' := [(3, .int (mI v4)), (0, .ref (ad 0)), (1, .int (mI x1)), (2, .int (mI x2))]) (by decide) rfl ?_
    refine z_iload_n dX11_path_32 0 rfl ?_
    refine z_if_eq dX11_path_33 h6 (tgt := 40) rfl (fun h8 => ?_) (fun h8 => ?_)
    · refine z_aload_n dX11_path_40 1 rfl ?_
      refine z_getR dX11_path_41 (k := 9) (j := 54) zc_X11 lx_0 rfl (by decide) k_204 ?_
      refine z_aload_n dX11_path_44 1 rfl ?_
      refine z_getR dX11_path_45 (k := 0) (j := 1) zc_X11 lx_0 rfl (by decide) k_195 ?_
      refine z_getR dX11_path_48 (k := 7) (j := 8) zc_X3 lx_1 rfl (by decide) k_95 ?_
      refine z_iload_n dX11_path_51 2 rfl ?_
      refine z_iload_n dX11_path_52 3 rfl ?_
      refine z_callV1 dX11_path_53 rfl (ct_X5_stepOf n x1 x2 m5 hx1 hx2) zc_X5 lx_54 k_975 k_976 k_977 k_7 k_978 zn_X5_stepOf ⟨rfl, rfl, Nat.le_of_ble_eq_true rfl, Nat.le_of_ble_eq_true rfl⟩ (Nat.le_of_ble_eq_true rfl) rfl (fun v9 m10 h11 ho12 => ?_)
      exact z_iret dX11_path_56 rfl rfl h11
    · refine z_iload_n dX11_path_36 0 rfl ?_
      refine z_goto dX11_path_37 (tgt := 56) rfl ?_
      exact z_iret dX11_path_56 rfl rfl h6
  · refine z_bipush dX11_path_22 (x := (-6)) (by decide +kernel) ?_
    refine z_goto dX11_path_24 (tgt := 28) rfl ?_
    refine z_callV1 dX11_path_28 rfl (ct_X11_refused_ n s0 (-6) m hs0 (by decide)) zc_X11 lx_0 k_255 k_257 kp_0 k_1 k_258 zn_X11_refused_ ⟨rfl, rfl, Nat.le_of_ble_eq_true rfl, Nat.le_of_ble_eq_true rfl⟩ (Nat.le_of_ble_eq_true rfl) rfl (fun v13 m14 h15 ho16 => ?_)
    refine z_istore_n dX11_path_31 (lv' := [(3, .int (mI v13)), (0, .ref (ad 0)), (1, .int (mI x1)), (2, .int (mI x2))]) (by decide) rfl ?_
    refine z_iload_n dX11_path_32 0 rfl ?_
    refine z_if_eq dX11_path_33 h15 (tgt := 40) rfl (fun h17 => ?_) (fun h17 => ?_)
    · refine z_aload_n dX11_path_40 1 rfl ?_
      refine z_getR dX11_path_41 (k := 9) (j := 54) zc_X11 lx_0 rfl (by decide) k_204 ?_
      refine z_aload_n dX11_path_44 1 rfl ?_
      refine z_getR dX11_path_45 (k := 0) (j := 1) zc_X11 lx_0 rfl (by decide) k_195 ?_
      refine z_getR dX11_path_48 (k := 7) (j := 8) zc_X3 lx_1 rfl (by decide) k_95 ?_
      refine z_iload_n dX11_path_51 2 rfl ?_
      refine z_iload_n dX11_path_52 3 rfl ?_
      refine z_callV1 dX11_path_53 rfl (ct_X5_stepOf n x1 x2 m14 hx1 hx2) zc_X5 lx_54 k_975 k_976 k_977 k_7 k_978 zn_X5_stepOf ⟨rfl, rfl, Nat.le_of_ble_eq_true rfl, Nat.le_of_ble_eq_true rfl⟩ (Nat.le_of_ble_eq_true rfl) rfl (fun v18 m19 h20 ho21 => ?_)
      exact z_iret dX11_path_56 rfl rfl h20
    · refine z_iload_n dX11_path_36 0 rfl ?_
      refine z_goto dX11_path_37 (tgt := 56) rfl ?_
      exact z_iret dX11_path_56 rfl rfl h15
set_option maxRecDepth 20000 in
theorem ct_X11_path {ad sc sv : Nat → Nat} (n : Nat) (a0 : Int) (a1 : Int) (m : ZMem) (ha0 : R32 a0) (ha1 : R32 a1) : zCT LX ad sc sv M_X11_path yX11_path [.ref (ad 0), .int (mI a0), .int (mI a1)] m (F_X11_path n a0 a1 m) := by
  refine zCT_of (lv := [(0, .ref (ad 0)), (1, .int (mI a0)), (2, .int (mI a1))]) (by decide) rfl (Nat.le_of_ble_eq_true rfl) rfl ?_
  unfold F_X11_path
  refine z_aload_n dX11_path_0 0 rfl ?_
  refine z_iload_n dX11_path_1 1 rfl ?_
  refine z_iconst dX11_path_2 ?_
  refine z_icmp_lt dX11_path_3 ha0 (by decide) (tgt := 10) rfl (fun h1 => ?_) (fun h1 => ?_)
  · refine z_bipush dX11_path_10 (x := (-4)) (by decide +kernel) ?_
    refine z_goto dX11_path_12 (tgt := 16) rfl ?_
    exact zG_lvk (T_X11_path_16 n a0 a1 (-4) m ha0 ha1 (by decide)) [0, 1, 2] rfl
  · refine z_iload_n dX11_path_6 2 rfl ?_
    refine z_if_ge dX11_path_7 ha1 (tgt := 15) rfl (fun h2 => ?_) (fun h2 => ?_)
    · refine z_iconst dX11_path_15 ?_
      exact zG_lvk (T_X11_path_16 n a0 a1 0 m ha0 ha1 (by decide)) [0, 1, 2] rfl
    · refine z_bipush dX11_path_10 (x := (-4)) (by decide +kernel) ?_
      refine z_goto dX11_path_12 (tgt := 16) rfl ?_
      exact zG_lvk (T_X11_path_16 n a0 a1 (-4) m ha0 ha1 (by decide)) [0, 1, 2] rfl
set_option maxRecDepth 20000 in
theorem ct_X11_dish {ad sc sv : Nat → Nat} (n : Nat) (a0 : Int) (a1 : Int) (a2 : Int) (a3 : Int) (a4 : Int) (m : ZMem) (ha0 : R32 a0) (ha1 : R32 a1) (ha2 : R32 a2) (ha3 : R32 a3) (ha4 : R32 a4) : zCT LX ad sc sv M_X11_dish yX11_dish [.ref (ad 0), .int (mI a0), .int (mI a1), .int (mI a2), .int (mI a3), .int (mI a4)] m (F_X11_dish n a0 a1 a2 a3 a4 m) := by
  refine zCT_of (lv := [(0, .ref (ad 0)), (1, .int (mI a0)), (2, .int (mI a1)), (3, .int (mI a2)), (4, .int (mI a3)), (5, .int (mI a4))]) (by decide) rfl (Nat.le_of_ble_eq_true rfl) rfl ?_
  unfold F_X11_dish
  refine z_aload_n dX11_dish_0 0 rfl ?_
  refine z_aload_n dX11_dish_1 0 rfl ?_
  refine z_iload_n dX11_dish_2 1 rfl ?_
  refine z_iload_n dX11_dish_3 3 rfl ?_
  refine z_callV1 dX11_dish_4 rfl (ct_X11_noPartOf n a0 a2 m ha0 ha2) zc_X11 lx_0 k_737 k_739 kp_28 k_1 k_740 zn_X11_noPartOf ⟨rfl, rfl, Nat.le_of_ble_eq_true rfl, Nat.le_of_ble_eq_true rfl⟩ (Nat.le_of_ble_eq_true rfl) rfl (fun v1 m2 h3 ho4 => ?_)
  refine z_bipush dX11_dish_7 (x := 99) (by decide +kernel) ?_
  refine z_iload_n dX11_dish_9 2 rfl ?_
  refine z_iload dX11_dish_10 4 rfl ?_
  refine z_iload dX11_dish_12 5 rfl ?_
  refine z_callS1 dX11_dish_14 rfl (ct_X11_each n 99 a1 a3 a4 m2 (by decide) ha1 ha3 ha4) k_716 k_717 k_1 k_718 zn_X11_each ⟨rfl, rfl, Nat.le_of_ble_eq_true rfl, Nat.le_of_ble_eq_true rfl⟩ (Nat.le_of_ble_eq_true rfl) rfl (fun v5 m6 h7 ho8 => ?_)
  refine z_aload_n dX11_dish_17 0 rfl ?_
  refine z_getR dX11_dish_18 (k := 0) (j := 1) zc_X11 lx_0 rfl (by decide) k_195 ?_
  refine z_getR dX11_dish_21 (k := 9) (j := 12) zc_X3 lx_1 rfl (by decide) k_101 ?_
  refine z_callS1 dX11_dish_24 rfl (ct_X11_noRoom n 12 zt_12 m6) k_248 k_249 k_1 k_250 zn_X11_noRoom ⟨rfl, rfl, Nat.le_of_ble_eq_true rfl, Nat.le_of_ble_eq_true rfl⟩ (Nat.le_of_ble_eq_true rfl) rfl (fun v9 m10 h11 ho12 => ?_)
  refine z_callV1 dX11_dish_27 rfl (ct_X11_refused n v1 v5 v9 m10 h3 h7 h11) zc_X11 lx_0 k_259 k_261 kp_1 k_1 k_262 zn_X11_refused ⟨rfl, rfl, Nat.le_of_ble_eq_true rfl, Nat.le_of_ble_eq_true rfl⟩ (Nat.le_of_ble_eq_true rfl) rfl (fun v13 m14 h15 ho16 => ?_)
  refine z_istore dX11_dish_30 (lv' := [(6, .int (mI v13)), (0, .ref (ad 0)), (1, .int (mI a0)), (2, .int (mI a1)), (3, .int (mI a2)), (4, .int (mI a3)), (5, .int (mI a4))]) (by decide) rfl ?_
  refine z_iload dX11_dish_32 0 rfl ?_
  refine z_if_eq dX11_dish_34 h15 (tgt := 40) rfl (fun h17 => ?_) (fun h17 => ?_)
  · refine z_aload_n dX11_dish_40 1 rfl ?_
    refine z_getR dX11_dish_41 (k := 0) (j := 1) zc_X11 lx_0 rfl (by decide) k_195 ?_
    refine z_getR dX11_dish_44 (k := 9) (j := 12) zc_X3 lx_1 rfl (by decide) k_101 ?_
    refine z_iload_n dX11_dish_47 2 rfl ?_
    refine z_callV1 dX11_dish_48 rfl (ct_X9_add n 12 zt_12 a0 m14 ha0) zc_X9 lx_12 k_271 k_272 k_273 k_3 k_274 zn_X9_add ⟨rfl, rfl, Nat.le_of_ble_eq_true rfl, Nat.le_of_ble_eq_true rfl⟩ (Nat.le_of_ble_eq_true rfl) rfl (fun v18 m19 h20 ho21 => ?_)
    refine z_istore dX11_dish_51 (lv' := [(7, .int (mI v18)), (6, .int (mI v13)), (0, .ref (ad 0)), (1, .int (mI a0)), (2, .int (mI a1)), (3, .int (mI a2)), (4, .int (mI a3)), (5, .int (mI a4))]) (by decide) rfl ?_
    refine z_aload_n dX11_dish_53 2 rfl ?_
    refine z_getR dX11_dish_54 (k := 0) (j := 1) zc_X11 lx_0 rfl (by decide) k_195 ?_
    refine z_getR dX11_dish_57 (k := 9) (j := 12) zc_X3 lx_1 rfl (by decide) k_101 ?_
    refine z_iload dX11_dish_60 0 rfl ?_
    refine z_iconst dX11_dish_62 ?_
    refine z_iload_n dX11_dish_63 4 rfl ?_
    refine z_callV0 dX11_dish_64 rfl (ct_X9_put n 12 zt_12 v18 1 a1 m19 h20 (by decide) ha1) zc_X9 lx_12 k_267 k_268 k_269 k_3 k_270 zn_X9_put ⟨rfl, rfl, Nat.le_of_ble_eq_true rfl, Nat.le_of_ble_eq_true rfl⟩ (Nat.le_of_ble_eq_true rfl) rfl (fun v22 m23 ho25 => ?_)
    refine z_aload_n dX11_dish_67 2 rfl ?_
    refine z_getR dX11_dish_68 (k := 0) (j := 1) zc_X11 lx_0 rfl (by decide) k_195 ?_
    refine z_getR dX11_dish_71 (k := 9) (j := 12) zc_X3 lx_1 rfl (by decide) k_101 ?_
    refine z_iload dX11_dish_74 0 rfl ?_
    refine z_iconst dX11_dish_76 ?_
    refine z_iload_n dX11_dish_77 5 rfl ?_
    refine z_callV0 dX11_dish_78 rfl (ct_X9_put n 12 zt_12 v18 2 a2 m23 h20 (by decide) ha2) zc_X9 lx_12 k_267 k_268 k_269 k_3 k_270 zn_X9_put ⟨rfl, rfl, Nat.le_of_ble_eq_true rfl, Nat.le_of_ble_eq_true rfl⟩ (Nat.le_of_ble_eq_true rfl) rfl (fun v26 m27 ho29 => ?_)
    refine z_aload_n dX11_dish_81 2 rfl ?_
    refine z_getR dX11_dish_82 (k := 0) (j := 1) zc_X11 lx_0 rfl (by decide) k_195 ?_
    refine z_getR dX11_dish_85 (k := 9) (j := 12) zc_X3 lx_1 rfl (by decide) k_101 ?_
    refine z_iload dX11_dish_88 0 rfl ?_
    refine z_iconst dX11_dish_90 ?_
    refine z_iload dX11_dish_91 6 rfl ?_
    refine z_callV0 dX11_dish_93 rfl (ct_X9_put n 12 zt_12 v18 3 a3 m27 h20 (by decide) ha3) zc_X9 lx_12 k_267 k_268 k_269 k_3 k_270 zn_X9_put ⟨rfl, rfl, Nat.le_of_ble_eq_true rfl, Nat.le_of_ble_eq_true rfl⟩ (Nat.le_of_ble_eq_true rfl) rfl (fun v30 m31 ho33 => ?_)
    refine z_aload_n dX11_dish_96 2 rfl ?_
    refine z_getR dX11_dish_97 (k := 0) (j := 1) zc_X11 lx_0 rfl (by decide) k_195 ?_
    refine z_getR dX11_dish_100 (k := 9) (j := 12) zc_X3 lx_1 rfl (by decide) k_101 ?_
    refine z_iload dX11_dish_103 0 rfl ?_
    refine z_iconst dX11_dish_105 ?_
    refine z_iload dX11_dish_106 7 rfl ?_
    refine z_callV0 dX11_dish_108 rfl (ct_X9_put n 12 zt_12 v18 4 a4 m31 h20 (by decide) ha4) zc_X9 lx_12 k_267 k_268 k_269 k_3 k_270 zn_X9_put ⟨rfl, rfl, Nat.le_of_ble_eq_true rfl, Nat.le_of_ble_eq_true rfl⟩ (Nat.le_of_ble_eq_true rfl) rfl (fun v34 m35 ho37 => ?_)
    refine z_iload dX11_dish_111 0 rfl ?_
    exact z_iret dX11_dish_113 rfl rfl h20
  · refine z_iload dX11_dish_37 0 rfl ?_
    exact z_iret dX11_dish_39 rfl rfl h15
set_option maxRecDepth 20000 in
theorem ct_X11_usedUp {ad sc sv : Nat → Nat} (n : Nat) (a0 : Int) (m : ZMem) (ha0 : R32 a0) : zCT LX ad sc sv M_X11_usedUp yX11_usedUp [.ref (ad 0), .int (mI a0)] m (F_X11_usedUp n a0 m) := by
  refine zCT_of (lv := [(0, .ref (ad 0)), (1, .int (mI a0))]) (by decide) rfl (Nat.le_of_ble_eq_true rfl) rfl ?_
  unfold F_X11_usedUp
  refine z_aload_n dX11_usedUp_0 0 rfl ?_
  refine z_iload_n dX11_usedUp_1 1 rfl ?_
  refine z_iconst dX11_usedUp_2 ?_
  refine z_callS1 dX11_usedUp_3 rfl (ct_X11_noChoice n a0 1 m ha0 (by decide)) k_446 k_447 k_1 k_448 zn_X11_noChoice ⟨rfl, rfl, Nat.le_of_ble_eq_true rfl, Nat.le_of_ble_eq_true rfl⟩ (Nat.le_of_ble_eq_true rfl) rfl (fun v1 m2 h3 ho4 => ?_)
  refine z_callV1 dX11_usedUp_6 rfl (ct_X11_refused__ n v1 m2 h3) zc_X11 lx_0 k_477 k_479 kp_19 k_1 k_480 zn_X11_refused__ ⟨rfl, rfl, Nat.le_of_ble_eq_true rfl, Nat.le_of_ble_eq_true rfl⟩ (Nat.le_of_ble_eq_true rfl) rfl (fun v5 m6 h7 ho8 => ?_)
  refine z_istore_n dX11_usedUp_9 (lv' := [(2, .int (mI v5)), (0, .ref (ad 0)), (1, .int (mI a0))]) (by decide) rfl ?_
  refine z_iload_n dX11_usedUp_10 0 rfl ?_
  refine z_if_eq dX11_usedUp_11 h7 (tgt := 16) rfl (fun h9 => ?_) (fun h9 => ?_)
  · refine z_aload_n dX11_usedUp_16 1 rfl ?_
    refine z_getR dX11_usedUp_17 (k := 0) (j := 1) zc_X11 lx_0 rfl (by decide) k_195 ?_
    refine z_callS1 dX11_usedUp_20 rfl (ct_X7_worthiestSet n m6) k_987 k_988 k_6 k_989 zn_X7_worthiestSet ⟨rfl, rfl, Nat.le_of_ble_eq_true rfl, Nat.le_of_ble_eq_true rfl⟩ (Nat.le_of_ble_eq_true rfl) rfl (fun v10 m11 h12 ho13 => ?_)
    refine z_istore_n dX11_usedUp_23 (lv' := [(3, .int (mI v10)), (2, .int (mI v5)), (0, .ref (ad 0)), (1, .int (mI a0))]) (by decide) rfl ?_
    refine z_iload_n dX11_usedUp_24 3 rfl ?_
    refine z_if_ne dX11_usedUp_25 ha0 (tgt := 39) rfl (fun h14 => ?_) (fun h14 => ?_)
    · refine z_aload_n dX11_usedUp_28 2 rfl ?_
      refine z_getR dX11_usedUp_29 (k := 0) (j := 1) zc_X11 lx_0 rfl (by decide) k_195 ?_
      refine z_iload_n dX11_usedUp_32 0 rfl ?_
      refine z_callS1 dX11_usedUp_33 rfl (ct_X7_worthOf n v10 m11 h12) k_999 k_991 k_6 k_992 zn_X7_worthOf ⟨rfl, rfl, Nat.le_of_ble_eq_true rfl, Nat.le_of_ble_eq_true rfl⟩ (Nat.le_of_ble_eq_true rfl) rfl (fun v15 m16 h17 ho18 => ?_)
      refine z_goto dX11_usedUp_36 (tgt := 40) rfl ?_
      exact z_iret dX11_usedUp_40 rfl rfl h17
    · refine z_iload_n dX11_usedUp_39 0 rfl ?_
      exact z_iret dX11_usedUp_40 rfl rfl h12
  · refine z_iload_n dX11_usedUp_14 0 rfl ?_
    exact z_iret dX11_usedUp_15 rfl rfl h7
set_option maxRecDepth 20000 in
theorem T_X11_fair_26 {ad sc sv : Nat → Nat} (n : Nat) : ∀ (x1 : Int) (s0 : Int) (m : ZMem), R32 x1 → R32 s0 → zG LX ad sc sv M_X11_fair 26 [(0, .ref (ad 0)), (1, .int (mI x1))] [.int (mI s0)] m (B_X11_fair_26 n x1 s0 m) := by
  intro x1 s0 m hx1 hs0
  unfold B_X11_fair_26
  refine z_istore_n dX11_fair_26 (lv' := [(2, .int (mI s0)), (0, .ref (ad 0)), (1, .int (mI x1))]) (by decide) rfl ?_
  refine z_aload_n dX11_fair_27 1 rfl ?_
  refine z_iload_n dX11_fair_28 2 rfl ?_
  refine z_iconst dX11_fair_29 ?_
  refine z_callS1 dX11_fair_30 rfl (ct_X11_noChoice n x1 1 m hx1 (by decide)) k_446 k_447 k_1 k_448 zn_X11_noChoice ⟨rfl, rfl, Nat.le_of_ble_eq_true rfl, Nat.le_of_ble_eq_true rfl⟩ (Nat.le_of_ble_eq_true rfl) rfl (fun v11 m12 h13 ho14 => ?_)
  refine z_iload_n dX11_fair_33 0 rfl ?_
  refine z_if_eq dX11_fair_34 hs0 (tgt := 41) rfl (fun h15 => ?_) (fun h15 => ?_)
  · refine z_bipush dX11_fair_41 (x := (-3)) (by decide +kernel) ?_
    refine z_callV1 dX11_fair_43 rfl (ct_X11_refused_ n v11 (-3) m12 h13 (by decide)) zc_X11 lx_0 k_255 k_257 kp_0 k_1 k_258 zn_X11_refused_ ⟨rfl, rfl, Nat.le_of_ble_eq_true rfl, Nat.le_of_ble_eq_true rfl⟩ (Nat.le_of_ble_eq_true rfl) rfl (fun v16 m17 h18 ho19 => ?_)
    refine z_istore_n dX11_fair_46 (lv' := [(3, .int (mI v16)), (2, .int (mI s0)), (0, .ref (ad 0)), (1, .int (mI x1))]) (by decide) rfl ?_
    refine z_iload_n dX11_fair_47 0 rfl ?_
    refine z_if_eq dX11_fair_48 h18 (tgt := 53) rfl (fun h20 => ?_) (fun h20 => ?_)
    · refine z_aload_n dX11_fair_53 2 rfl ?_
      refine z_getR dX11_fair_54 (k := 5) (j := 45) zc_X11 lx_0 rfl (by decide) k_200 ?_
      refine z_callS1 dX11_fair_57 rfl (ct_X4_groupOfFirst n m17) k_1008 k_1009 k_9 k_1010 zn_X4_groupOfFirst ⟨rfl, rfl, Nat.le_of_ble_eq_true rfl, Nat.le_of_ble_eq_true rfl⟩ (Nat.le_of_ble_eq_true rfl) rfl (fun v21 m22 h23 ho24 => ?_)
      refine z_istore dX11_fair_60 (lv' := [(4, .int (mI v21)), (3, .int (mI v16)), (2, .int (mI s0)), (0, .ref (ad 0)), (1, .int (mI x1))]) (by decide) rfl ?_
      refine z_iload_n dX11_fair_62 4 rfl ?_
      refine z_if_ne dX11_fair_63 hx1 (tgt := 71) rfl (fun h25 => ?_) (fun h25 => ?_)
      · refine z_iload dX11_fair_66 0 rfl ?_
        refine z_goto dX11_fair_68 (tgt := 80) rfl ?_
        exact z_iret dX11_fair_80 rfl rfl h23
      · refine z_aload_n dX11_fair_71 3 rfl ?_
        refine z_getR dX11_fair_72 (k := 5) (j := 45) zc_X11 lx_0 rfl (by decide) k_200 ?_
        refine z_iload dX11_fair_75 0 rfl ?_
        refine z_callS1 dX11_fair_77 rfl (ct_X4_groupsApart n v21 m22 h23) k_1015 k_1012 k_9 k_1013 zn_X4_groupsApart ⟨rfl, rfl, Nat.le_of_ble_eq_true rfl, Nat.le_of_ble_eq_true rfl⟩ (Nat.le_of_ble_eq_true rfl) rfl (fun v26 m27 h28 ho29 => ?_)
        exact z_iret dX11_fair_80 rfl rfl h28
    · refine z_iload_n dX11_fair_51 0 rfl ?_
      exact z_iret dX11_fair_52 rfl rfl h18
  · refine z_iconst dX11_fair_37 ?_
    refine z_goto dX11_fair_38 (tgt := 43) rfl ?_
    refine z_callV1 dX11_fair_43 rfl (ct_X11_refused_ n v11 0 m12 h13 (by decide)) zc_X11 lx_0 k_255 k_257 kp_0 k_1 k_258 zn_X11_refused_ ⟨rfl, rfl, Nat.le_of_ble_eq_true rfl, Nat.le_of_ble_eq_true rfl⟩ (Nat.le_of_ble_eq_true rfl) rfl (fun v30 m31 h32 ho33 => ?_)
    refine z_istore_n dX11_fair_46 (lv' := [(3, .int (mI v30)), (2, .int (mI s0)), (0, .ref (ad 0)), (1, .int (mI x1))]) (by decide) rfl ?_
    refine z_iload_n dX11_fair_47 0 rfl ?_
    refine z_if_eq dX11_fair_48 h32 (tgt := 53) rfl (fun h34 => ?_) (fun h34 => ?_)
    · refine z_aload_n dX11_fair_53 2 rfl ?_
      refine z_getR dX11_fair_54 (k := 5) (j := 45) zc_X11 lx_0 rfl (by decide) k_200 ?_
      refine z_callS1 dX11_fair_57 rfl (ct_X4_groupOfFirst n m31) k_1008 k_1009 k_9 k_1010 zn_X4_groupOfFirst ⟨rfl, rfl, Nat.le_of_ble_eq_true rfl, Nat.le_of_ble_eq_true rfl⟩ (Nat.le_of_ble_eq_true rfl) rfl (fun v35 m36 h37 ho38 => ?_)
      refine z_istore dX11_fair_60 (lv' := [(4, .int (mI v35)), (3, .int (mI v30)), (2, .int (mI s0)), (0, .ref (ad 0)), (1, .int (mI x1))]) (by decide) rfl ?_
      refine z_iload_n dX11_fair_62 4 rfl ?_
      refine z_if_ne dX11_fair_63 hx1 (tgt := 71) rfl (fun h39 => ?_) (fun h39 => ?_)
      · refine z_iload dX11_fair_66 0 rfl ?_
        refine z_goto dX11_fair_68 (tgt := 80) rfl ?_
        exact z_iret dX11_fair_80 rfl rfl h37
      · refine z_aload_n dX11_fair_71 3 rfl ?_
        refine z_getR dX11_fair_72 (k := 5) (j := 45) zc_X11 lx_0 rfl (by decide) k_200 ?_
        refine z_iload dX11_fair_75 0 rfl ?_
        refine z_callS1 dX11_fair_77 rfl (ct_X4_groupsApart n v35 m36 h37) k_1015 k_1012 k_9 k_1013 zn_X4_groupsApart ⟨rfl, rfl, Nat.le_of_ble_eq_true rfl, Nat.le_of_ble_eq_true rfl⟩ (Nat.le_of_ble_eq_true rfl) rfl (fun v40 m41 h42 ho43 => ?_)
        exact z_iret dX11_fair_80 rfl rfl h42
    · refine z_iload_n dX11_fair_51 0 rfl ?_
      exact z_iret dX11_fair_52 rfl rfl h32
set_option maxRecDepth 20000 in
theorem ct_X11_fair {ad sc sv : Nat → Nat} (n : Nat) (a0 : Int) (m : ZMem) (ha0 : R32 a0) : zCT LX ad sc sv M_X11_fair yX11_fair [.ref (ad 0), .int (mI a0)] m (F_X11_fair n a0 m) := by
  refine zCT_of (lv := [(0, .ref (ad 0)), (1, .int (mI a0))]) (by decide) rfl (Nat.le_of_ble_eq_true rfl) rfl ?_
  unfold F_X11_fair
  refine z_aload_n dX11_fair_0 0 rfl ?_
  refine z_getR dX11_fair_1 (k := 5) (j := 45) zc_X11 lx_0 rfl (by decide) k_200 ?_
  refine z_callV1 dX11_fair_4 rfl (ct_X9_size n 45 zt_45 m) zc_X9 lx_45 k_275 k_276 k_277 k_3 k_278 zn_X9_size ⟨rfl, rfl, Nat.le_of_ble_eq_true rfl, Nat.le_of_ble_eq_true rfl⟩ (Nat.le_of_ble_eq_true rfl) rfl (fun v1 m2 h3 ho4 => ?_)
  refine z_if_le dX11_fair_7 h3 (tgt := 25) rfl (fun h5 => ?_) (fun h5 => ?_)
  · refine z_iconst dX11_fair_25 ?_
    exact zG_lvk (T_X11_fair_26 n a0 0 m2 ha0 (by decide)) [0, 1] rfl
  · refine z_aload_n dX11_fair_10 0 rfl ?_
    refine z_getR dX11_fair_11 (k := 5) (j := 45) zc_X11 lx_0 rfl (by decide) k_200 ?_
    refine z_iconst dX11_fair_14 ?_
    refine z_callV4 dX11_fair_15 rfl (ct_X9_holds n 45 zt_45 0 m2 (by decide)) zc_X9 lx_45 k_1004 k_1005 k_1006 k_3 k_1007 zn_X9_holds ⟨rfl, rfl, Nat.le_of_ble_eq_true rfl, Nat.le_of_ble_eq_true rfl⟩ (Nat.le_of_ble_eq_true rfl) rfl (fun v6 m7 h8 ho9 => ?_)
    refine z_if_ne dX11_fair_18 (zb01 h8) (tgt := 25) rfl (fun h10 => ?_) (fun h10 => ?_)
    · refine z_iconst dX11_fair_21 ?_
      refine z_goto dX11_fair_22 (tgt := 26) rfl ?_
      exact zG_lvk (T_X11_fair_26 n a0 1 m7 ha0 (by decide)) [0, 1] rfl
    · refine z_iconst dX11_fair_25 ?_
      exact zG_lvk (T_X11_fair_26 n a0 0 m7 ha0 (by decide)) [0, 1] rfl
set_option maxRecDepth 20000 in
theorem ct_X11_image {ad sc sv : Nat → Nat} (n : Nat) (m : ZMem) : zCT LX ad sc sv M_X11_image yX11_image [.ref (ad 0)] m (F_X11_image n m) := by
  refine zCT_of (lv := [(0, .ref (ad 0))]) (by decide) rfl (Nat.le_of_ble_eq_true rfl) rfl ?_
  unfold F_X11_image
  refine z_aload_n dX11_image_0 0 rfl ?_
  refine z_getR dX11_image_1 (k := 1) (j := 14) zc_X11 lx_0 rfl (by decide) k_196 ?_
  refine z_aload_n dX11_image_4 0 rfl ?_
  refine z_getR dX11_image_5 (k := 0) (j := 1) zc_X11 lx_0 rfl (by decide) k_195 ?_
  refine z_callV0 dX11_image_8 rfl (ct_X3_copyFrom n 14 1 zk_14 zk_1 m) zc_X3 lx_14 k_283 k_284 k_285 k_2 k_286 zn_X3_copyFrom ⟨rfl, rfl, Nat.le_of_ble_eq_true rfl, Nat.le_of_ble_eq_true rfl⟩ (Nat.le_of_ble_eq_true rfl) rfl (fun v1 m2 ho4 => ?_)
  refine z_aload_n dX11_image_11 0 rfl ?_
  refine z_iconst dX11_image_12 ?_
  refine z_putZ dX11_image_13 (k := 3) zc_X11 lx_0 rfl (by decide) rfl rfl (by decide) k_198 ?_
  refine z_aload_n dX11_image_16 0 rfl ?_
  refine z_getR dX11_image_17 (k := 0) (j := 1) zc_X11 lx_0 rfl (by decide) k_195 ?_
  refine z_getI dX11_image_20 (k := 1) zc_X3 lx_1 rfl (by decide) k_74 (fun h5 => ?_)
  exact z_iret dX11_image_23 rfl rfl h5
set_option maxRecDepth 20000 in
theorem ct_X11_restore {ad sc sv : Nat → Nat} (n : Nat) (m : ZMem) : zCT LX ad sc sv M_X11_restore yX11_restore [.ref (ad 0)] m (F_X11_restore n m) := by
  refine zCT_of (lv := [(0, .ref (ad 0))]) (by decide) rfl (Nat.le_of_ble_eq_true rfl) rfl ?_
  unfold F_X11_restore
  refine z_aload_n dX11_restore_0 0 rfl ?_
  refine z_aload_n dX11_restore_1 0 rfl ?_
  refine z_getI dX11_restore_2 (k := 3) zc_X11 lx_0 rfl (by decide) k_198 (fun h1 => ?_)
  refine z_if_eq dX11_restore_5 h1 (tgt := 12) rfl (fun h2 => ?_) (fun h2 => ?_)
  · refine z_bipush dX11_restore_12 (x := (-3)) (by decide +kernel) ?_
    refine z_callV1 dX11_restore_14 rfl (ct_X11_refused__ n (-3) m (by decide)) zc_X11 lx_0 k_477 k_479 kp_19 k_1 k_480 zn_X11_refused__ ⟨rfl, rfl, Nat.le_of_ble_eq_true rfl, Nat.le_of_ble_eq_true rfl⟩ (Nat.le_of_ble_eq_true rfl) rfl (fun v3 m4 h5 ho6 => ?_)
    refine z_istore_n dX11_restore_17 (lv' := [(1, .int (mI v3)), (0, .ref (ad 0))]) (by decide) rfl ?_
    refine z_iload_n dX11_restore_18 0 rfl ?_
    refine z_if_eq dX11_restore_19 h5 (tgt := 24) rfl (fun h7 => ?_) (fun h7 => ?_)
    · refine z_aload_n dX11_restore_24 1 rfl ?_
      refine z_getR dX11_restore_25 (k := 0) (j := 1) zc_X11 lx_0 rfl (by decide) k_195 ?_
      refine z_aload_n dX11_restore_28 1 rfl ?_
      refine z_getR dX11_restore_29 (k := 1) (j := 14) zc_X11 lx_0 rfl (by decide) k_196 ?_
      refine z_callV0 dX11_restore_32 rfl (ct_X3_copyFrom n 1 14 zk_1 zk_14 m4) zc_X3 lx_1 k_283 k_284 k_285 k_2 k_286 zn_X3_copyFrom ⟨rfl, rfl, Nat.le_of_ble_eq_true rfl, Nat.le_of_ble_eq_true rfl⟩ (Nat.le_of_ble_eq_true rfl) rfl (fun v8 m9 ho11 => ?_)
      refine z_aload_n dX11_restore_35 1 rfl ?_
      refine z_getR dX11_restore_36 (k := 6) (j := 47) zc_X11 lx_0 rfl (by decide) k_201 ?_
      refine z_iconst dX11_restore_39 ?_
      refine z_iconst dX11_restore_40 ?_
      refine z_callV0 dX11_restore_41 rfl (ct_X9_reset n 47 zt_47 0 0 m9 (by decide) (by decide)) zc_X9 lx_47 k_194 k_58 k_59 k_3 k_60 zn_X9_reset ⟨rfl, rfl, Nat.le_of_ble_eq_true rfl, Nat.le_of_ble_eq_true rfl⟩ (Nat.le_of_ble_eq_true rfl) rfl (fun v12 m13 ho15 => ?_)
      refine z_aload_n dX11_restore_44 1 rfl ?_
      refine z_getR dX11_restore_45 (k := 0) (j := 1) zc_X11 lx_0 rfl (by decide) k_195 ?_
      refine z_getI dX11_restore_48 (k := 1) zc_X3 lx_1 rfl (by decide) k_74 (fun h16 => ?_)
      exact z_iret dX11_restore_51 rfl rfl h16
    · refine z_iload_n dX11_restore_22 0 rfl ?_
      exact z_iret dX11_restore_23 rfl rfl h5
  · refine z_iconst dX11_restore_8 ?_
    refine z_goto dX11_restore_9 (tgt := 14) rfl ?_
    refine z_callV1 dX11_restore_14 rfl (ct_X11_refused__ n 0 m (by decide)) zc_X11 lx_0 k_477 k_479 kp_19 k_1 k_480 zn_X11_refused__ ⟨rfl, rfl, Nat.le_of_ble_eq_true rfl, Nat.le_of_ble_eq_true rfl⟩ (Nat.le_of_ble_eq_true rfl) rfl (fun v17 m18 h19 ho20 => ?_)
    refine z_istore_n dX11_restore_17 (lv' := [(1, .int (mI v17)), (0, .ref (ad 0))]) (by decide) rfl ?_
    refine z_iload_n dX11_restore_18 0 rfl ?_
    refine z_if_eq dX11_restore_19 h19 (tgt := 24) rfl (fun h21 => ?_) (fun h21 => ?_)
    · refine z_aload_n dX11_restore_24 1 rfl ?_
      refine z_getR dX11_restore_25 (k := 0) (j := 1) zc_X11 lx_0 rfl (by decide) k_195 ?_
      refine z_aload_n dX11_restore_28 1 rfl ?_
      refine z_getR dX11_restore_29 (k := 1) (j := 14) zc_X11 lx_0 rfl (by decide) k_196 ?_
      refine z_callV0 dX11_restore_32 rfl (ct_X3_copyFrom n 1 14 zk_1 zk_14 m18) zc_X3 lx_1 k_283 k_284 k_285 k_2 k_286 zn_X3_copyFrom ⟨rfl, rfl, Nat.le_of_ble_eq_true rfl, Nat.le_of_ble_eq_true rfl⟩ (Nat.le_of_ble_eq_true rfl) rfl (fun v22 m23 ho25 => ?_)
      refine z_aload_n dX11_restore_35 1 rfl ?_
      refine z_getR dX11_restore_36 (k := 6) (j := 47) zc_X11 lx_0 rfl (by decide) k_201 ?_
      refine z_iconst dX11_restore_39 ?_
      refine z_iconst dX11_restore_40 ?_
      refine z_callV0 dX11_restore_41 rfl (ct_X9_reset n 47 zt_47 0 0 m23 (by decide) (by decide)) zc_X9 lx_47 k_194 k_58 k_59 k_3 k_60 zn_X9_reset ⟨rfl, rfl, Nat.le_of_ble_eq_true rfl, Nat.le_of_ble_eq_true rfl⟩ (Nat.le_of_ble_eq_true rfl) rfl (fun v26 m27 ho29 => ?_)
      refine z_aload_n dX11_restore_44 1 rfl ?_
      refine z_getR dX11_restore_45 (k := 0) (j := 1) zc_X11 lx_0 rfl (by decide) k_195 ?_
      refine z_getI dX11_restore_48 (k := 1) zc_X3 lx_1 rfl (by decide) k_74 (fun h30 => ?_)
      exact z_iret dX11_restore_51 rfl rfl h30
    · refine z_iload_n dX11_restore_22 0 rfl ?_
      exact z_iret dX11_restore_23 rfl rfl h19
set_option maxRecDepth 20000 in
theorem T_X11_count_53 {ad sc sv : Nat → Nat} (n : Nat) : ∀ (x1 : Int) (m : ZMem), R32 x1 → zG LX ad sc sv M_X11_count 53 [(0, .ref (ad 0)), (1, .int (mI x1))] [] m (B_X11_count_53 n x1 m) := by
  intro x1 m hx1
  unfold B_X11_count_53
  refine z_iload_n dX11_count_53 1 rfl ?_
  refine z_case (fun hc22 => ?_) (fun hc22 => ?_)
  · refine z_tsIn dX11_count_54 (cst := 0) hc22 (by decide) (by decide) rfl (tgt := 144) rfl ?_
    refine z_aload_n dX11_count_144 0 rfl ?_
    refine z_getR dX11_count_145 (k := 0) (j := 1) zc_X11 lx_0 rfl (by decide) k_195 ?_
    refine z_getR dX11_count_148 (k := 4) (j := 2) zc_X3 lx_1 rfl (by decide) k_84 ?_
    refine z_callV1 dX11_count_151 rfl (ct_X9_size n 2 zt_2 m) zc_X9 lx_2 k_275 k_276 k_277 k_3 k_278 zn_X9_size ⟨rfl, rfl, Nat.le_of_ble_eq_true rfl, Nat.le_of_ble_eq_true rfl⟩ (Nat.le_of_ble_eq_true rfl) rfl (fun v23 m24 h25 ho26 => ?_)
    exact z_iret dX11_count_154 rfl rfl h25
  · refine z_case (fun hc27 => ?_) (fun hc27 => ?_)
    · refine z_tsIn dX11_count_54 (cst := 1) hc27 (by decide) (by decide) rfl (tgt := 155) rfl ?_
      refine z_aload_n dX11_count_155 0 rfl ?_
      refine z_getR dX11_count_156 (k := 0) (j := 1) zc_X11 lx_0 rfl (by decide) k_195 ?_
      refine z_getI dX11_count_159 (k := 0) zc_X3 lx_1 rfl (by decide) k_67 (fun h28 => ?_)
      exact z_iret dX11_count_162 rfl rfl h28
    · refine z_case (fun hc29 => ?_) (fun hc29 => ?_)
      · refine z_tsIn dX11_count_54 (cst := 2) hc29 (by decide) (by decide) rfl (tgt := 163) rfl ?_
        refine z_aload_n dX11_count_163 0 rfl ?_
        refine z_getR dX11_count_164 (k := 0) (j := 1) zc_X11 lx_0 rfl (by decide) k_195 ?_
        refine z_getI dX11_count_167 (k := 1) zc_X3 lx_1 rfl (by decide) k_74 (fun h30 => ?_)
        exact z_iret dX11_count_170 rfl rfl h30
      · refine z_case (fun hc31 => ?_) (fun hc31 => ?_)
        · refine z_tsIn dX11_count_54 (cst := 3) hc31 (by decide) (by decide) rfl (tgt := 171) rfl ?_
          refine z_aload_n dX11_count_171 0 rfl ?_
          refine z_getR dX11_count_172 (k := 0) (j := 1) zc_X11 lx_0 rfl (by decide) k_195 ?_
          refine z_getR dX11_count_175 (k := 5) (j := 4) zc_X3 lx_1 rfl (by decide) k_88 ?_
          refine z_callV1 dX11_count_178 rfl (ct_X9_size n 4 zt_4 m) zc_X9 lx_4 k_275 k_276 k_277 k_3 k_278 zn_X9_size ⟨rfl, rfl, Nat.le_of_ble_eq_true rfl, Nat.le_of_ble_eq_true rfl⟩ (Nat.le_of_ble_eq_true rfl) rfl (fun v32 m33 h34 ho35 => ?_)
          exact z_iret dX11_count_181 rfl rfl h34
        · refine z_case (fun hc36 => ?_) (fun hc36 => ?_)
          · refine z_tsIn dX11_count_54 (cst := 4) hc36 (by decide) (by decide) rfl (tgt := 182) rfl ?_
            refine z_aload_n dX11_count_182 0 rfl ?_
            refine z_getR dX11_count_183 (k := 0) (j := 1) zc_X11 lx_0 rfl (by decide) k_195 ?_
            refine z_getR dX11_count_186 (k := 6) (j := 6) zc_X3 lx_1 rfl (by decide) k_92 ?_
            refine z_callV1 dX11_count_189 rfl (ct_X9_size n 6 zt_6 m) zc_X9 lx_6 k_275 k_276 k_277 k_3 k_278 zn_X9_size ⟨rfl, rfl, Nat.le_of_ble_eq_true rfl, Nat.le_of_ble_eq_true rfl⟩ (Nat.le_of_ble_eq_true rfl) rfl (fun v37 m38 h39 ho40 => ?_)
            exact z_iret dX11_count_192 rfl rfl h39
          · refine z_case (fun hc41 => ?_) (fun hc41 => ?_)
            · refine z_tsIn dX11_count_54 (cst := 5) hc41 (by decide) (by decide) rfl (tgt := 193) rfl ?_
              refine z_aload_n dX11_count_193 0 rfl ?_
              refine z_getR dX11_count_194 (k := 0) (j := 1) zc_X11 lx_0 rfl (by decide) k_195 ?_
              refine z_callV1 dX11_count_197 rfl (ct_X3_allHouse n m) zc_X3 lx_1 k_1028 k_1029 k_1030 k_2 k_1031 zn_X3_allHouse ⟨rfl, rfl, Nat.le_of_ble_eq_true rfl, Nat.le_of_ble_eq_true rfl⟩ (Nat.le_of_ble_eq_true rfl) rfl (fun v42 m43 h44 ho45 => ?_)
              exact z_iret dX11_count_200 rfl rfl h44
            · refine z_case (fun hc46 => ?_) (fun hc46 => ?_)
              · refine z_tsIn dX11_count_54 (cst := 6) hc46 (by decide) (by decide) rfl (tgt := 201) rfl ?_
                refine z_aload_n dX11_count_201 0 rfl ?_
                refine z_getR dX11_count_202 (k := 4) (j := 40) zc_X11 lx_0 rfl (by decide) k_199 ?_
                refine z_callV3 dX11_count_205 rfl (ct_X1_letters n m) zc_X1 lx_40 k_244 k_245 k_246 k_5 k_247 zn_X1_letters ⟨rfl, rfl, Nat.le_of_ble_eq_true rfl, Nat.le_of_ble_eq_true rfl⟩ (Nat.le_of_ble_eq_true rfl) rfl (fun v47 m48 ho50 => ?_)
                obtain ⟨rfl, -⟩ := zret_inj ho50
                show zG LX ad sc sv M_X11_count 208 _ (.ref (ad 41) :: _) _ _
                refine z_callV1 dX11_count_208 rfl (ct_X9_size n 41 zt_41 m48) zc_X9 lx_41 k_275 k_276 k_277 k_3 k_278 zn_X9_size ⟨rfl, rfl, Nat.le_of_ble_eq_true rfl, Nat.le_of_ble_eq_true rfl⟩ (Nat.le_of_ble_eq_true rfl) rfl (fun v51 m52 h53 ho54 => ?_)
                exact z_iret dX11_count_211 rfl rfl h53
              · refine z_case (fun hc55 => ?_) (fun hc55 => ?_)
                · refine z_tsIn dX11_count_54 (cst := 7) hc55 (by decide) (by decide) rfl (tgt := 212) rfl ?_
                  refine z_aload_n dX11_count_212 0 rfl ?_
                  refine z_getR dX11_count_213 (k := 5) (j := 45) zc_X11 lx_0 rfl (by decide) k_200 ?_
                  refine z_callV1 dX11_count_216 rfl (ct_X9_size n 45 zt_45 m) zc_X9 lx_45 k_275 k_276 k_277 k_3 k_278 zn_X9_size ⟨rfl, rfl, Nat.le_of_ble_eq_true rfl, Nat.le_of_ble_eq_true rfl⟩ (Nat.le_of_ble_eq_true rfl) rfl (fun v56 m57 h58 ho59 => ?_)
                  exact z_iret dX11_count_219 rfl rfl h58
                · refine z_case (fun hc60 => ?_) (fun hc60 => ?_)
                  · refine z_tsIn dX11_count_54 (cst := 8) hc60 (by decide) (by decide) rfl (tgt := 220) rfl ?_
                    refine z_aload_n dX11_count_220 0 rfl ?_
                    refine z_getR dX11_count_221 (k := 0) (j := 1) zc_X11 lx_0 rfl (by decide) k_195 ?_
                    refine z_getI dX11_count_224 (k := 2) zc_X3 lx_1 rfl (by decide) k_76 (fun h61 => ?_)
                    exact z_iret dX11_count_227 rfl rfl h61
                  · refine z_case (fun hc62 => ?_) (fun hc62 => ?_)
                    · refine z_tsIn dX11_count_54 (cst := 9) hc62 (by decide) (by decide) rfl (tgt := 228) rfl ?_
                      refine z_aload_n dX11_count_228 0 rfl ?_
                      refine z_getR dX11_count_229 (k := 0) (j := 1) zc_X11 lx_0 rfl (by decide) k_195 ?_
                      refine z_getI dX11_count_232 (k := 3) zc_X3 lx_1 rfl (by decide) k_79 (fun h63 => ?_)
                      exact z_iret dX11_count_235 rfl rfl h63
                    · refine z_case (fun hc64 => ?_) (fun hc64 => ?_)
                      · refine z_tsIn dX11_count_54 (cst := 10) hc64 (by decide) (by decide) rfl (tgt := 236) rfl ?_
                        refine z_aload_n dX11_count_236 0 rfl ?_
                        refine z_getR dX11_count_237 (k := 0) (j := 1) zc_X11 lx_0 rfl (by decide) k_195 ?_
                        refine z_getR dX11_count_240 (k := 8) (j := 10) zc_X3 lx_1 rfl (by decide) k_98 ?_
                        refine z_callV1 dX11_count_243 rfl (ct_X9_size n 10 zt_10 m) zc_X9 lx_10 k_275 k_276 k_277 k_3 k_278 zn_X9_size ⟨rfl, rfl, Nat.le_of_ble_eq_true rfl, Nat.le_of_ble_eq_true rfl⟩ (Nat.le_of_ble_eq_true rfl) rfl (fun v65 m66 h67 ho68 => ?_)
                        exact z_iret dX11_count_246 rfl rfl h67
                      · refine z_case (fun hc69 => ?_) (fun hc69 => ?_)
                        · refine z_tsIn dX11_count_54 (cst := 11) hc69 (by decide) (by decide) rfl (tgt := 266) rfl ?_
                          refine z_bipush dX11_count_266 (x := (-9)) (by decide +kernel) ?_
                          exact z_iret dX11_count_268 rfl rfl (by decide)
                        · refine z_case (fun hc70 => ?_) (fun hc70 => ?_)
                          · refine z_tsIn dX11_count_54 (cst := 12) hc70 (by decide) (by decide) rfl (tgt := 266) rfl ?_
                            refine z_bipush dX11_count_266 (x := (-9)) (by decide +kernel) ?_
                            exact z_iret dX11_count_268 rfl rfl (by decide)
                          · refine z_case (fun hc71 => ?_) (fun hc71 => ?_)
                            · refine z_tsIn dX11_count_54 (cst := 13) hc71 (by decide) (by decide) rfl (tgt := 266) rfl ?_
                              refine z_bipush dX11_count_266 (x := (-9)) (by decide +kernel) ?_
                              exact z_iret dX11_count_268 rfl rfl (by decide)
                            · refine z_case (fun hc72 => ?_) (fun hc72 => ?_)
                              · refine z_tsIn dX11_count_54 (cst := 14) hc72 (by decide) (by decide) rfl (tgt := 266) rfl ?_
                                refine z_bipush dX11_count_266 (x := (-9)) (by decide +kernel) ?_
                                exact z_iret dX11_count_268 rfl rfl (by decide)
                              · refine z_case (fun hc73 => ?_) (fun hc73 => ?_)
                                · refine z_tsIn dX11_count_54 (cst := 15) hc73 (by decide) (by decide) rfl (tgt := 266) rfl ?_
                                  refine z_bipush dX11_count_266 (x := (-9)) (by decide +kernel) ?_
                                  exact z_iret dX11_count_268 rfl rfl (by decide)
                                · refine z_case (fun hc74 => ?_) (fun hc74 => ?_)
                                  · refine z_tsIn dX11_count_54 (cst := 16) hc74 (by decide) (by decide) rfl (tgt := 266) rfl ?_
                                    refine z_bipush dX11_count_266 (x := (-9)) (by decide +kernel) ?_
                                    exact z_iret dX11_count_268 rfl rfl (by decide)
                                  · refine z_case (fun hc75 => ?_) (fun hc75 => ?_)
                                    · refine z_tsIn dX11_count_54 (cst := 17) hc75 (by decide) (by decide) rfl (tgt := 247) rfl ?_
                                      refine z_aload_n dX11_count_247 0 rfl ?_
                                      refine z_getR dX11_count_248 (k := 6) (j := 47) zc_X11 lx_0 rfl (by decide) k_201 ?_
                                      refine z_callV1 dX11_count_251 rfl (ct_X9_size n 47 zt_47 m) zc_X9 lx_47 k_275 k_276 k_277 k_3 k_278 zn_X9_size ⟨rfl, rfl, Nat.le_of_ble_eq_true rfl, Nat.le_of_ble_eq_true rfl⟩ (Nat.le_of_ble_eq_true rfl) rfl (fun v76 m77 h78 ho79 => ?_)
                                      exact z_iret dX11_count_254 rfl rfl h78
                                    · refine z_case (fun hc80 => ?_) (fun hc80 => ?_)
                                      · refine z_tsIn dX11_count_54 (cst := 18) hc80 (by decide) (by decide) rfl (tgt := 255) rfl ?_
                                        refine z_aload_n dX11_count_255 0 rfl ?_
                                        refine z_getR dX11_count_256 (k := 0) (j := 1) zc_X11 lx_0 rfl (by decide) k_195 ?_
                                        refine z_getR dX11_count_259 (k := 9) (j := 12) zc_X3 lx_1 rfl (by decide) k_101 ?_
                                        refine z_callV1 dX11_count_262 rfl (ct_X9_size n 12 zt_12 m) zc_X9 lx_12 k_275 k_276 k_277 k_3 k_278 zn_X9_size ⟨rfl, rfl, Nat.le_of_ble_eq_true rfl, Nat.le_of_ble_eq_true rfl⟩ (Nat.le_of_ble_eq_true rfl) rfl (fun v81 m82 h83 ho84 => ?_)
                                        exact z_iret dX11_count_265 rfl rfl h83
                                      · refine z_tsOut dX11_count_54 hx1 (by omega) (tgt := 266) rfl ?_
                                        refine z_bipush dX11_count_266 (x := (-9)) (by decide +kernel) ?_
                                        exact z_iret dX11_count_268 rfl rfl (by decide)
set_option maxRecDepth 20000 in
theorem ct_X11_count {ad sc sv : Nat → Nat} (n : Nat) (a0 : Int) (m : ZMem) (ha0 : R32 a0) : zCT LX ad sc sv M_X11_count yX11_count [.ref (ad 0), .int (mI a0)] m (F_X11_count n a0 m) := by
  refine zCT_of (lv := [(0, .ref (ad 0)), (1, .int (mI a0))]) (by decide) rfl (Nat.le_of_ble_eq_true rfl) rfl ?_
  unfold F_X11_count
  refine z_iload_n dX11_count_0 1 rfl ?_
  refine z_bipush dX11_count_1 (x := 11) (by decide +kernel) ?_
  refine z_icmp_lt dX11_count_3 ha0 (by decide) (tgt := 25) rfl (fun h1 => ?_) (fun h1 => ?_)
  · refine z_iload_n dX11_count_25 1 rfl ?_
    refine z_bipush dX11_count_26 (x := 20) (by decide +kernel) ?_
    refine z_icmp_lt dX11_count_28 ha0 (by decide) (tgt := 53) rfl (fun h2 => ?_) (fun h2 => ?_)
    · exact zG_lvk (T_X11_count_53 n a0 m ha0) [0, 1] rfl
    · refine z_iload_n dX11_count_31 1 rfl ?_
      refine z_bipush dX11_count_32 (x := 22) (by decide +kernel) ?_
      refine z_icmp_gt dX11_count_34 ha0 (by decide) (tgt := 53) rfl (fun h3 => ?_) (fun h3 => ?_)
      · exact zG_lvk (T_X11_count_53 n a0 m ha0) [0, 1] rfl
      · refine z_aload_n dX11_count_37 0 rfl ?_
        refine z_getR dX11_count_38 (k := 0) (j := 1) zc_X11 lx_0 rfl (by decide) k_195 ?_
        refine z_getR dX11_count_41 (k := 7) (j := 8) zc_X3 lx_1 rfl (by decide) k_95 ?_
        refine z_iload_n dX11_count_44 1 rfl ?_
        refine z_bipush dX11_count_45 (x := 20) (by decide +kernel) ?_
        refine z_isub dX11_count_47 (fun h4 => ?_)
        refine z_iconst dX11_count_48 ?_
        refine z_callV1 dX11_count_49 rfl (ct_X9_at n 8 zt_8 (a0 - 20) 0 m h4 (by decide)) zc_X9 lx_8 k_263 k_264 k_265 k_3 k_266 zn_X9_at ⟨rfl, rfl, Nat.le_of_ble_eq_true rfl, Nat.le_of_ble_eq_true rfl⟩ (Nat.le_of_ble_eq_true rfl) rfl (fun v5 m6 h7 ho8 => ?_)
        exact z_iret dX11_count_52 rfl rfl h7
  · refine z_iload_n dX11_count_6 1 rfl ?_
    refine z_bipush dX11_count_7 (x := 16) (by decide +kernel) ?_
    refine z_icmp_gt dX11_count_9 ha0 (by decide) (tgt := 25) rfl (fun h9 => ?_) (fun h9 => ?_)
    · refine z_iload_n dX11_count_25 1 rfl ?_
      refine z_bipush dX11_count_26 (x := 20) (by decide +kernel) ?_
      refine z_icmp_lt dX11_count_28 ha0 (by decide) (tgt := 53) rfl (fun h10 => ?_) (fun h10 => ?_)
      · exact zG_lvk (T_X11_count_53 n a0 m ha0) [0, 1] rfl
      · refine z_iload_n dX11_count_31 1 rfl ?_
        refine z_bipush dX11_count_32 (x := 22) (by decide +kernel) ?_
        refine z_icmp_gt dX11_count_34 ha0 (by decide) (tgt := 53) rfl (fun h11 => ?_) (fun h11 => ?_)
        · exact zG_lvk (T_X11_count_53 n a0 m ha0) [0, 1] rfl
        · refine z_aload_n dX11_count_37 0 rfl ?_
          refine z_getR dX11_count_38 (k := 0) (j := 1) zc_X11 lx_0 rfl (by decide) k_195 ?_
          refine z_getR dX11_count_41 (k := 7) (j := 8) zc_X3 lx_1 rfl (by decide) k_95 ?_
          refine z_iload_n dX11_count_44 1 rfl ?_
          refine z_bipush dX11_count_45 (x := 20) (by decide +kernel) ?_
          refine z_isub dX11_count_47 (fun h12 => ?_)
          refine z_iconst dX11_count_48 ?_
          refine z_callV1 dX11_count_49 rfl (ct_X9_at n 8 zt_8 (a0 - 20) 0 m h12 (by decide)) zc_X9 lx_8 k_263 k_264 k_265 k_3 k_266 zn_X9_at ⟨rfl, rfl, Nat.le_of_ble_eq_true rfl, Nat.le_of_ble_eq_true rfl⟩ (Nat.le_of_ble_eq_true rfl) rfl (fun v13 m14 h15 ho16 => ?_)
          exact z_iret dX11_count_52 rfl rfl h15
    · refine z_aload_n dX11_count_12 0 rfl ?_
      refine z_getR dX11_count_13 (k := 7) (j := 49) zc_X11 lx_0 rfl (by decide) k_202 ?_
      refine z_iload_n dX11_count_16 1 rfl ?_
      refine z_bipush dX11_count_17 (x := 10) (by decide +kernel) ?_
      refine z_isub dX11_count_19 (fun h17 => ?_)
      refine z_iconst dX11_count_20 ?_
      refine z_callV1 dX11_count_21 rfl (ct_X9_at n 49 zt_49 (a0 - 10) 0 m h17 (by decide)) zc_X9 lx_49 k_263 k_264 k_265 k_3 k_266 zn_X9_at ⟨rfl, rfl, Nat.le_of_ble_eq_true rfl, Nat.le_of_ble_eq_true rfl⟩ (Nat.le_of_ble_eq_true rfl) rfl (fun v18 m19 h20 ho21 => ?_)
      exact z_iret dX11_count_24 rfl rfl h20
set_option maxRecDepth 20000 in
theorem ct_X12_in {ad sc sv : Nat → Nat} (n : Nat) (a0 : Int) (a1 : Int) (a2 : Int) (m : ZMem) (ha0 : R64 a0) (ha1 : R64 a1) (ha2 : R64 a2) : zCT LM ad sc sv M_X12_in yX12_in [.long (mL a0), .long (mL a1), .long (mL a2)] m (F_X12_in n a0 a1 a2 m) := by
  refine zCT_of (lv := [(0, .long (mL a0)), (2, .long (mL a1)), (4, .long (mL a2))]) (by decide) rfl (Nat.le_of_ble_eq_true rfl) rfl ?_
  unfold F_X12_in
  refine z_lload_n dX12_in_0 0 rfl ?_
  refine z_lload_n dX12_in_1 1 rfl ?_
  refine z_lcmp dX12_in_2 ha0 ha1 (fun h1 => ?_)
  refine z_if_lt dX12_in_3 h1 (tgt := 17) rfl (fun h2 => ?_) (fun h2 => ?_)
  · refine z_iconst dX12_in_17 ?_
    exact z_zret dX12_in_18 rfl rfl (by decide)
  · refine z_lload_n dX12_in_6 0 rfl ?_
    refine z_lload dX12_in_7 2 rfl ?_
    refine z_lcmp dX12_in_9 ha0 ha2 (fun h3 => ?_)
    refine z_if_gt dX12_in_10 h3 (tgt := 17) rfl (fun h4 => ?_) (fun h4 => ?_)
    · refine z_iconst dX12_in_17 ?_
      exact z_zret dX12_in_18 rfl rfl (by decide)
    · refine z_iconst dX12_in_13 ?_
      refine z_goto dX12_in_14 (tgt := 18) rfl ?_
      exact z_zret dX12_in_18 rfl rfl (by decide)
set_option maxRecDepth 20000 in
theorem ct_X12_refuse {ad sc sv : Nat → Nat} (n : Nat) (a0 : Int) (m : ZMem) (ha0 : R32 a0) : zCT LM ad sc sv M_X12_refuse yX12_refuse [.ref (ad 0), .int (mI a0)] m (F_X12_refuse n a0 m) := by
  refine zCT_of (lv := [(0, .ref (ad 0)), (1, .int (mI a0))]) (by decide) rfl (Nat.le_of_ble_eq_true rfl) rfl ?_
  unfold F_X12_refuse
  refine z_aload_n dX12_refuse_0 0 rfl ?_
  refine z_getR dX12_refuse_1 (k := 17) (j := 10) zc_X12 lm_0 rfl (by decide) k_1055 ?_
  refine z_iload_n dX12_refuse_4 1 rfl ?_
  refine z_ineg dX12_refuse_5 (fun h1 => ?_)
  refine z_dup2 dX12_refuse_6 rfl rfl ?_
  refine z_iaload dX12_refuse_7 h1 (fun h2 => ?_)
  refine z_iconst dX12_refuse_8 ?_
  refine z_iadd dX12_refuse_9 (fun h3 => ?_)
  refine z_iastore dX12_refuse_10 h1 h3 ?_
  refine z_iload_n dX12_refuse_11 1 rfl ?_
  exact z_iret dX12_refuse_12 rfl rfl ha0
set_option maxRecDepth 20000 in
theorem ct_X12_isPart {ad sc sv : Nat → Nat} (n : Nat) (a0 : Int) (m : ZMem) (ha0 : R32 a0) : zCT LM ad sc sv M_X12_isPart yX12_isPart [.ref (ad 0), .int (mI a0)] m (F_X12_isPart n a0 m) := by
  refine zCT_of (lv := [(0, .ref (ad 0)), (1, .int (mI a0))]) (by decide) rfl (Nat.le_of_ble_eq_true rfl) rfl ?_
  unfold F_X12_isPart
  refine z_iload_n dX12_isPart_0 1 rfl ?_
  refine z_i2l dX12_isPart_1 ha0 (fun h1 => ?_)
  refine z_lconst dX12_isPart_2 (x := 0) (by decide +kernel) ?_
  refine z_aload_n dX12_isPart_3 0 rfl ?_
  refine z_getI dX12_isPart_4 (k := 2) zc_X12 lm_0 rfl (by decide) k_1040 (fun h2 => ?_)
  refine z_iconst dX12_isPart_7 ?_
  refine z_isub dX12_isPart_8 (fun h3 => ?_)
  refine z_i2l dX12_isPart_9 h3 (fun h4 => ?_)
  refine z_callS4 dX12_isPart_10 rfl (ct_X12_in n a0 0 ((m 0 2) - 1) m h1 (by decide) h4) k_1220 k_1221 k_10 k_1222 zn_X12_in ⟨rfl, rfl, Nat.le_of_ble_eq_true rfl, Nat.le_of_ble_eq_true rfl⟩ (Nat.le_of_ble_eq_true rfl) rfl (fun v5 m6 h7 ho8 => ?_)
  exact z_zret dX12_isPart_13 rfl rfl h7
set_option maxRecDepth 20000 in
theorem ct_X12_wrongNumber {ad sc sv : Nat → Nat} (n : Nat) (a0 : Int) (a1 : Int) (a2 : Int) (m : ZMem) (ha0 : R32 a0) (ha1 : R32 a1) (ha2 : R32 a2) : zCT LM ad sc sv M_X12_wrongNumber yX12_wrongNumber [.int (mI a0), .int (mI a1), .int (mI a2)] m (F_X12_wrongNumber n a0 a1 a2 m) := by
  refine zCT_of (lv := [(0, .int (mI a0)), (1, .int (mI a1)), (2, .int (mI a2))]) (by decide) rfl (Nat.le_of_ble_eq_true rfl) rfl ?_
  unfold F_X12_wrongNumber
  refine z_iload_n dX12_wrongNumber_0 0 rfl ?_
  refine z_iload_n dX12_wrongNumber_1 1 rfl ?_
  refine z_icmp_ge dX12_wrongNumber_2 ha0 ha1 (tgt := 10) rfl (fun h1 => ?_) (fun h1 => ?_)
  · refine z_iload_n dX12_wrongNumber_10 0 rfl ?_
    refine z_iload_n dX12_wrongNumber_11 2 rfl ?_
    refine z_icmp_le dX12_wrongNumber_12 ha0 ha2 (tgt := 20) rfl (fun h2 => ?_) (fun h2 => ?_)
    · refine z_iconst dX12_wrongNumber_20 ?_
      exact z_iret dX12_wrongNumber_21 rfl rfl (by decide)
    · refine z_bipush dX12_wrongNumber_15 (x := (-6)) (by decide +kernel) ?_
      refine z_goto dX12_wrongNumber_17 (tgt := 21) rfl ?_
      exact z_iret dX12_wrongNumber_21 rfl rfl (by decide)
  · refine z_bipush dX12_wrongNumber_5 (x := (-4)) (by decide +kernel) ?_
    refine z_goto dX12_wrongNumber_7 (tgt := 21) rfl ?_
    exact z_iret dX12_wrongNumber_21 rfl rfl (by decide)
set_option maxRecDepth 20000 in
theorem ct_X12_nearest {ad sc sv : Nat → Nat} (n : Nat) (a0 : Int) (a1 : Int) (m : ZMem) (ha0 : R32 a0) (ha1 : R32 a1) : zCT LM ad sc sv M_X12_nearest yX12_nearest [.int (mI a0), .int (mI a1)] m (F_X12_nearest n a0 a1 m) := by
  refine zCT_of (lv := [(0, .int (mI a0)), (1, .int (mI a1))]) (by decide) rfl (Nat.le_of_ble_eq_true rfl) rfl ?_
  unfold F_X12_nearest
  refine z_iconst dX12_nearest_0 ?_
  refine z_iload_n dX12_nearest_1 0 rfl ?_
  refine z_imul dX12_nearest_2 (fun h1 => ?_)
  refine z_iload_n dX12_nearest_3 1 rfl ?_
  refine z_iadd dX12_nearest_4 (fun h2 => ?_)
  refine z_iconst dX12_nearest_5 ?_
  refine z_isub dX12_nearest_6 (fun h3 => ?_)
  refine z_iconst dX12_nearest_7 ?_
  refine z_iload_n dX12_nearest_8 1 rfl ?_
  refine z_imul dX12_nearest_9 (fun h4 => ?_)
  refine z_idiv dX12_nearest_10 h3 h4 (fun h5 => ?_)
  exact z_iret dX12_nearest_11 rfl rfl h5
set_option maxRecDepth 20000 in
theorem ct_X12_up {ad sc sv : Nat → Nat} (n : Nat) (a0 : Int) (a1 : Int) (m : ZMem) (ha0 : R32 a0) (ha1 : R32 a1) : zCT LM ad sc sv M_X12_up yX12_up [.int (mI a0), .int (mI a1)] m (F_X12_up n a0 a1 m) := by
  refine zCT_of (lv := [(0, .int (mI a0)), (1, .int (mI a1))]) (by decide) rfl (Nat.le_of_ble_eq_true rfl) rfl ?_
  unfold F_X12_up
  refine z_iload_n dX12_up_0 0 rfl ?_
  refine z_iload_n dX12_up_1 1 rfl ?_
  refine z_iadd dX12_up_2 (fun h1 => ?_)
  refine z_iconst dX12_up_3 ?_
  refine z_isub dX12_up_4 (fun h2 => ?_)
  refine z_iload_n dX12_up_5 1 rfl ?_
  refine z_idiv dX12_up_6 h2 ha1 (fun h3 => ?_)
  exact z_iret dX12_up_7 rfl rfl h3
set_option maxRecDepth 20000 in
theorem ct_X12_plainly {ad sc sv : Nat → Nat} (n : Nat) (a0 : Int) (m : ZMem) (ha0 : R32 a0) : zCT LM ad sc sv M_X12_plainly yX12_plainly [.int (mI a0)] m (F_X12_plainly n a0 m) := by
  refine zCT_of (lv := [(0, .int (mI a0))]) (by decide) rfl (Nat.le_of_ble_eq_true rfl) rfl ?_
  unfold F_X12_plainly
  refine z_iload_n dX12_plainly_0 0 rfl ?_
  refine z_if_ge dX12_plainly_1 ha0 (tgt := 9) rfl (fun h1 => ?_) (fun h1 => ?_)
  · refine z_iload_n dX12_plainly_9 0 rfl ?_
    exact z_iret dX12_plainly_10 rfl rfl ha0
  · refine z_iload_n dX12_plainly_4 0 rfl ?_
    refine z_ineg dX12_plainly_5 (fun h2 => ?_)
    refine z_goto dX12_plainly_6 (tgt := 10) rfl ?_
    exact z_iret dX12_plainly_10 rfl rfl h2
set_option maxRecDepth 20000 in
theorem ct_X12_wholeOf {ad sc sv : Nat → Nat} (n : Nat) (a0 : Int) (a1 : Int) (m : ZMem) (ha0 : R32 a0) (ha1 : R32 a1) : zCT LM ad sc sv M_X12_wholeOf yX12_wholeOf [.int (mI a0), .int (mI a1)] m (F_X12_wholeOf n a0 a1 m) := by
  refine zCT_of (lv := [(0, .int (mI a0)), (1, .int (mI a1))]) (by decide) rfl (Nat.le_of_ble_eq_true rfl) rfl ?_
  unfold F_X12_wholeOf
  refine z_iload_n dX12_wholeOf_0 0 rfl ?_
  refine z_iload_n dX12_wholeOf_1 1 rfl ?_
  refine z_callS1 dX12_wholeOf_2 rfl (ct_X12_nearest n a0 a1 m ha0 ha1) k_1298 k_1299 k_10 k_1300 zn_X12_nearest ⟨rfl, rfl, Nat.le_of_ble_eq_true rfl, Nat.le_of_ble_eq_true rfl⟩ (Nat.le_of_ble_eq_true rfl) rfl (fun v1 m2 h3 ho4 => ?_)
  refine z_istore_n dX12_wholeOf_5 (lv' := [(2, .int (mI v1)), (0, .int (mI a0)), (1, .int (mI a1))]) (by decide) rfl ?_
  refine z_iload_n dX12_wholeOf_6 0 rfl ?_
  refine z_iconst dX12_wholeOf_7 ?_
  refine z_icmp_ge dX12_wholeOf_8 h3 (by decide) (tgt := 16) rfl (fun h5 => ?_) (fun h5 => ?_)
  · refine z_bipush dX12_wholeOf_16 (x := 12) (by decide +kernel) ?_
    refine z_iload_n dX12_wholeOf_18 0 rfl ?_
    refine z_imul dX12_wholeOf_19 (fun h6 => ?_)
    exact z_iret dX12_wholeOf_20 rfl rfl h6
  · refine z_bipush dX12_wholeOf_11 (x := 12) (by decide +kernel) ?_
    refine z_goto dX12_wholeOf_13 (tgt := 20) rfl ?_
    exact z_iret dX12_wholeOf_20 rfl rfl (by decide)
set_option maxRecDepth 20000 in
theorem ct_X12_takenBy {ad sc sv : Nat → Nat} (n : Nat) (a0 : Int) (a1 : Int) (a2 : Int) (m : ZMem) (ha0 : R32 a0) (ha1 : R32 a1) (ha2 : R32 a2) : zCT LM ad sc sv M_X12_takenBy yX12_takenBy [.ref (ad 0), .int (mI a0), .int (mI a1), .int (mI a2)] m (F_X12_takenBy n a0 a1 a2 m) := by
  refine zCT_of (lv := [(0, .ref (ad 0)), (1, .int (mI a0)), (2, .int (mI a1)), (3, .int (mI a2))]) (by decide) rfl (Nat.le_of_ble_eq_true rfl) rfl ?_
  unfold F_X12_takenBy
  refine z_aload_n dX12_takenBy_0 0 rfl ?_
  refine z_getR dX12_takenBy_1 (k := 8) (j := 2) zc_X12 lm_0 rfl (by decide) k_1046 ?_
  refine z_iload_n dX12_takenBy_4 1 rfl ?_
  refine z_iaload dX12_takenBy_5 ha0 (fun h1 => ?_)
  refine z_istore dX12_takenBy_6 (lv' := [(4, .int (mI (m 2 (a0 : Int).toNat))), (0, .ref (ad 0)), (1, .int (mI a0)), (2, .int (mI a1)), (3, .int (mI a2))]) (by decide) rfl ?_
  refine z_aload_n dX12_takenBy_8 1 rfl ?_
  refine z_getR dX12_takenBy_9 (k := 7) (j := 1) zc_X12 lm_0 rfl (by decide) k_1045 ?_
  refine z_iload_n dX12_takenBy_12 2 rfl ?_
  refine z_iaload dX12_takenBy_13 ha0 (fun h2 => ?_)
  refine z_case (fun hc3 => ?_) (fun hc3 => ?_)
  · refine z_tsIn dX12_takenBy_14 (cst := 0) hc3 (by decide) (by decide) rfl (tgt := 48) rfl ?_
    refine z_bipush dX12_takenBy_48 (x := 12) (by decide +kernel) ?_
    refine z_iload_n dX12_takenBy_50 3 rfl ?_
    refine z_imul dX12_takenBy_51 (fun h4 => ?_)
    refine z_iload_n dX12_takenBy_52 4 rfl ?_
    refine z_callS1 dX12_takenBy_53 rfl (ct_X12_nearest n (12 * a1) a2 m h4 ha2) k_1298 k_1299 k_10 k_1300 zn_X12_nearest ⟨rfl, rfl, Nat.le_of_ble_eq_true rfl, Nat.le_of_ble_eq_true rfl⟩ (Nat.le_of_ble_eq_true rfl) rfl (fun v5 m6 h7 ho8 => ?_)
    exact z_iret dX12_takenBy_56 rfl rfl h7
  · refine z_case (fun hc9 => ?_) (fun hc9 => ?_)
    · refine z_tsIn dX12_takenBy_14 (cst := 1) hc9 (by decide) (by decide) rfl (tgt := 57) rfl ?_
      refine z_iload_n dX12_takenBy_57 3 rfl ?_
      refine z_iload_n dX12_takenBy_58 4 rfl ?_
      refine z_callS1 dX12_takenBy_59 rfl (ct_X12_wholeOf n a1 a2 m ha1 ha2) k_1301 k_1302 k_10 k_1303 zn_X12_wholeOf ⟨rfl, rfl, Nat.le_of_ble_eq_true rfl, Nat.le_of_ble_eq_true rfl⟩ (Nat.le_of_ble_eq_true rfl) rfl (fun v10 m11 h12 ho13 => ?_)
      exact z_iret dX12_takenBy_62 rfl rfl h12
    · refine z_case (fun hc14 => ?_) (fun hc14 => ?_)
      · refine z_tsIn dX12_takenBy_14 (cst := 2) hc14 (by decide) (by decide) rfl (tgt := 63) rfl ?_
        refine z_iload dX12_takenBy_63 0 rfl ?_
        refine z_bipush dX12_takenBy_65 (x := 12) (by decide +kernel) ?_
        refine z_iload_n dX12_takenBy_67 3 rfl ?_
        refine z_imul dX12_takenBy_68 (fun h15 => ?_)
        refine z_iload_n dX12_takenBy_69 4 rfl ?_
        refine z_iload dX12_takenBy_70 0 rfl ?_
        refine z_imul dX12_takenBy_72 (fun h16 => ?_)
        refine z_callS1 dX12_takenBy_73 rfl (ct_X12_nearest n (12 * a1) (a2 * (m 2 (a0 : Int).toNat)) m h15 h16) k_1298 k_1299 k_10 k_1300 zn_X12_nearest ⟨rfl, rfl, Nat.le_of_ble_eq_true rfl, Nat.le_of_ble_eq_true rfl⟩ (Nat.le_of_ble_eq_true rfl) rfl (fun v17 m18 h19 ho20 => ?_)
        refine z_imul dX12_takenBy_76 (fun h21 => ?_)
        exact z_iret dX12_takenBy_77 rfl rfl h21
      · refine z_case (fun hc22 => ?_) (fun hc22 => ?_)
        · refine z_tsIn dX12_takenBy_14 (cst := 3) hc22 (by decide) (by decide) rfl (tgt := 78) rfl ?_
          refine z_bipush dX12_takenBy_78 (x := 12) (by decide +kernel) ?_
          refine z_iload dX12_takenBy_80 0 rfl ?_
          refine z_imul dX12_takenBy_82 (fun h23 => ?_)
          refine z_iload_n dX12_takenBy_83 3 rfl ?_
          refine z_iload_n dX12_takenBy_84 4 rfl ?_
          refine z_iload dX12_takenBy_85 0 rfl ?_
          refine z_imul dX12_takenBy_87 (fun h24 => ?_)
          refine z_callS1 dX12_takenBy_88 rfl (ct_X12_up n a1 (a2 * (m 2 (a0 : Int).toNat)) m ha1 h24) k_1304 k_1305 k_10 k_1306 zn_X12_up ⟨rfl, rfl, Nat.le_of_ble_eq_true rfl, Nat.le_of_ble_eq_true rfl⟩ (Nat.le_of_ble_eq_true rfl) rfl (fun v25 m26 h27 ho28 => ?_)
          refine z_imul dX12_takenBy_91 (fun h29 => ?_)
          exact z_iret dX12_takenBy_92 rfl rfl h29
        · refine z_case (fun hc30 => ?_) (fun hc30 => ?_)
          · refine z_tsIn dX12_takenBy_14 (cst := 4) hc30 (by decide) (by decide) rfl (tgt := 93) rfl ?_
            refine z_bipush dX12_takenBy_93 (x := 12) (by decide +kernel) ?_
            refine z_aload_n dX12_takenBy_95 1 rfl ?_
            refine z_getR dX12_takenBy_96 (k := 10) (j := 4) zc_X12 lm_0 rfl (by decide) k_1048 ?_
            refine z_iload_n dX12_takenBy_99 2 rfl ?_
            refine z_iaload dX12_takenBy_100 ha0 (fun h31 => ?_)
            refine z_imul dX12_takenBy_101 (fun h32 => ?_)
            exact z_iret dX12_takenBy_102 rfl rfl h32
          · refine z_tsOut dX12_takenBy_14 h2 (by omega) (tgt := 103) rfl ?_
            refine z_iload_n dX12_takenBy_103 3 rfl ?_
            refine z_iload_n dX12_takenBy_104 4 rfl ?_
            refine z_callS1 dX12_takenBy_105 rfl (ct_X12_wholeOf n a1 a2 m ha1 ha2) k_1301 k_1302 k_10 k_1303 zn_X12_wholeOf ⟨rfl, rfl, Nat.le_of_ble_eq_true rfl, Nat.le_of_ble_eq_true rfl⟩ (Nat.le_of_ble_eq_true rfl) rfl (fun v33 m34 h35 ho36 => ?_)
            refine z_istore dX12_takenBy_108 (lv' := [(5, .int (mI v33)), (4, .int (mI (m 2 (a0 : Int).toNat))), (0, .ref (ad 0)), (1, .int (mI a0)), (2, .int (mI a1)), (3, .int (mI a2))]) (by decide) rfl ?_
            refine z_iload dX12_takenBy_110 0 rfl ?_
            refine z_iload_n dX12_takenBy_112 5 rfl ?_
            refine z_imul dX12_takenBy_113 (fun h37 => ?_)
            refine z_bipush dX12_takenBy_114 (x := 12) (by decide +kernel) ?_
            refine z_iload_n dX12_takenBy_116 4 rfl ?_
            refine z_imul dX12_takenBy_117 (fun h38 => ?_)
            refine z_isub dX12_takenBy_118 (fun h39 => ?_)
            refine z_callS1 dX12_takenBy_119 rfl (ct_X12_plainly n ((v33 * a2) - (12 * a1)) m34 h39) k_1307 k_1308 k_10 k_1309 zn_X12_plainly ⟨rfl, rfl, Nat.le_of_ble_eq_true rfl, Nat.le_of_ble_eq_true rfl⟩ (Nat.le_of_ble_eq_true rfl) rfl (fun v40 m41 h42 ho43 => ?_)
            refine z_iload dX12_takenBy_122 1 rfl ?_
            refine z_iload_n dX12_takenBy_124 5 rfl ?_
            refine z_imul dX12_takenBy_125 (fun h44 => ?_)
            refine z_icmp_gt dX12_takenBy_126 h42 h44 (tgt := 133) rfl (fun h45 => ?_) (fun h45 => ?_)
            · refine z_iconst dX12_takenBy_133 ?_
              refine z_istore dX12_takenBy_134 (lv' := [(6, .int (mI 0)), (5, .int (mI v33)), (4, .int (mI (m 2 (a0 : Int).toNat))), (0, .ref (ad 0)), (1, .int (mI a0)), (2, .int (mI a1)), (3, .int (mI a2))]) (by decide) rfl ?_
              refine z_iload dX12_takenBy_136 0 rfl ?_
              refine z_if_eq_t dX12_takenBy_138 (by decide) (by decide) (tgt := 146) rfl ?_
              refine z_bipush dX12_takenBy_146 (x := 12) (by decide +kernel) ?_
              refine z_iload_n dX12_takenBy_148 5 rfl ?_
              refine z_imul dX12_takenBy_149 (fun h46 => ?_)
              refine z_iload_n dX12_takenBy_150 6 rfl ?_
              refine z_callS1 dX12_takenBy_151 rfl (ct_X12_nearest n (12 * a1) a2 m41 h46 ha2) k_1298 k_1299 k_10 k_1300 zn_X12_nearest ⟨rfl, rfl, Nat.le_of_ble_eq_true rfl, Nat.le_of_ble_eq_true rfl⟩ (Nat.le_of_ble_eq_true rfl) rfl (fun v47 m48 h49 ho50 => ?_)
              exact z_iret dX12_takenBy_154 rfl rfl h49
            · refine z_iconst dX12_takenBy_129 ?_
              refine z_goto dX12_takenBy_130 (tgt := 134) rfl ?_
              refine z_istore dX12_takenBy_134 (lv' := [(6, .int (mI 1)), (5, .int (mI v33)), (4, .int (mI (m 2 (a0 : Int).toNat))), (0, .ref (ad 0)), (1, .int (mI a0)), (2, .int (mI a1)), (3, .int (mI a2))]) (by decide) rfl ?_
              refine z_iload dX12_takenBy_136 0 rfl ?_
              refine z_if_eq_f dX12_takenBy_138 (by decide) (by decide) (tgt := 146) rfl ?_
              refine z_iload dX12_takenBy_141 1 rfl ?_
              refine z_goto dX12_takenBy_143 (tgt := 154) rfl ?_
              exact z_iret dX12_takenBy_154 rfl rfl h35
set_option maxRecDepth 20000 in
theorem ct_X12_takenFor {ad sc sv : Nat → Nat} (n : Nat) (a0 : Int) (a1 : Int) (m : ZMem) (ha0 : R32 a0) (ha1 : R32 a1) : zCT LM ad sc sv M_X12_takenFor yX12_takenFor [.ref (ad 0), .int (mI a0), .int (mI a1)] m (F_X12_takenFor n a0 a1 m) := by
  refine zCT_of (lv := [(0, .ref (ad 0)), (1, .int (mI a0)), (2, .int (mI a1))]) (by decide) rfl (Nat.le_of_ble_eq_true rfl) rfl ?_
  unfold F_X12_takenFor
  refine z_aload_n dX12_takenFor_0 0 rfl ?_
  refine z_iload_n dX12_takenFor_1 1 rfl ?_
  refine z_aload_n dX12_takenFor_2 0 rfl ?_
  refine z_getR dX12_takenFor_3 (k := 10) (j := 4) zc_X12 lm_0 rfl (by decide) k_1048 ?_
  refine z_iload_n dX12_takenFor_6 1 rfl ?_
  refine z_iaload dX12_takenFor_7 ha0 (fun h1 => ?_)
  refine z_iload_n dX12_takenFor_8 2 rfl ?_
  refine z_imul dX12_takenFor_9 (fun h2 => ?_)
  refine z_aload_n dX12_takenFor_10 0 rfl ?_
  refine z_getI dX12_takenFor_11 (k := 0) zc_X12 lm_0 rfl (by decide) k_1038 (fun h3 => ?_)
  refine z_callV1 dX12_takenFor_14 rfl (ct_X12_takenBy n a0 ((m 4 (a0 : Int).toNat) * a1) (m 0 0) m ha0 h2 h3) zc_X12 lm_0 k_1294 k_1296 kp_56 k_10 k_1297 zn_X12_takenBy ⟨rfl, rfl, Nat.le_of_ble_eq_true rfl, Nat.le_of_ble_eq_true rfl⟩ (Nat.le_of_ble_eq_true rfl) rfl (fun v4 m5 h6 ho7 => ?_)
  exact z_iret dX12_takenFor_17 rfl rfl h6
set_option maxRecDepth 20000 in
theorem ct_X12_offBy {ad sc sv : Nat → Nat} (n : Nat) (a0 : Int) (a1 : Int) (a2 : Int) (m : ZMem) (ha0 : R32 a0) (ha1 : R32 a1) (ha2 : R32 a2) : zCT LM ad sc sv M_X12_offBy yX12_offBy [.ref (ad 0), .int (mI a0), .int (mI a1), .int (mI a2)] m (F_X12_offBy n a0 a1 a2 m) := by
  refine zCT_of (lv := [(0, .ref (ad 0)), (1, .int (mI a0)), (2, .int (mI a1)), (3, .int (mI a2))]) (by decide) rfl (Nat.le_of_ble_eq_true rfl) rfl ?_
  unfold F_X12_offBy
  refine z_aload_n dX12_offBy_0 0 rfl ?_
  refine z_iload_n dX12_offBy_1 1 rfl ?_
  refine z_iload_n dX12_offBy_2 2 rfl ?_
  refine z_iload_n dX12_offBy_3 3 rfl ?_
  refine z_callV1 dX12_offBy_4 rfl (ct_X12_takenBy n a0 a1 a2 m ha0 ha1 ha2) zc_X12 lm_0 k_1294 k_1296 kp_56 k_10 k_1297 zn_X12_takenBy ⟨rfl, rfl, Nat.le_of_ble_eq_true rfl, Nat.le_of_ble_eq_true rfl⟩ (Nat.le_of_ble_eq_true rfl) rfl (fun v1 m2 h3 ho4 => ?_)
  refine z_iload_n dX12_offBy_7 3 rfl ?_
  refine z_imul dX12_offBy_8 (fun h5 => ?_)
  refine z_bipush dX12_offBy_9 (x := 12) (by decide +kernel) ?_
  refine z_iload_n dX12_offBy_11 2 rfl ?_
  refine z_imul dX12_offBy_12 (fun h6 => ?_)
  refine z_isub dX12_offBy_13 (fun h7 => ?_)
  refine z_callS1 dX12_offBy_14 rfl (ct_X12_plainly n ((v1 * a2) - (12 * a1)) m2 h7) k_1307 k_1308 k_10 k_1309 zn_X12_plainly ⟨rfl, rfl, Nat.le_of_ble_eq_true rfl, Nat.le_of_ble_eq_true rfl⟩ (Nat.le_of_ble_eq_true rfl) rfl (fun v8 m9 h10 ho11 => ?_)
  refine z_aload_n dX12_offBy_17 0 rfl ?_
  refine z_getR dX12_offBy_18 (k := 9) (j := 3) zc_X12 lm_0 rfl (by decide) k_1047 ?_
  refine z_iload_n dX12_offBy_21 1 rfl ?_
  refine z_iaload dX12_offBy_22 ha0 (fun h12 => ?_)
  refine z_imul dX12_offBy_23 (fun h13 => ?_)
  exact z_iret dX12_offBy_24 rfl rfl h13
set_option maxRecDepth 20000 in
theorem T_X12_offOf_4 {ad sc sv : Nat → Nat} (n : Nat) (r4 : Int → Int → Int → ZMem → ZR) (hr4 : ∀ (x1 : Int) (x2 : Int) (x3 : Int) (m : ZMem), R32 x1 → R32 x2 → R32 x3 → zG LM ad sc sv M_X12_offOf 4 [(0, .ref (ad 0)), (1, .int (mI x1)), (2, .int (mI x2)), (3, .int (mI x3))] [] m (r4 x1 x2 x3 m)) : ∀ (x1 : Int) (x2 : Int) (x3 : Int) (m : ZMem), R32 x1 → R32 x2 → R32 x3 → zG LM ad sc sv M_X12_offOf 4 [(0, .ref (ad 0)), (1, .int (mI x1)), (2, .int (mI x2)), (3, .int (mI x3))] [] m (B_X12_offOf_4 n r4 x1 x2 x3 m) := by
  intro x1 x2 x3 m hx1 hx2 hx3
  unfold B_X12_offOf_4
  refine z_iload_n dX12_offOf_4 3 rfl ?_
  refine z_aload_n dX12_offOf_5 0 rfl ?_
  refine z_getI dX12_offOf_6 (k := 2) zc_X12 lm_0 rfl (by decide) k_1040 (fun h1 => ?_)
  refine z_icmp_ge dX12_offOf_9 hx3 h1 (tgt := 38) rfl (fun h2 => ?_) (fun h2 => ?_)
  · refine z_iload_n dX12_offOf_38 2 rfl ?_
    exact z_iret dX12_offOf_39 rfl rfl hx2
  · refine z_iload_n dX12_offOf_12 2 rfl ?_
    refine z_aload_n dX12_offOf_13 0 rfl ?_
    refine z_iload_n dX12_offOf_14 3 rfl ?_
    refine z_aload_n dX12_offOf_15 0 rfl ?_
    refine z_getR dX12_offOf_16 (k := 10) (j := 4) zc_X12 lm_0 rfl (by decide) k_1048 ?_
    refine z_iload_n dX12_offOf_19 3 rfl ?_
    refine z_iaload dX12_offOf_20 hx3 (fun h3 => ?_)
    refine z_iload_n dX12_offOf_21 1 rfl ?_
    refine z_imul dX12_offOf_22 (fun h4 => ?_)
    refine z_aload_n dX12_offOf_23 0 rfl ?_
    refine z_getI dX12_offOf_24 (k := 0) zc_X12 lm_0 rfl (by decide) k_1038 (fun h5 => ?_)
    refine z_callV1 dX12_offOf_27 rfl (ct_X12_offBy n x3 ((m 4 (x3 : Int).toNat) * x1) (m 0 0) m hx3 h4 h5) zc_X12 lm_0 k_1356 k_1358 kp_60 k_10 k_1359 zn_X12_offBy ⟨rfl, rfl, Nat.le_of_ble_eq_true rfl, Nat.le_of_ble_eq_true rfl⟩ (Nat.le_of_ble_eq_true rfl) rfl (fun v6 m7 h8 ho9 => ?_)
    refine z_iadd dX12_offOf_30 (fun h10 => ?_)
    refine z_istore_n dX12_offOf_31 (lv' := [(2, .int (mI (x2 + v6))), (0, .ref (ad 0)), (1, .int (mI x1)), (3, .int (mI x3))]) (by decide) rfl ?_
    refine z_iinc dX12_offOf_32 (lv' := [(3, .int (mI (x3 + 1))), (2, .int (mI (x2 + v6))), (0, .ref (ad 0)), (1, .int (mI x1))]) 3 rfl (by decide) rfl (fun h11 => ?_)
    refine z_goto dX12_offOf_35 (tgt := 4) rfl ?_
    exact zG_lvk (hr4 x1 (x2 + v6) (x3 + 1) m7 hx1 h10 h11) [2, 3, 1, 0] rfl
theorem TL_X12_offOf_4 {ad sc sv : Nat → Nat} (n : Nat) : ∀ q : Nat, ∀ (x1 : Int) (x2 : Int) (x3 : Int) (m : ZMem), R32 x1 → R32 x2 → R32 x3 → zG LM ad sc sv M_X12_offOf 4 [(0, .ref (ad 0)), (1, .int (mI x1)), (2, .int (mI x2)), (3, .int (mI x3))] [] m (L_X12_offOf_4 n q x1 x2 x3 m) := by
  intro q
  induction q with
  | zero => intros; exact zG_none
  | succ q ih => exact T_X12_offOf_4 n (L_X12_offOf_4 n q) ih
set_option maxRecDepth 20000 in
theorem ct_X12_offOf {ad sc sv : Nat → Nat} (n : Nat) (a0 : Int) (m : ZMem) (ha0 : R32 a0) : zCT LM ad sc sv M_X12_offOf yX12_offOf [.ref (ad 0), .int (mI a0)] m (F_X12_offOf n a0 m) := by
  refine zCT_of (lv := [(0, .ref (ad 0)), (1, .int (mI a0))]) (by decide) rfl (Nat.le_of_ble_eq_true rfl) rfl ?_
  unfold F_X12_offOf
  refine z_iconst dX12_offOf_0 ?_
  refine z_istore_n dX12_offOf_1 (lv' := [(2, .int (mI 0)), (0, .ref (ad 0)), (1, .int (mI a0))]) (by decide) rfl ?_
  refine z_iconst dX12_offOf_2 ?_
  refine z_istore_n dX12_offOf_3 (lv' := [(3, .int (mI 0)), (2, .int (mI 0)), (0, .ref (ad 0)), (1, .int (mI a0))]) (by decide) rfl ?_
  exact zG_lvk (TL_X12_offOf_4 n n a0 0 0 m ha0 (by decide) (by decide)) [2, 3, 1, 0] rfl
set_option maxRecDepth 20000 in
theorem T_X12_divisor_4 {ad sc sv : Nat → Nat} (n : Nat) (r4 : Int → Int → ZMem → ZR) (hr4 : ∀ (x2 : Int) (x3 : Int) (m : ZMem), R32 x2 → R32 x3 → zG LM ad sc sv M_X12_divisor 4 [(2, .int (mI x2)), (3, .int (mI x3))] [] m (r4 x2 x3 m)) : ∀ (x2 : Int) (x3 : Int) (m : ZMem), R32 x2 → R32 x3 → zG LM ad sc sv M_X12_divisor 4 [(2, .int (mI x2)), (3, .int (mI x3))] [] m (B_X12_divisor_4 n r4 x2 x3 m) := by
  intro x2 x3 m hx2 hx3
  unfold B_X12_divisor_4
  refine z_iload_n dX12_divisor_4 1 rfl ?_
  refine z_if_eq dX12_divisor_5 hx3 (tgt := 21) rfl (fun h1 => ?_) (fun h1 => ?_)
  · refine z_iload_n dX12_divisor_21 0 rfl ?_
    exact z_iret dX12_divisor_22 rfl rfl hx2
  · refine z_iload_n dX12_divisor_8 0 rfl ?_
    refine z_iload_n dX12_divisor_9 1 rfl ?_
    refine z_irem dX12_divisor_10 hx2 hx3 (fun h2 => ?_)
    refine z_istore dX12_divisor_11 (lv' := [(4, .int (mI (x2 % x3))), (2, .int (mI x2)), (3, .int (mI x3))]) (by decide) rfl ?_
    refine z_iload_n dX12_divisor_13 2 rfl ?_
    refine z_istore_n dX12_divisor_14 (lv' := [(2, .int (mI x3)), (4, .int (mI (x2 % x3))), (3, .int (mI x3))]) (by decide) rfl ?_
    refine z_iload dX12_divisor_15 1 rfl ?_
    refine z_istore_n dX12_divisor_17 (lv' := [(3, .int (mI (x2 % x3))), (2, .int (mI x3)), (4, .int (mI (x2 % x3)))]) (by decide) rfl ?_
    refine z_goto dX12_divisor_18 (tgt := 4) rfl ?_
    exact zG_lvk (hr4 x3 (x2 % x3) m hx3 h2) [1, 0] rfl
theorem TL_X12_divisor_4 {ad sc sv : Nat → Nat} (n : Nat) : ∀ q : Nat, ∀ (x2 : Int) (x3 : Int) (m : ZMem), R32 x2 → R32 x3 → zG LM ad sc sv M_X12_divisor 4 [(2, .int (mI x2)), (3, .int (mI x3))] [] m (L_X12_divisor_4 n q x2 x3 m) := by
  intro q
  induction q with
  | zero => intros; exact zG_none
  | succ q ih => exact T_X12_divisor_4 n (L_X12_divisor_4 n q) ih
set_option maxRecDepth 20000 in
theorem ct_X12_divisor {ad sc sv : Nat → Nat} (n : Nat) (a0 : Int) (a1 : Int) (m : ZMem) (ha0 : R32 a0) (ha1 : R32 a1) : zCT LM ad sc sv M_X12_divisor yX12_divisor [.int (mI a0), .int (mI a1)] m (F_X12_divisor n a0 a1 m) := by
  refine zCT_of (lv := [(0, .int (mI a0)), (1, .int (mI a1))]) (by decide) rfl (Nat.le_of_ble_eq_true rfl) rfl ?_
  unfold F_X12_divisor
  refine z_iload_n dX12_divisor_0 0 rfl ?_
  refine z_istore_n dX12_divisor_1 (lv' := [(2, .int (mI a0)), (0, .int (mI a0)), (1, .int (mI a1))]) (by decide) rfl ?_
  refine z_iload_n dX12_divisor_2 2 rfl ?_
  refine z_istore_n dX12_divisor_3 (lv' := [(3, .int (mI a1)), (2, .int (mI a0)), (0, .int (mI a0)), (1, .int (mI a1))]) (by decide) rfl ?_
  exact zG_lvk (TL_X12_divisor_4 n n a0 a1 m ha0 ha1) [1, 0] rfl
set_option maxRecDepth 20000 in
theorem ct_X12_partOf {ad sc sv : Nat → Nat} (n : Nat) (a0 : Int) (a1 : Int) (a2 : Int) (m : ZMem) (ha0 : R32 a0) (ha1 : R32 a1) (ha2 : R32 a2) : zCT LM ad sc sv M_X12_partOf yX12_partOf [.int (mI a0), .int (mI a1), .int (mI a2)] m (F_X12_partOf n a0 a1 a2 m) := by
  refine zCT_of (lv := [(0, .int (mI a0)), (1, .int (mI a1)), (2, .int (mI a2))]) (by decide) rfl (Nat.le_of_ble_eq_true rfl) rfl ?_
  unfold F_X12_partOf
  refine z_iload_n dX12_partOf_0 0 rfl ?_
  refine z_if_ne dX12_partOf_1 ha0 (tgt := 6) rfl (fun h1 => ?_) (fun h1 => ?_)
  · refine z_iload_n dX12_partOf_4 2 rfl ?_
    exact z_iret dX12_partOf_5 rfl rfl ha2
  · refine z_iload_n dX12_partOf_6 0 rfl ?_
    refine z_iload_n dX12_partOf_7 1 rfl ?_
    refine z_callS1 dX12_partOf_8 rfl (ct_X12_divisor n a0 a1 m ha0 ha1) k_1345 k_1346 k_10 k_1347 zn_X12_divisor ⟨rfl, rfl, Nat.le_of_ble_eq_true rfl, Nat.le_of_ble_eq_true rfl⟩ (Nat.le_of_ble_eq_true rfl) rfl (fun v2 m3 h4 ho5 => ?_)
    refine z_istore_n dX12_partOf_11 (lv' := [(3, .int (mI v2)), (0, .int (mI a0)), (1, .int (mI a1)), (2, .int (mI a2))]) (by decide) rfl ?_
    refine z_iload_n dX12_partOf_12 3 rfl ?_
    refine z_if_ne dX12_partOf_13 ha2 (tgt := 22) rfl (fun h6 => ?_) (fun h6 => ?_)
    · refine z_iload_n dX12_partOf_16 1 rfl ?_
      refine z_iload_n dX12_partOf_17 0 rfl ?_
      refine z_idiv dX12_partOf_18 ha0 h4 (fun h7 => ?_)
      refine z_goto dX12_partOf_19 (tgt := 25) rfl ?_
      exact z_iret dX12_partOf_25 rfl rfl h7
    · refine z_iload_n dX12_partOf_22 2 rfl ?_
      refine z_iload_n dX12_partOf_23 0 rfl ?_
      refine z_idiv dX12_partOf_24 ha1 h4 (fun h8 => ?_)
      exact z_iret dX12_partOf_25 rfl rfl h8
set_option maxRecDepth 20000 in
theorem ct_X12_leftOf {ad sc sv : Nat → Nat} (n : Nat) (a0 : Int) (m : ZMem) (ha0 : R32 a0) : zCT LM ad sc sv M_X12_leftOf yX12_leftOf [.ref (ad 0), .int (mI a0)] m (F_X12_leftOf n a0 m) := by
  refine zCT_of (lv := [(0, .ref (ad 0)), (1, .int (mI a0))]) (by decide) rfl (Nat.le_of_ble_eq_true rfl) rfl ?_
  unfold F_X12_leftOf
  refine z_aload_n dX12_leftOf_0 0 rfl ?_
  refine z_iload_n dX12_leftOf_1 1 rfl ?_
  refine z_aload_n dX12_leftOf_2 0 rfl ?_
  refine z_getI dX12_leftOf_3 (k := 1) zc_X12 lm_0 rfl (by decide) k_1039 (fun h1 => ?_)
  refine z_callV1 dX12_leftOf_6 rfl (ct_X12_takenFor n a0 (m 0 1) m ha0 h1) zc_X12 lm_0 k_1290 k_1292 kp_55 k_10 k_1293 zn_X12_takenFor ⟨rfl, rfl, Nat.le_of_ble_eq_true rfl, Nat.le_of_ble_eq_true rfl⟩ (Nat.le_of_ble_eq_true rfl) rfl (fun v2 m3 h4 ho5 => ?_)
  refine z_bipush dX12_leftOf_9 (x := 12) (by decide +kernel) ?_
  refine z_callS1 dX12_leftOf_11 rfl (ct_X12_up n v2 12 m3 h4 (by decide)) k_1304 k_1305 k_10 k_1306 zn_X12_up ⟨rfl, rfl, Nat.le_of_ble_eq_true rfl, Nat.le_of_ble_eq_true rfl⟩ (Nat.le_of_ble_eq_true rfl) rfl (fun v6 m7 h8 ho9 => ?_)
  refine z_istore_n dX12_leftOf_14 (lv' := [(2, .int (mI v6)), (0, .ref (ad 0)), (1, .int (mI a0))]) (by decide) rfl ?_
  refine z_aload_n dX12_leftOf_15 1 rfl ?_
  refine z_getR dX12_leftOf_16 (k := 7) (j := 1) zc_X12 lm_0 rfl (by decide) k_1045 ?_
  refine z_iload_n dX12_leftOf_19 2 rfl ?_
  refine z_iaload dX12_leftOf_20 ha0 (fun h10 => ?_)
  refine z_iconst dX12_leftOf_21 ?_
  refine z_icmp_ne dX12_leftOf_22 h10 (by decide) (tgt := 45) rfl (fun h11 => ?_) (fun h11 => ?_)
  · refine z_aload_n dX12_leftOf_25 1 rfl ?_
    refine z_getR dX12_leftOf_26 (k := 8) (j := 2) zc_X12 lm_0 rfl (by decide) k_1046 ?_
    refine z_iload_n dX12_leftOf_29 2 rfl ?_
    refine z_iaload dX12_leftOf_30 ha0 (fun h12 => ?_)
    refine z_iload_n dX12_leftOf_31 0 rfl ?_
    refine z_aload_n dX12_leftOf_32 1 rfl ?_
    refine z_getR dX12_leftOf_33 (k := 8) (j := 2) zc_X12 lm_0 rfl (by decide) k_1046 ?_
    refine z_iload_n dX12_leftOf_36 2 rfl ?_
    refine z_iaload dX12_leftOf_37 ha0 (fun h13 => ?_)
    refine z_callS1 dX12_leftOf_38 rfl (ct_X12_up n v6 (m7 2 (a0 : Int).toNat) m7 h8 h13) k_1304 k_1305 k_10 k_1306 zn_X12_up ⟨rfl, rfl, Nat.le_of_ble_eq_true rfl, Nat.le_of_ble_eq_true rfl⟩ (Nat.le_of_ble_eq_true rfl) rfl (fun v14 m15 h16 ho17 => ?_)
    refine z_imul dX12_leftOf_41 (fun h18 => ?_)
    refine z_goto dX12_leftOf_42 (tgt := 46) rfl ?_
    refine z_istore_n dX12_leftOf_46 (lv' := [(2, .int (mI ((m7 2 (a0 : Int).toNat) * v14))), (0, .ref (ad 0)), (1, .int (mI a0))]) (by decide) rfl ?_
    refine z_bipush dX12_leftOf_47 (x := 12) (by decide +kernel) ?_
    refine z_iload_n dX12_leftOf_49 0 rfl ?_
    refine z_imul dX12_leftOf_50 (fun h19 => ?_)
    refine z_bipush dX12_leftOf_51 (x := 12) (by decide +kernel) ?_
    refine z_aload_n dX12_leftOf_53 1 rfl ?_
    refine z_getR dX12_leftOf_54 (k := 10) (j := 4) zc_X12 lm_0 rfl (by decide) k_1048 ?_
    refine z_iload_n dX12_leftOf_57 2 rfl ?_
    refine z_iaload dX12_leftOf_58 ha0 (fun h20 => ?_)
    refine z_imul dX12_leftOf_59 (fun h21 => ?_)
    refine z_aload_n dX12_leftOf_60 1 rfl ?_
    refine z_getI dX12_leftOf_61 (k := 1) zc_X12 lm_0 rfl (by decide) k_1039 (fun h22 => ?_)
    refine z_imul dX12_leftOf_64 (fun h23 => ?_)
    refine z_aload_n dX12_leftOf_65 1 rfl ?_
    refine z_getI dX12_leftOf_66 (k := 0) zc_X12 lm_0 rfl (by decide) k_1038 (fun h24 => ?_)
    refine z_callS1 dX12_leftOf_69 rfl (ct_X12_up n ((12 * (m15 4 (a0 : Int).toNat)) * (m15 0 1)) (m15 0 0) m15 h23 h24) k_1304 k_1305 k_10 k_1306 zn_X12_up ⟨rfl, rfl, Nat.le_of_ble_eq_true rfl, Nat.le_of_ble_eq_true rfl⟩ (Nat.le_of_ble_eq_true rfl) rfl (fun v25 m26 h27 ho28 => ?_)
    refine z_isub dX12_leftOf_72 (fun h29 => ?_)
    refine z_istore_n dX12_leftOf_73 (lv' := [(3, .int (mI ((12 * ((m7 2 (a0 : Int).toNat) * v14)) - v25))), (2, .int (mI ((m7 2 (a0 : Int).toNat) * v14))), (0, .ref (ad 0)), (1, .int (mI a0))]) (by decide) rfl ?_
    refine z_iload_n dX12_leftOf_74 0 rfl ?_
    refine z_if_ge dX12_leftOf_75 h29 (tgt := 82) rfl (fun h30 => ?_) (fun h30 => ?_)
    · refine z_iload_n dX12_leftOf_82 0 rfl ?_
      exact z_iret dX12_leftOf_83 rfl rfl h29
    · refine z_iconst dX12_leftOf_78 ?_
      refine z_goto dX12_leftOf_79 (tgt := 83) rfl ?_
      exact z_iret dX12_leftOf_83 rfl rfl (by decide)
  · refine z_iload_n dX12_leftOf_45 0 rfl ?_
    refine z_istore_n dX12_leftOf_46 (lv' := [(2, .int (mI v6)), (0, .ref (ad 0)), (1, .int (mI a0))]) (by decide) rfl ?_
    refine z_bipush dX12_leftOf_47 (x := 12) (by decide +kernel) ?_
    refine z_iload_n dX12_leftOf_49 0 rfl ?_
    refine z_imul dX12_leftOf_50 (fun h31 => ?_)
    refine z_bipush dX12_leftOf_51 (x := 12) (by decide +kernel) ?_
    refine z_aload_n dX12_leftOf_53 1 rfl ?_
    refine z_getR dX12_leftOf_54 (k := 10) (j := 4) zc_X12 lm_0 rfl (by decide) k_1048 ?_
    refine z_iload_n dX12_leftOf_57 2 rfl ?_
    refine z_iaload dX12_leftOf_58 ha0 (fun h32 => ?_)
    refine z_imul dX12_leftOf_59 (fun h33 => ?_)
    refine z_aload_n dX12_leftOf_60 1 rfl ?_
    refine z_getI dX12_leftOf_61 (k := 1) zc_X12 lm_0 rfl (by decide) k_1039 (fun h34 => ?_)
    refine z_imul dX12_leftOf_64 (fun h35 => ?_)
    refine z_aload_n dX12_leftOf_65 1 rfl ?_
    refine z_getI dX12_leftOf_66 (k := 0) zc_X12 lm_0 rfl (by decide) k_1038 (fun h36 => ?_)
    refine z_callS1 dX12_leftOf_69 rfl (ct_X12_up n ((12 * (m7 4 (a0 : Int).toNat)) * (m7 0 1)) (m7 0 0) m7 h35 h36) k_1304 k_1305 k_10 k_1306 zn_X12_up ⟨rfl, rfl, Nat.le_of_ble_eq_true rfl, Nat.le_of_ble_eq_true rfl⟩ (Nat.le_of_ble_eq_true rfl) rfl (fun v37 m38 h39 ho40 => ?_)
    refine z_isub dX12_leftOf_72 (fun h41 => ?_)
    refine z_istore_n dX12_leftOf_73 (lv' := [(3, .int (mI ((12 * v6) - v37))), (2, .int (mI v6)), (0, .ref (ad 0)), (1, .int (mI a0))]) (by decide) rfl ?_
    refine z_iload_n dX12_leftOf_74 0 rfl ?_
    refine z_if_ge dX12_leftOf_75 h41 (tgt := 82) rfl (fun h42 => ?_) (fun h42 => ?_)
    · refine z_iload_n dX12_leftOf_82 0 rfl ?_
      exact z_iret dX12_leftOf_83 rfl rfl h41
    · refine z_iconst dX12_leftOf_78 ?_
      refine z_goto dX12_leftOf_79 (tgt := 83) rfl ?_
      exact z_iret dX12_leftOf_83 rfl rfl (by decide)
set_option maxRecDepth 20000 in
theorem ct_X12_feed {ad sc sv : Nat → Nat} (n : Nat) (a0 : Int) (m : ZMem) (ha0 : R32 a0) : zCT LM ad sc sv M_X12_feed yX12_feed [.ref (ad 0), .int (mI a0)] m (F_X12_feed n a0 m) := by
  refine zCT_of (lv := [(0, .ref (ad 0)), (1, .int (mI a0))]) (by decide) rfl (Nat.le_of_ble_eq_true rfl) rfl ?_
  unfold F_X12_feed
  refine z_aload_n dX12_feed_0 0 rfl ?_
  refine z_iconst dX12_feed_1 ?_
  refine z_putI dX12_feed_2 (k := 16) zc_X12 lm_0 rfl (by decide) rfl rfl (by decide) k_1054 ?_
  refine z_iload_n dX12_feed_5 1 rfl ?_
  refine z_if_ge dX12_feed_6 ha0 (tgt := 16) rfl (fun h1 => ?_) (fun h1 => ?_)
  · refine z_iload_n dX12_feed_16 1 rfl ?_
    refine z_sipush dX12_feed_17 (x := 255) (by decide +kernel) ?_
    refine z_icmp_gt dX12_feed_20 ha0 (by decide) (tgt := 32) rfl (fun h2 => ?_) (fun h2 => ?_)
    · refine z_aload_n dX12_feed_32 0 rfl ?_
      refine z_bipush dX12_feed_33 (x := (-6)) (by decide +kernel) ?_
      refine z_callV1 dX12_feed_35 rfl (ct_X12_refuse n (-6) (wr m 0 16 0) (by decide)) zc_X12 lm_0 k_1194 k_1196 kp_37 k_10 k_1197 zn_X12_refuse ⟨rfl, rfl, Nat.le_of_ble_eq_true rfl, Nat.le_of_ble_eq_true rfl⟩ (Nat.le_of_ble_eq_true rfl) rfl (fun v3 m4 h5 ho6 => ?_)
      exact z_iret dX12_feed_38 rfl rfl h5
    · refine z_aload_n dX12_feed_23 0 rfl ?_
      refine z_getI dX12_feed_24 (k := 19) zc_X12 lm_0 rfl (by decide) k_1057 (fun h7 => ?_)
      refine z_bipush dX12_feed_27 (x := 96) (by decide +kernel) ?_
      refine z_icmp_ne dX12_feed_29 h7 (by decide) (tgt := 39) rfl (fun h8 => ?_) (fun h8 => ?_)
      · refine z_aload_n dX12_feed_32 0 rfl ?_
        refine z_bipush dX12_feed_33 (x := (-6)) (by decide +kernel) ?_
        refine z_callV1 dX12_feed_35 rfl (ct_X12_refuse n (-6) (wr m 0 16 0) (by decide)) zc_X12 lm_0 k_1194 k_1196 kp_37 k_10 k_1197 zn_X12_refuse ⟨rfl, rfl, Nat.le_of_ble_eq_true rfl, Nat.le_of_ble_eq_true rfl⟩ (Nat.le_of_ble_eq_true rfl) rfl (fun v9 m10 h11 ho12 => ?_)
        exact z_iret dX12_feed_38 rfl rfl h11
      · refine z_aload_n dX12_feed_39 0 rfl ?_
        refine z_getR dX12_feed_40 (k := 18) (j := 11) zc_X12 lm_0 rfl (by decide) k_1056 ?_
        refine z_aload_n dX12_feed_43 0 rfl ?_
        refine z_getI dX12_feed_44 (k := 19) zc_X12 lm_0 rfl (by decide) k_1057 (fun h13 => ?_)
        refine z_iload_n dX12_feed_47 1 rfl ?_
        refine z_iastore dX12_feed_48 h13 ha0 ?_
        refine z_aload_n dX12_feed_49 0 rfl ?_
        refine z_dup dX12_feed_50 rfl ?_
        refine z_getI dX12_feed_51 (k := 19) zc_X12 lm_0 rfl (by decide) k_1057 (fun h14 => ?_)
        refine z_iconst dX12_feed_54 ?_
        refine z_iadd dX12_feed_55 (fun h15 => ?_)
        refine z_putI dX12_feed_56 (k := 19) zc_X12 lm_0 rfl (by decide) rfl rfl h15 k_1057 ?_
        refine z_aload_n dX12_feed_59 0 rfl ?_
        refine z_getI dX12_feed_60 (k := 19) zc_X12 lm_0 rfl (by decide) k_1057 (fun h16 => ?_)
        exact z_iret dX12_feed_63 rfl rfl h16
  · refine z_aload_n dX12_feed_9 0 rfl ?_
    refine z_bipush dX12_feed_10 (x := (-4)) (by decide +kernel) ?_
    refine z_callV1 dX12_feed_12 rfl (ct_X12_refuse n (-4) (wr m 0 16 0) (by decide)) zc_X12 lm_0 k_1194 k_1196 kp_37 k_10 k_1197 zn_X12_refuse ⟨rfl, rfl, Nat.le_of_ble_eq_true rfl, Nat.le_of_ble_eq_true rfl⟩ (Nat.le_of_ble_eq_true rfl) rfl (fun v17 m18 h19 ho20 => ?_)
    exact z_iret dX12_feed_15 rfl rfl h19
set_option maxRecDepth 20000 in
theorem ct_X12_here {ad sc sv : Nat → Nat} (n : Nat) (m : ZMem) : zCT LM ad sc sv M_X12_here yX12_here [.ref (ad 0)] m (F_X12_here n m) := by
  refine zCT_of (lv := [(0, .ref (ad 0))]) (by decide) rfl (Nat.le_of_ble_eq_true rfl) rfl ?_
  unfold F_X12_here
  refine z_aload_n dX12_here_0 0 rfl ?_
  refine z_getI dX12_here_1 (k := 20) zc_X12 lm_0 rfl (by decide) k_1058 (fun h1 => ?_)
  refine z_aload_n dX12_here_4 0 rfl ?_
  refine z_getI dX12_here_5 (k := 19) zc_X12 lm_0 rfl (by decide) k_1057 (fun h2 => ?_)
  refine z_icmp_ge dX12_here_8 h1 h2 (tgt := 23) rfl (fun h3 => ?_) (fun h3 => ?_)
  · refine z_iconst dX12_here_23 ?_
    exact z_iret dX12_here_24 rfl rfl (by decide)
  · refine z_aload_n dX12_here_11 0 rfl ?_
    refine z_getR dX12_here_12 (k := 18) (j := 11) zc_X12 lm_0 rfl (by decide) k_1056 ?_
    refine z_aload_n dX12_here_15 0 rfl ?_
    refine z_getI dX12_here_16 (k := 20) zc_X12 lm_0 rfl (by decide) k_1058 (fun h4 => ?_)
    refine z_iaload dX12_here_19 h4 (fun h5 => ?_)
    refine z_goto dX12_here_20 (tgt := 24) rfl ?_
    exact z_iret dX12_here_24 rfl rfl h5
set_option maxRecDepth 20000 in
theorem ct_X12_readDigit {ad sc sv : Nat → Nat} (n : Nat) (m : ZMem) : zCT LM ad sc sv M_X12_readDigit yX12_readDigit [.ref (ad 0)] m (F_X12_readDigit n m) := by
  refine zCT_of (lv := [(0, .ref (ad 0))]) (by decide) rfl (Nat.le_of_ble_eq_true rfl) rfl ?_
  unfold F_X12_readDigit
  refine z_aload_n dX12_readDigit_0 0 rfl ?_
  refine z_aload_n dX12_readDigit_1 0 rfl ?_
  refine z_getI dX12_readDigit_2 (k := 21) zc_X12 lm_0 rfl (by decide) k_1059 (fun h1 => ?_)
  refine z_if_ne dX12_readDigit_5 h1 (tgt := 25) rfl (fun h2 => ?_) (fun h2 => ?_)
  · refine z_aload_n dX12_readDigit_8 0 rfl ?_
    refine z_callV1 dX12_readDigit_9 rfl (ct_X12_here n m) zc_X12 lm_0 k_1206 k_1208 kp_39 k_10 k_1209 zn_X12_here ⟨rfl, rfl, Nat.le_of_ble_eq_true rfl, Nat.le_of_ble_eq_true rfl⟩ (Nat.le_of_ble_eq_true rfl) rfl (fun v3 m4 h5 ho6 => ?_)
    refine z_i2l dX12_readDigit_12 h5 (fun h7 => ?_)
    refine z_ldc2 dX12_readDigit_13 (x := 48) k_1218 ?_
    refine z_ldc2 dX12_readDigit_16 (x := 57) k_1219 ?_
    refine z_callS4 dX12_readDigit_19 rfl (ct_X12_in n v3 48 57 m4 h7 (by decide) (by decide)) k_1220 k_1221 k_10 k_1222 zn_X12_in ⟨rfl, rfl, Nat.le_of_ble_eq_true rfl, Nat.le_of_ble_eq_true rfl⟩ (Nat.le_of_ble_eq_true rfl) rfl (fun v8 m9 h10 ho11 => ?_)
    refine z_if_ne dX12_readDigit_22 (zb01 h10) (tgt := 29) rfl (fun h12 => ?_) (fun h12 => ?_)
    · refine z_iconst dX12_readDigit_25 ?_
      refine z_goto dX12_readDigit_26 (tgt := 30) rfl ?_
      refine z_putZ dX12_readDigit_30 (k := 21) zc_X12 lm_0 rfl (by decide) rfl rfl (by decide) k_1059 ?_
      refine z_aload_n dX12_readDigit_33 0 rfl ?_
      refine z_getI dX12_readDigit_34 (k := 21) zc_X12 lm_0 rfl (by decide) k_1059 (fun h13 => ?_)
      refine z_if_eq dX12_readDigit_37 h13 (tgt := 42) rfl (fun h14 => ?_) (fun h14 => ?_)
      · refine z_aload_n dX12_readDigit_42 0 rfl ?_
        refine z_dup dX12_readDigit_43 rfl ?_
        refine z_getI dX12_readDigit_44 (k := 20) zc_X12 lm_0 rfl (by decide) k_1058 (fun h15 => ?_)
        refine z_iconst dX12_readDigit_47 ?_
        refine z_iadd dX12_readDigit_48 (fun h16 => ?_)
        refine z_putI dX12_readDigit_49 (k := 20) zc_X12 lm_0 rfl (by decide) rfl rfl h16 k_1058 ?_
        refine z_aload_n dX12_readDigit_52 0 rfl ?_
        refine z_getR dX12_readDigit_53 (k := 18) (j := 11) zc_X12 lm_0 rfl (by decide) k_1056 ?_
        refine z_aload_n dX12_readDigit_56 0 rfl ?_
        refine z_getI dX12_readDigit_57 (k := 20) zc_X12 lm_0 rfl (by decide) k_1058 (fun h17 => ?_)
        refine z_iconst dX12_readDigit_60 ?_
        refine z_isub dX12_readDigit_61 (fun h18 => ?_)
        refine z_iaload dX12_readDigit_62 h18 (fun h19 => ?_)
        refine z_bipush dX12_readDigit_63 (x := 48) (by decide +kernel) ?_
        refine z_isub dX12_readDigit_65 (fun h20 => ?_)
        exact z_iret dX12_readDigit_66 rfl rfl h20
      · refine z_iconst dX12_readDigit_40 ?_
        exact z_iret dX12_readDigit_41 rfl rfl (by decide)
    · refine z_iconst dX12_readDigit_29 ?_
      refine z_putZ dX12_readDigit_30 (k := 21) zc_X12 lm_0 rfl (by decide) rfl rfl (by decide) k_1059 ?_
      refine z_aload_n dX12_readDigit_33 0 rfl ?_
      refine z_getI dX12_readDigit_34 (k := 21) zc_X12 lm_0 rfl (by decide) k_1059 (fun h21 => ?_)
      refine z_if_eq dX12_readDigit_37 h21 (tgt := 42) rfl (fun h22 => ?_) (fun h22 => ?_)
      · refine z_aload_n dX12_readDigit_42 0 rfl ?_
        refine z_dup dX12_readDigit_43 rfl ?_
        refine z_getI dX12_readDigit_44 (k := 20) zc_X12 lm_0 rfl (by decide) k_1058 (fun h23 => ?_)
        refine z_iconst dX12_readDigit_47 ?_
        refine z_iadd dX12_readDigit_48 (fun h24 => ?_)
        refine z_putI dX12_readDigit_49 (k := 20) zc_X12 lm_0 rfl (by decide) rfl rfl h24 k_1058 ?_
        refine z_aload_n dX12_readDigit_52 0 rfl ?_
        refine z_getR dX12_readDigit_53 (k := 18) (j := 11) zc_X12 lm_0 rfl (by decide) k_1056 ?_
        refine z_aload_n dX12_readDigit_56 0 rfl ?_
        refine z_getI dX12_readDigit_57 (k := 20) zc_X12 lm_0 rfl (by decide) k_1058 (fun h25 => ?_)
        refine z_iconst dX12_readDigit_60 ?_
        refine z_isub dX12_readDigit_61 (fun h26 => ?_)
        refine z_iaload dX12_readDigit_62 h26 (fun h27 => ?_)
        refine z_bipush dX12_readDigit_63 (x := 48) (by decide +kernel) ?_
        refine z_isub dX12_readDigit_65 (fun h28 => ?_)
        exact z_iret dX12_readDigit_66 rfl rfl h28
      · refine z_iconst dX12_readDigit_40 ?_
        exact z_iret dX12_readDigit_41 rfl rfl (by decide)
  · refine z_iconst dX12_readDigit_25 ?_
    refine z_goto dX12_readDigit_26 (tgt := 30) rfl ?_
    refine z_putZ dX12_readDigit_30 (k := 21) zc_X12 lm_0 rfl (by decide) rfl rfl (by decide) k_1059 ?_
    refine z_aload_n dX12_readDigit_33 0 rfl ?_
    refine z_getI dX12_readDigit_34 (k := 21) zc_X12 lm_0 rfl (by decide) k_1059 (fun h29 => ?_)
    refine z_if_eq dX12_readDigit_37 h29 (tgt := 42) rfl (fun h30 => ?_) (fun h30 => ?_)
    · refine z_aload_n dX12_readDigit_42 0 rfl ?_
      refine z_dup dX12_readDigit_43 rfl ?_
      refine z_getI dX12_readDigit_44 (k := 20) zc_X12 lm_0 rfl (by decide) k_1058 (fun h31 => ?_)
      refine z_iconst dX12_readDigit_47 ?_
      refine z_iadd dX12_readDigit_48 (fun h32 => ?_)
      refine z_putI dX12_readDigit_49 (k := 20) zc_X12 lm_0 rfl (by decide) rfl rfl h32 k_1058 ?_
      refine z_aload_n dX12_readDigit_52 0 rfl ?_
      refine z_getR dX12_readDigit_53 (k := 18) (j := 11) zc_X12 lm_0 rfl (by decide) k_1056 ?_
      refine z_aload_n dX12_readDigit_56 0 rfl ?_
      refine z_getI dX12_readDigit_57 (k := 20) zc_X12 lm_0 rfl (by decide) k_1058 (fun h33 => ?_)
      refine z_iconst dX12_readDigit_60 ?_
      refine z_isub dX12_readDigit_61 (fun h34 => ?_)
      refine z_iaload dX12_readDigit_62 h34 (fun h35 => ?_)
      refine z_bipush dX12_readDigit_63 (x := 48) (by decide +kernel) ?_
      refine z_isub dX12_readDigit_65 (fun h36 => ?_)
      exact z_iret dX12_readDigit_66 rfl rfl h36
    · refine z_iconst dX12_readDigit_40 ?_
      exact z_iret dX12_readDigit_41 rfl rfl (by decide)
set_option maxRecDepth 20000 in
theorem ct_X12_readOneOrTwo {ad sc sv : Nat → Nat} (n : Nat) (m : ZMem) : zCT LM ad sc sv M_X12_readOneOrTwo yX12_readOneOrTwo [.ref (ad 0)] m (F_X12_readOneOrTwo n m) := by
  refine zCT_of (lv := [(0, .ref (ad 0))]) (by decide) rfl (Nat.le_of_ble_eq_true rfl) rfl ?_
  unfold F_X12_readOneOrTwo
  refine z_aload_n dX12_readOneOrTwo_0 0 rfl ?_
  refine z_callV1 dX12_readOneOrTwo_1 rfl (ct_X12_readDigit n m) zc_X12 lm_0 k_1214 k_1216 kp_41 k_10 k_1217 zn_X12_readDigit ⟨rfl, rfl, Nat.le_of_ble_eq_true rfl, Nat.le_of_ble_eq_true rfl⟩ (Nat.le_of_ble_eq_true rfl) rfl (fun v1 m2 h3 ho4 => ?_)
  refine z_istore_n dX12_readOneOrTwo_4 (lv' := [(1, .int (mI v1)), (0, .ref (ad 0))]) (by decide) rfl ?_
  refine z_aload_n dX12_readOneOrTwo_5 1 rfl ?_
  refine z_getI dX12_readOneOrTwo_6 (k := 21) zc_X12 lm_0 rfl (by decide) k_1059 (fun h5 => ?_)
  refine z_if_ne dX12_readOneOrTwo_9 h5 (tgt := 41) rfl (fun h6 => ?_) (fun h6 => ?_)
  · refine z_aload_n dX12_readOneOrTwo_12 1 rfl ?_
    refine z_callV1 dX12_readOneOrTwo_13 rfl (ct_X12_here n m2) zc_X12 lm_0 k_1206 k_1208 kp_39 k_10 k_1209 zn_X12_here ⟨rfl, rfl, Nat.le_of_ble_eq_true rfl, Nat.le_of_ble_eq_true rfl⟩ (Nat.le_of_ble_eq_true rfl) rfl (fun v7 m8 h9 ho10 => ?_)
    refine z_i2l dX12_readOneOrTwo_16 h9 (fun h11 => ?_)
    refine z_ldc2 dX12_readOneOrTwo_17 (x := 48) k_1218 ?_
    refine z_ldc2 dX12_readOneOrTwo_20 (x := 57) k_1219 ?_
    refine z_callS4 dX12_readOneOrTwo_23 rfl (ct_X12_in n v7 48 57 m8 h11 (by decide) (by decide)) k_1220 k_1221 k_10 k_1222 zn_X12_in ⟨rfl, rfl, Nat.le_of_ble_eq_true rfl, Nat.le_of_ble_eq_true rfl⟩ (Nat.le_of_ble_eq_true rfl) rfl (fun v12 m13 h14 ho15 => ?_)
    refine z_if_eq dX12_readOneOrTwo_26 (zb01 h14) (tgt := 41) rfl (fun h16 => ?_) (fun h16 => ?_)
    · refine z_iload_n dX12_readOneOrTwo_41 0 rfl ?_
      exact z_iret dX12_readOneOrTwo_42 rfl rfl h3
    · refine z_bipush dX12_readOneOrTwo_29 (x := 10) (by decide +kernel) ?_
      refine z_iload_n dX12_readOneOrTwo_31 0 rfl ?_
      refine z_imul dX12_readOneOrTwo_32 (fun h17 => ?_)
      refine z_aload_n dX12_readOneOrTwo_33 1 rfl ?_
      refine z_callV1 dX12_readOneOrTwo_34 rfl (ct_X12_readDigit n m13) zc_X12 lm_0 k_1214 k_1216 kp_41 k_10 k_1217 zn_X12_readDigit ⟨rfl, rfl, Nat.le_of_ble_eq_true rfl, Nat.le_of_ble_eq_true rfl⟩ (Nat.le_of_ble_eq_true rfl) rfl (fun v18 m19 h20 ho21 => ?_)
      refine z_iadd dX12_readOneOrTwo_37 (fun h22 => ?_)
      refine z_goto dX12_readOneOrTwo_38 (tgt := 42) rfl ?_
      exact z_iret dX12_readOneOrTwo_42 rfl rfl h22
  · refine z_iload_n dX12_readOneOrTwo_41 0 rfl ?_
    exact z_iret dX12_readOneOrTwo_42 rfl rfl h3
set_option maxRecDepth 20000 in
theorem ct_X12_readTwo {ad sc sv : Nat → Nat} (n : Nat) (m : ZMem) : zCT LM ad sc sv M_X12_readTwo yX12_readTwo [.ref (ad 0)] m (F_X12_readTwo n m) := by
  refine zCT_of (lv := [(0, .ref (ad 0))]) (by decide) rfl (Nat.le_of_ble_eq_true rfl) rfl ?_
  unfold F_X12_readTwo
  refine z_aload_n dX12_readTwo_0 0 rfl ?_
  refine z_callV1 dX12_readTwo_1 rfl (ct_X12_readDigit n m) zc_X12 lm_0 k_1214 k_1216 kp_41 k_10 k_1217 zn_X12_readDigit ⟨rfl, rfl, Nat.le_of_ble_eq_true rfl, Nat.le_of_ble_eq_true rfl⟩ (Nat.le_of_ble_eq_true rfl) rfl (fun v1 m2 h3 ho4 => ?_)
  refine z_istore_n dX12_readTwo_4 (lv' := [(1, .int (mI v1)), (0, .ref (ad 0))]) (by decide) rfl ?_
  refine z_bipush dX12_readTwo_5 (x := 10) (by decide +kernel) ?_
  refine z_iload_n dX12_readTwo_7 0 rfl ?_
  refine z_imul dX12_readTwo_8 (fun h5 => ?_)
  refine z_aload_n dX12_readTwo_9 1 rfl ?_
  refine z_callV1 dX12_readTwo_10 rfl (ct_X12_readDigit n m2) zc_X12 lm_0 k_1214 k_1216 kp_41 k_10 k_1217 zn_X12_readDigit ⟨rfl, rfl, Nat.le_of_ble_eq_true rfl, Nat.le_of_ble_eq_true rfl⟩ (Nat.le_of_ble_eq_true rfl) rfl (fun v6 m7 h8 ho9 => ?_)
  refine z_iadd dX12_readTwo_13 (fun h10 => ?_)
  exact z_iret dX12_readTwo_14 rfl rfl h10
set_option maxRecDepth 20000 in
theorem ct_X12_take {ad sc sv : Nat → Nat} (n : Nat) (a0 : Int) (m : ZMem) (ha0 : R32 a0) : zCT LM ad sc sv M_X12_take yX12_take [.ref (ad 0), .int (mI a0)] m (F_X12_take n a0 m) := by
  refine zCT_of (lv := [(0, .ref (ad 0)), (1, .int (mI a0))]) (by decide) rfl (Nat.le_of_ble_eq_true rfl) rfl ?_
  unfold F_X12_take
  refine z_aload_n dX12_take_0 0 rfl ?_
  refine z_aload_n dX12_take_1 0 rfl ?_
  refine z_getI dX12_take_2 (k := 21) zc_X12 lm_0 rfl (by decide) k_1059 (fun h1 => ?_)
  refine z_if_ne dX12_take_5 h1 (tgt := 16) rfl (fun h2 => ?_) (fun h2 => ?_)
  · refine z_aload_n dX12_take_8 0 rfl ?_
    refine z_callV1 dX12_take_9 rfl (ct_X12_here n m) zc_X12 lm_0 k_1206 k_1208 kp_39 k_10 k_1209 zn_X12_here ⟨rfl, rfl, Nat.le_of_ble_eq_true rfl, Nat.le_of_ble_eq_true rfl⟩ (Nat.le_of_ble_eq_true rfl) rfl (fun v3 m4 h5 ho6 => ?_)
    refine z_iload_n dX12_take_12 1 rfl ?_
    refine z_icmp_eq dX12_take_13 h5 ha0 (tgt := 20) rfl (fun h7 => ?_) (fun h7 => ?_)
    · refine z_iconst dX12_take_20 ?_
      refine z_putZ dX12_take_21 (k := 21) zc_X12 lm_0 rfl (by decide) rfl rfl (by decide) k_1059 ?_
      refine z_aload_n dX12_take_24 0 rfl ?_
      refine z_dup dX12_take_25 rfl ?_
      refine z_getI dX12_take_26 (k := 20) zc_X12 lm_0 rfl (by decide) k_1058 (fun h8 => ?_)
      refine z_aload_n dX12_take_29 0 rfl ?_
      refine z_getI dX12_take_30 (k := 21) zc_X12 lm_0 rfl (by decide) k_1059 (fun h9 => ?_)
      refine z_if_eq dX12_take_33 h9 (tgt := 40) rfl (fun h10 => ?_) (fun h10 => ?_)
      · refine z_iconst dX12_take_40 ?_
        refine z_iadd dX12_take_41 (fun h11 => ?_)
        refine z_putI dX12_take_42 (k := 20) zc_X12 lm_0 rfl (by decide) rfl rfl h11 k_1058 ?_
        exact z_vret dX12_take_45 rfl rfl
      · refine z_iconst dX12_take_36 ?_
        refine z_goto dX12_take_37 (tgt := 41) rfl ?_
        refine z_iadd dX12_take_41 (fun h12 => ?_)
        refine z_putI dX12_take_42 (k := 20) zc_X12 lm_0 rfl (by decide) rfl rfl h12 k_1058 ?_
        exact z_vret dX12_take_45 rfl rfl
    · refine z_iconst dX12_take_16 ?_
      refine z_goto dX12_take_17 (tgt := 21) rfl ?_
      refine z_putZ dX12_take_21 (k := 21) zc_X12 lm_0 rfl (by decide) rfl rfl (by decide) k_1059 ?_
      refine z_aload_n dX12_take_24 0 rfl ?_
      refine z_dup dX12_take_25 rfl ?_
      refine z_getI dX12_take_26 (k := 20) zc_X12 lm_0 rfl (by decide) k_1058 (fun h13 => ?_)
      refine z_aload_n dX12_take_29 0 rfl ?_
      refine z_getI dX12_take_30 (k := 21) zc_X12 lm_0 rfl (by decide) k_1059 (fun h14 => ?_)
      refine z_if_eq dX12_take_33 h14 (tgt := 40) rfl (fun h15 => ?_) (fun h15 => ?_)
      · refine z_iconst dX12_take_40 ?_
        refine z_iadd dX12_take_41 (fun h16 => ?_)
        refine z_putI dX12_take_42 (k := 20) zc_X12 lm_0 rfl (by decide) rfl rfl h16 k_1058 ?_
        exact z_vret dX12_take_45 rfl rfl
      · refine z_iconst dX12_take_36 ?_
        refine z_goto dX12_take_37 (tgt := 41) rfl ?_
        refine z_iadd dX12_take_41 (fun h17 => ?_)
        refine z_putI dX12_take_42 (k := 20) zc_X12 lm_0 rfl (by decide) rfl rfl h17 k_1058 ?_
        exact z_vret dX12_take_45 rfl rfl
  · refine z_iconst dX12_take_16 ?_
    refine z_goto dX12_take_17 (tgt := 21) rfl ?_
    refine z_putZ dX12_take_21 (k := 21) zc_X12 lm_0 rfl (by decide) rfl rfl (by decide) k_1059 ?_
    refine z_aload_n dX12_take_24 0 rfl ?_
    refine z_dup dX12_take_25 rfl ?_
    refine z_getI dX12_take_26 (k := 20) zc_X12 lm_0 rfl (by decide) k_1058 (fun h18 => ?_)
    refine z_aload_n dX12_take_29 0 rfl ?_
    refine z_getI dX12_take_30 (k := 21) zc_X12 lm_0 rfl (by decide) k_1059 (fun h19 => ?_)
    refine z_if_eq dX12_take_33 h19 (tgt := 40) rfl (fun h20 => ?_) (fun h20 => ?_)
    · refine z_iconst dX12_take_40 ?_
      refine z_iadd dX12_take_41 (fun h21 => ?_)
      refine z_putI dX12_take_42 (k := 20) zc_X12 lm_0 rfl (by decide) rfl rfl h21 k_1058 ?_
      exact z_vret dX12_take_45 rfl rfl
    · refine z_iconst dX12_take_36 ?_
      refine z_goto dX12_take_37 (tgt := 41) rfl ?_
      refine z_iadd dX12_take_41 (fun h22 => ?_)
      refine z_putI dX12_take_42 (k := 20) zc_X12 lm_0 rfl (by decide) rfl rfl h22 k_1058 ?_
      exact z_vret dX12_take_45 rfl rfl
set_option maxRecDepth 20000 in
theorem T_X12_readShape_30 {ad sc sv : Nat → Nat} (n : Nat) : ∀ (x1 : Int) (s0 : Int) (m : ZMem), R32 x1 → R32 s0 → zG LM ad sc sv M_X12_readShape 30 [(0, .ref (ad 0)), (1, .int (mI x1))] [.int (mI s0), .ref (ad 0)] m (B_X12_readShape_30 n x1 s0 m) := by
  intro x1 s0 m hx1 hs0
  unfold B_X12_readShape_30
  refine zG_chk (fun h9 => ?_)
  refine z_putZ dX12_readShape_30 (k := 21) zc_X12 lm_0 rfl (by decide) rfl rfl h9 k_1059 ?_
  refine z_aload_n dX12_readShape_33 0 rfl ?_
  refine z_dup dX12_readShape_34 rfl ?_
  refine z_getI dX12_readShape_35 (k := 20) zc_X12 lm_0 rfl (by decide) k_1058 (fun h10 => ?_)
  refine z_aload_n dX12_readShape_38 0 rfl ?_
  refine z_getI dX12_readShape_39 (k := 21) zc_X12 lm_0 rfl (by decide) k_1059 (fun h11 => ?_)
  refine z_if_eq dX12_readShape_42 h11 (tgt := 49) rfl (fun h12 => ?_) (fun h12 => ?_)
  · refine z_iconst dX12_readShape_49 ?_
    refine z_iadd dX12_readShape_50 (fun h13 => ?_)
    refine z_putI dX12_readShape_51 (k := 20) zc_X12 lm_0 rfl (by decide) rfl rfl h13 k_1058 ?_
    refine z_iload_n dX12_readShape_54 1 rfl ?_
    refine z_bipush dX12_readShape_55 (x := 113) (by decide +kernel) ?_
    refine z_icmp_ne dX12_readShape_57 hx1 (by decide) (tgt := 64) rfl (fun h14 => ?_) (fun h14 => ?_)
    · refine z_iconst dX12_readShape_60 ?_
      refine z_goto dX12_readShape_61 (tgt := 65) rfl ?_
      exact z_iret dX12_readShape_65 rfl rfl (by decide)
    · refine z_iconst dX12_readShape_64 ?_
      exact z_iret dX12_readShape_65 rfl rfl (by decide)
  · refine z_iconst dX12_readShape_45 ?_
    refine z_goto dX12_readShape_46 (tgt := 50) rfl ?_
    refine z_iadd dX12_readShape_50 (fun h15 => ?_)
    refine z_putI dX12_readShape_51 (k := 20) zc_X12 lm_0 rfl (by decide) rfl rfl h15 k_1058 ?_
    refine z_iload_n dX12_readShape_54 1 rfl ?_
    refine z_bipush dX12_readShape_55 (x := 113) (by decide +kernel) ?_
    refine z_icmp_ne dX12_readShape_57 hx1 (by decide) (tgt := 64) rfl (fun h16 => ?_) (fun h16 => ?_)
    · refine z_iconst dX12_readShape_60 ?_
      refine z_goto dX12_readShape_61 (tgt := 65) rfl ?_
      exact z_iret dX12_readShape_65 rfl rfl (by decide)
    · refine z_iconst dX12_readShape_64 ?_
      exact z_iret dX12_readShape_65 rfl rfl (by decide)
set_option maxRecDepth 20000 in
theorem ct_X12_readShape {ad sc sv : Nat → Nat} (n : Nat) (m : ZMem) : zCT LM ad sc sv M_X12_readShape yX12_readShape [.ref (ad 0)] m (F_X12_readShape n m) := by
  refine zCT_of (lv := [(0, .ref (ad 0))]) (by decide) rfl (Nat.le_of_ble_eq_true rfl) rfl ?_
  unfold F_X12_readShape
  refine z_aload_n dX12_readShape_0 0 rfl ?_
  refine z_callV1 dX12_readShape_1 rfl (ct_X12_here n m) zc_X12 lm_0 k_1206 k_1208 kp_39 k_10 k_1209 zn_X12_here ⟨rfl, rfl, Nat.le_of_ble_eq_true rfl, Nat.le_of_ble_eq_true rfl⟩ (Nat.le_of_ble_eq_true rfl) rfl (fun v1 m2 h3 ho4 => ?_)
  refine z_istore_n dX12_readShape_4 (lv' := [(1, .int (mI v1)), (0, .ref (ad 0))]) (by decide) rfl ?_
  refine z_aload_n dX12_readShape_5 1 rfl ?_
  refine z_aload_n dX12_readShape_6 1 rfl ?_
  refine z_getI dX12_readShape_7 (k := 21) zc_X12 lm_0 rfl (by decide) k_1059 (fun h5 => ?_)
  refine z_if_ne dX12_readShape_10 h5 (tgt := 25) rfl (fun h6 => ?_) (fun h6 => ?_)
  · refine z_iload_n dX12_readShape_13 0 rfl ?_
    refine z_bipush dX12_readShape_14 (x := 111) (by decide +kernel) ?_
    refine z_icmp_eq dX12_readShape_16 h3 (by decide) (tgt := 29) rfl (fun h7 => ?_) (fun h7 => ?_)
    · refine z_iconst dX12_readShape_29 ?_
      exact zG_lvk (T_X12_readShape_30 n v1 0 m2 h3 (by decide)) [1, 0] rfl
    · refine z_iload_n dX12_readShape_19 0 rfl ?_
      refine z_bipush dX12_readShape_20 (x := 113) (by decide +kernel) ?_
      refine z_icmp_eq dX12_readShape_22 h3 (by decide) (tgt := 29) rfl (fun h8 => ?_) (fun h8 => ?_)
      · refine z_iconst dX12_readShape_29 ?_
        exact zG_lvk (T_X12_readShape_30 n v1 0 m2 h3 (by decide)) [1, 0] rfl
      · refine z_iconst dX12_readShape_25 ?_
        refine z_goto dX12_readShape_26 (tgt := 30) rfl ?_
        exact zG_lvk (T_X12_readShape_30 n v1 1 m2 h3 (by decide)) [1, 0] rfl
  · refine z_iconst dX12_readShape_25 ?_
    refine z_goto dX12_readShape_26 (tgt := 30) rfl ?_
    exact zG_lvk (T_X12_readShape_30 n v1 1 m2 h3 (by decide)) [1, 0] rfl
set_option maxRecDepth 20000 in
theorem T_X12_readMany_2 {ad sc sv : Nat → Nat} (n : Nat) (r2 : Int → Int → Int → ZMem → ZR) (hr2 : ∀ (x1 : Int) (x2 : Int) (x3 : Int) (m : ZMem), R32 x1 → R32 x2 → R32 x3 → zG LM ad sc sv M_X12_readMany 2 [(0, .ref (ad 0)), (1, .int (mI x1)), (2, .int (mI x2)), (3, .int (mI x3))] [] m (r2 x1 x2 x3 m)) : ∀ (x1 : Int) (x2 : Int) (x3 : Int) (m : ZMem), R32 x1 → R32 x2 → R32 x3 → zG LM ad sc sv M_X12_readMany 2 [(0, .ref (ad 0)), (1, .int (mI x1)), (2, .int (mI x2)), (3, .int (mI x3))] [] m (B_X12_readMany_2 n r2 x1 x2 x3 m) := by
  intro x1 x2 x3 m hx1 hx2 hx3
  unfold B_X12_readMany_2
  refine z_iload_n dX12_readMany_2 3 rfl ?_
  refine z_iload_n dX12_readMany_3 2 rfl ?_
  refine z_icmp_ge dX12_readMany_4 hx3 hx2 (tgt := 25) rfl (fun h1 => ?_) (fun h1 => ?_)
  · exact z_vret dX12_readMany_25 rfl rfl
  · refine z_aload_n dX12_readMany_7 0 rfl ?_
    refine z_getR dX12_readMany_8 (k := 25) (j := 14) zc_X12 lm_0 rfl (by decide) k_1063 ?_
    refine z_iload_n dX12_readMany_11 1 rfl ?_
    refine z_iload_n dX12_readMany_12 3 rfl ?_
    refine z_iadd dX12_readMany_13 (fun h2 => ?_)
    refine z_aload_n dX12_readMany_14 0 rfl ?_
    refine z_callV1 dX12_readMany_15 rfl (ct_X12_readDigit n m) zc_X12 lm_0 k_1214 k_1216 kp_41 k_10 k_1217 zn_X12_readDigit ⟨rfl, rfl, Nat.le_of_ble_eq_true rfl, Nat.le_of_ble_eq_true rfl⟩ (Nat.le_of_ble_eq_true rfl) rfl (fun v3 m4 h5 ho6 => ?_)
    refine z_iastore dX12_readMany_18 h2 h5 ?_
    refine z_iinc dX12_readMany_19 (lv' := [(3, .int (mI (x3 + 1))), (0, .ref (ad 0)), (1, .int (mI x1)), (2, .int (mI x2))]) 3 rfl (by decide) rfl (fun h7 => ?_)
    refine z_goto dX12_readMany_22 (tgt := 2) rfl ?_
    exact zG_lvk (hr2 x1 x2 (x3 + 1) (wr m4 14 ((x1 + x3) : Int).toNat v3) hx1 hx2 h7) [1, 2, 3, 0] rfl
theorem TL_X12_readMany_2 {ad sc sv : Nat → Nat} (n : Nat) : ∀ q : Nat, ∀ (x1 : Int) (x2 : Int) (x3 : Int) (m : ZMem), R32 x1 → R32 x2 → R32 x3 → zG LM ad sc sv M_X12_readMany 2 [(0, .ref (ad 0)), (1, .int (mI x1)), (2, .int (mI x2)), (3, .int (mI x3))] [] m (L_X12_readMany_2 n q x1 x2 x3 m) := by
  intro q
  induction q with
  | zero => intros; exact zG_none
  | succ q ih => exact T_X12_readMany_2 n (L_X12_readMany_2 n q) ih
set_option maxRecDepth 20000 in
theorem ct_X12_readMany {ad sc sv : Nat → Nat} (n : Nat) (a0 : Int) (a1 : Int) (m : ZMem) (ha0 : R32 a0) (ha1 : R32 a1) : zCT LM ad sc sv M_X12_readMany yX12_readMany [.ref (ad 0), .int (mI a0), .int (mI a1)] m (F_X12_readMany n a0 a1 m) := by
  refine zCT_of (lv := [(0, .ref (ad 0)), (1, .int (mI a0)), (2, .int (mI a1))]) (by decide) rfl (Nat.le_of_ble_eq_true rfl) rfl ?_
  unfold F_X12_readMany
  refine z_iconst dX12_readMany_0 ?_
  refine z_istore_n dX12_readMany_1 (lv' := [(3, .int (mI 0)), (0, .ref (ad 0)), (1, .int (mI a0)), (2, .int (mI a1))]) (by decide) rfl ?_
  exact zG_lvk (TL_X12_readMany_2 n n a0 a1 0 m ha0 ha1 (by decide)) [1, 2, 3, 0] rfl
