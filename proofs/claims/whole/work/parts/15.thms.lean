set_option maxRecDepth 20000 in
theorem ct_X12_guests {ad sc sv : Nat → Nat} (n : Nat) (a0 : Int) (m : ZMem) (ha0 : R32 a0) : zCT LM ad sc sv M_X12_guests yX12_guests [.ref (ad 0), .int (mI a0)] m (F_X12_guests n a0 m) := by
  refine zCT_of (lv := [(0, .ref (ad 0)), (1, .int (mI a0))]) (by decide) rfl (Nat.le_of_ble_eq_true rfl) rfl ?_
  unfold F_X12_guests
  refine z_aload_n dX12_guests_0 0 rfl ?_
  refine z_iconst dX12_guests_1 ?_
  refine z_putI dX12_guests_2 (k := 16) zc_X12 lm_0 rfl (by decide) rfl rfl (by decide) k_1054 ?_
  refine z_iload_n dX12_guests_5 1 rfl ?_
  refine z_iconst dX12_guests_6 ?_
  refine z_bipush dX12_guests_7 (x := 24) (by decide +kernel) ?_
  refine z_callS1 dX12_guests_9 rfl (ct_X12_wrongNumber n a0 1 24 (wr m 0 16 0) ha0 (by decide) (by decide)) k_1318 k_1319 k_10 k_1320 zn_X12_wrongNumber ⟨rfl, rfl, Nat.le_of_ble_eq_true rfl, Nat.le_of_ble_eq_true rfl⟩ (Nat.le_of_ble_eq_true rfl) rfl (fun v1 m2 h3 ho4 => ?_)
  refine z_if_ge dX12_guests_12 h3 (tgt := 27) rfl (fun h5 => ?_) (fun h5 => ?_)
  · refine z_aload_n dX12_guests_27 0 rfl ?_
    refine z_getI dX12_guests_28 (k := 1) zc_X12 lm_0 rfl (by decide) k_1039 (fun h6 => ?_)
    refine z_istore_n dX12_guests_31 (lv' := [(2, .int (mI (m2 0 1))), (0, .ref (ad 0)), (1, .int (mI a0))]) (by decide) rfl ?_
    refine z_aload_n dX12_guests_32 1 rfl ?_
    refine z_callV0 dX12_guests_33 rfl (ct_X12_keepGuests n m2) zc_X12 lm_0 k_1321 k_1323 kp_58 k_10 k_1324 zn_X12_keepGuests ⟨rfl, rfl, Nat.le_of_ble_eq_true rfl, Nat.le_of_ble_eq_true rfl⟩ (Nat.le_of_ble_eq_true rfl) rfl (fun v7 m8 ho10 => ?_)
    refine z_aload_n dX12_guests_36 1 rfl ?_
    refine z_iload_n dX12_guests_37 2 rfl ?_
    refine z_putI dX12_guests_38 (k := 1) zc_X12 lm_0 rfl (by decide) rfl rfl ha0 k_1039 ?_
    refine z_iload_n dX12_guests_41 0 rfl ?_
    exact z_iret dX12_guests_42 rfl rfl h6
  · refine z_aload_n dX12_guests_15 0 rfl ?_
    refine z_iload_n dX12_guests_16 1 rfl ?_
    refine z_iconst dX12_guests_17 ?_
    refine z_bipush dX12_guests_18 (x := 24) (by decide +kernel) ?_
    refine z_callS1 dX12_guests_20 rfl (ct_X12_wrongNumber n a0 1 24 m2 ha0 (by decide) (by decide)) k_1318 k_1319 k_10 k_1320 zn_X12_wrongNumber ⟨rfl, rfl, Nat.le_of_ble_eq_true rfl, Nat.le_of_ble_eq_true rfl⟩ (Nat.le_of_ble_eq_true rfl) rfl (fun v11 m12 h13 ho14 => ?_)
    refine z_callV1 dX12_guests_23 rfl (ct_X12_refuse n v11 m12 h13) zc_X12 lm_0 k_1194 k_1196 kp_37 k_10 k_1197 zn_X12_refuse ⟨rfl, rfl, Nat.le_of_ble_eq_true rfl, Nat.le_of_ble_eq_true rfl⟩ (Nat.le_of_ble_eq_true rfl) rfl (fun v15 m16 h17 ho18 => ?_)
    exact z_iret dX12_guests_26 rfl rfl h17
set_option maxRecDepth 20000 in
theorem ct_X12_back {ad sc sv : Nat → Nat} (n : Nat) (m : ZMem) : zCT LM ad sc sv M_X12_back yX12_back [.ref (ad 0)] m (F_X12_back n m) := by
  refine zCT_of (lv := [(0, .ref (ad 0))]) (by decide) rfl (Nat.le_of_ble_eq_true rfl) rfl ?_
  unfold F_X12_back
  refine z_aload_n dX12_back_0 0 rfl ?_
  refine z_iconst dX12_back_1 ?_
  refine z_putI dX12_back_2 (k := 16) zc_X12 lm_0 rfl (by decide) rfl rfl (by decide) k_1054 ?_
  refine z_aload_n dX12_back_5 0 rfl ?_
  refine z_getI dX12_back_6 (k := 33) zc_X12 lm_0 rfl (by decide) k_1071 (fun h1 => ?_)
  refine z_if_ne dX12_back_9 h1 (tgt := 19) rfl (fun h2 => ?_) (fun h2 => ?_)
  · refine z_aload_n dX12_back_12 0 rfl ?_
    refine z_bipush dX12_back_13 (x := (-3)) (by decide +kernel) ?_
    refine z_callV1 dX12_back_15 rfl (ct_X12_refuse n (-3) (wr m 0 16 0) (by decide)) zc_X12 lm_0 k_1194 k_1196 kp_37 k_10 k_1197 zn_X12_refuse ⟨rfl, rfl, Nat.le_of_ble_eq_true rfl, Nat.le_of_ble_eq_true rfl⟩ (Nat.le_of_ble_eq_true rfl) rfl (fun v3 m4 h5 ho6 => ?_)
    exact z_iret dX12_back_18 rfl rfl h5
  · refine z_aload_n dX12_back_19 0 rfl ?_
    refine z_dup dX12_back_20 rfl ?_
    refine z_getI dX12_back_21 (k := 33) zc_X12 lm_0 rfl (by decide) k_1071 (fun h7 => ?_)
    refine z_iconst dX12_back_24 ?_
    refine z_isub dX12_back_25 (fun h8 => ?_)
    refine z_putI dX12_back_26 (k := 33) zc_X12 lm_0 rfl (by decide) rfl rfl h8 k_1071 ?_
    refine z_aload_n dX12_back_29 0 rfl ?_
    refine z_aload_n dX12_back_30 0 rfl ?_
    refine z_getR dX12_back_31 (k := 32) (j := 17) zc_X12 lm_0 rfl (by decide) k_1070 ?_
    refine z_aload_n dX12_back_34 0 rfl ?_
    refine z_getI dX12_back_35 (k := 33) zc_X12 lm_0 rfl (by decide) k_1071 (fun h9 => ?_)
    refine z_iaload dX12_back_38 h9 (fun h10 => ?_)
    refine z_putI dX12_back_39 (k := 1) zc_X12 lm_0 rfl (by decide) rfl rfl h10 k_1039 ?_
    refine z_aload_n dX12_back_42 0 rfl ?_
    refine z_getI dX12_back_43 (k := 1) zc_X12 lm_0 rfl (by decide) k_1039 (fun h11 => ?_)
    exact z_iret dX12_back_46 rfl rfl h11
set_option maxRecDepth 20000 in
theorem ct_X12_house {ad sc sv : Nat → Nat} (n : Nat) (a0 : Int) (a1 : Int) (m : ZMem) (ha0 : R32 a0) (ha1 : R32 a1) : zCT LM ad sc sv M_X12_house yX12_house [.ref (ad 0), .int (mI a0), .int (mI a1)] m (F_X12_house n a0 a1 m) := by
  refine zCT_of (lv := [(0, .ref (ad 0)), (1, .int (mI a0)), (2, .int (mI a1))]) (by decide) rfl (Nat.le_of_ble_eq_true rfl) rfl ?_
  unfold F_X12_house
  refine z_aload_n dX12_house_0 0 rfl ?_
  refine z_iconst dX12_house_1 ?_
  refine z_putI dX12_house_2 (k := 16) zc_X12 lm_0 rfl (by decide) rfl rfl (by decide) k_1054 ?_
  refine z_aload_n dX12_house_5 0 rfl ?_
  refine z_iload_n dX12_house_6 1 rfl ?_
  refine z_callV4 dX12_house_7 rfl (ct_X12_isPart n a0 (wr m 0 16 0) ha0) zc_X12 lm_0 k_1256 k_1258 kp_50 k_10 k_1259 zn_X12_isPart ⟨rfl, rfl, Nat.le_of_ble_eq_true rfl, Nat.le_of_ble_eq_true rfl⟩ (Nat.le_of_ble_eq_true rfl) rfl (fun v1 m2 h3 ho4 => ?_)
  refine z_if_eq dX12_house_10 (zb01 h3) (tgt := 23) rfl (fun h5 => ?_) (fun h5 => ?_)
  · refine z_iconst dX12_house_23 ?_
    refine z_istore_n dX12_house_24 (lv' := [(3, .int (mI (-1))), (0, .ref (ad 0)), (1, .int (mI a0)), (2, .int (mI a1))]) (by decide) rfl ?_
    refine z_iload_n dX12_house_25 0 rfl ?_
    refine z_if_ge_f dX12_house_26 (by decide) (by decide) (tgt := 35) rfl ?_
    refine z_aload_n dX12_house_29 1 rfl ?_
    refine z_iload_n dX12_house_30 0 rfl ?_
    refine z_callV1 dX12_house_31 rfl (ct_X12_refuse n (-1) m2 (by decide)) zc_X12 lm_0 k_1194 k_1196 kp_37 k_10 k_1197 zn_X12_refuse ⟨rfl, rfl, Nat.le_of_ble_eq_true rfl, Nat.le_of_ble_eq_true rfl⟩ (Nat.le_of_ble_eq_true rfl) rfl (fun v6 m7 h8 ho9 => ?_)
    exact z_iret dX12_house_34 rfl rfl h8
  · refine z_iload_n dX12_house_13 2 rfl ?_
    refine z_iconst dX12_house_14 ?_
    refine z_bipush dX12_house_15 (x := 99) (by decide +kernel) ?_
    refine z_callS1 dX12_house_17 rfl (ct_X12_wrongNumber n a1 0 99 m2 ha1 (by decide) (by decide)) k_1318 k_1319 k_10 k_1320 zn_X12_wrongNumber ⟨rfl, rfl, Nat.le_of_ble_eq_true rfl, Nat.le_of_ble_eq_true rfl⟩ (Nat.le_of_ble_eq_true rfl) rfl (fun v10 m11 h12 ho13 => ?_)
    refine z_goto dX12_house_20 (tgt := 24) rfl ?_
    refine z_istore_n dX12_house_24 (lv' := [(3, .int (mI v10)), (0, .ref (ad 0)), (1, .int (mI a0)), (2, .int (mI a1))]) (by decide) rfl ?_
    refine z_iload_n dX12_house_25 0 rfl ?_
    refine z_if_ge dX12_house_26 h12 (tgt := 35) rfl (fun h14 => ?_) (fun h14 => ?_)
    · refine z_aload_n dX12_house_35 1 rfl ?_
      refine z_getR dX12_house_36 (k := 11) (j := 5) zc_X12 lm_0 rfl (by decide) k_1049 ?_
      refine z_iload_n dX12_house_39 2 rfl ?_
      refine z_iaload dX12_house_40 ha0 (fun h15 => ?_)
      refine z_istore dX12_house_41 (lv' := [(4, .int (mI (m11 5 (a0 : Int).toNat))), (3, .int (mI v10)), (0, .ref (ad 0)), (1, .int (mI a0)), (2, .int (mI a1))]) (by decide) rfl ?_
      refine z_aload_n dX12_house_43 2 rfl ?_
      refine z_getR dX12_house_44 (k := 11) (j := 5) zc_X12 lm_0 rfl (by decide) k_1049 ?_
      refine z_iload_n dX12_house_47 3 rfl ?_
      refine z_iload_n dX12_house_48 4 rfl ?_
      refine z_iastore dX12_house_49 ha0 ha1 ?_
      refine z_iload dX12_house_50 0 rfl ?_
      exact z_iret dX12_house_52 rfl rfl h15
    · refine z_aload_n dX12_house_29 1 rfl ?_
      refine z_iload_n dX12_house_30 0 rfl ?_
      refine z_callV1 dX12_house_31 rfl (ct_X12_refuse n v10 m11 h12) zc_X12 lm_0 k_1194 k_1196 kp_37 k_10 k_1197 zn_X12_refuse ⟨rfl, rfl, Nat.le_of_ble_eq_true rfl, Nat.le_of_ble_eq_true rfl⟩ (Nat.le_of_ble_eq_true rfl) rfl (fun v16 m17 h18 ho19 => ?_)
      exact z_iret dX12_house_34 rfl rfl h18
set_option maxRecDepth 20000 in
theorem T_X12_set_63 {ad sc sv : Nat → Nat} (n : Nat) : ∀ (x1 : Int) (x2 : Int) (s0 : Int) (m : ZMem), R32 x1 → R32 x2 → R32 s0 → zG LM ad sc sv M_X12_set 63 [(0, .ref (ad 0)), (1, .int (mI x1)), (2, .int (mI x2))] [.int (mI s0)] m (B_X12_set_63 n x1 x2 s0 m) := by
  intro x1 x2 s0 m hx1 hx2 hs0
  unfold B_X12_set_63
  refine z_istore dX12_set_63 (lv' := [(4, .int (mI s0)), (0, .ref (ad 0)), (1, .int (mI x1)), (2, .int (mI x2))]) (by decide) rfl ?_
  refine z_aload_n dX12_set_65 1 rfl ?_
  refine z_iload_n dX12_set_66 2 rfl ?_
  refine z_if_ne dX12_set_67 hx1 (tgt := 74) rfl (fun h36 => ?_) (fun h36 => ?_)
  · refine z_iload_n dX12_set_70 3 rfl ?_
    refine z_goto dX12_set_71 (tgt := 78) rfl ?_
    refine z_putI dX12_set_78 (k := 5) zc_X12 lm_0 rfl (by decide) rfl rfl hx2 k_1043 ?_
    refine z_aload_n dX12_set_81 1 rfl ?_
    refine z_iload_n dX12_set_82 2 rfl ?_
    refine z_iconst dX12_set_83 ?_
    refine z_icmp_ne dX12_set_84 hx1 (by decide) (tgt := 91) rfl (fun h37 => ?_) (fun h37 => ?_)
    · refine z_iload_n dX12_set_87 3 rfl ?_
      refine z_goto dX12_set_88 (tgt := 95) rfl ?_
      refine z_putI dX12_set_95 (k := 6) zc_X12 lm_0 rfl (by decide) rfl rfl hx2 k_1044 ?_
      refine z_iload dX12_set_98 0 rfl ?_
      exact z_iret dX12_set_100 rfl rfl hs0
    · refine z_aload_n dX12_set_91 1 rfl ?_
      refine z_getI dX12_set_92 (k := 6) zc_X12 lm_0 rfl (by decide) k_1044 (fun h38 => ?_)
      refine z_putI dX12_set_95 (k := 6) zc_X12 lm_0 rfl (by decide) rfl rfl h38 k_1044 ?_
      refine z_iload dX12_set_98 0 rfl ?_
      exact z_iret dX12_set_100 rfl rfl hs0
  · refine z_aload_n dX12_set_74 1 rfl ?_
    refine z_getI dX12_set_75 (k := 5) zc_X12 lm_0 rfl (by decide) k_1043 (fun h39 => ?_)
    refine z_putI dX12_set_78 (k := 5) zc_X12 lm_0 rfl (by decide) rfl rfl h39 k_1043 ?_
    refine z_aload_n dX12_set_81 1 rfl ?_
    refine z_iload_n dX12_set_82 2 rfl ?_
    refine z_iconst dX12_set_83 ?_
    refine z_icmp_ne dX12_set_84 hx1 (by decide) (tgt := 91) rfl (fun h40 => ?_) (fun h40 => ?_)
    · refine z_iload_n dX12_set_87 3 rfl ?_
      refine z_goto dX12_set_88 (tgt := 95) rfl ?_
      refine z_putI dX12_set_95 (k := 6) zc_X12 lm_0 rfl (by decide) rfl rfl hx2 k_1044 ?_
      refine z_iload dX12_set_98 0 rfl ?_
      exact z_iret dX12_set_100 rfl rfl hs0
    · refine z_aload_n dX12_set_91 1 rfl ?_
      refine z_getI dX12_set_92 (k := 6) zc_X12 lm_0 rfl (by decide) k_1044 (fun h41 => ?_)
      refine z_putI dX12_set_95 (k := 6) zc_X12 lm_0 rfl (by decide) rfl rfl h41 k_1044 ?_
      refine z_iload dX12_set_98 0 rfl ?_
      exact z_iret dX12_set_100 rfl rfl hs0
set_option maxRecDepth 20000 in
theorem ct_X12_set {ad sc sv : Nat → Nat} (n : Nat) (a0 : Int) (a1 : Int) (m : ZMem) (ha0 : R32 a0) (ha1 : R32 a1) : zCT LM ad sc sv M_X12_set yX12_set [.ref (ad 0), .int (mI a0), .int (mI a1)] m (F_X12_set n a0 a1 m) := by
  refine zCT_of (lv := [(0, .ref (ad 0)), (1, .int (mI a0)), (2, .int (mI a1))]) (by decide) rfl (Nat.le_of_ble_eq_true rfl) rfl ?_
  unfold F_X12_set
  refine z_aload_n dX12_set_0 0 rfl ?_
  refine z_iconst dX12_set_1 ?_
  refine z_putI dX12_set_2 (k := 16) zc_X12 lm_0 rfl (by decide) rfl rfl (by decide) k_1054 ?_
  refine z_iload_n dX12_set_5 1 rfl ?_
  refine z_i2l dX12_set_6 ha0 (fun h1 => ?_)
  refine z_lconst dX12_set_7 (x := 0) (by decide +kernel) ?_
  refine z_lconst dX12_set_8 (x := 1) (by decide +kernel) ?_
  refine z_callS4 dX12_set_9 rfl (ct_X12_in n a0 0 1 (wr m 0 16 0) h1 (by decide) (by decide)) k_1220 k_1221 k_10 k_1222 zn_X12_in ⟨rfl, rfl, Nat.le_of_ble_eq_true rfl, Nat.le_of_ble_eq_true rfl⟩ (Nat.le_of_ble_eq_true rfl) rfl (fun v2 m3 h4 ho5 => ?_)
  refine z_if_eq dX12_set_12 (zb01 h4) (tgt := 35) rfl (fun h6 => ?_) (fun h6 => ?_)
  · refine z_bipush dX12_set_35 (x := (-2)) (by decide +kernel) ?_
    refine z_istore_n dX12_set_37 (lv' := [(3, .int (mI (-2))), (0, .ref (ad 0)), (1, .int (mI a0)), (2, .int (mI a1))]) (by decide) rfl ?_
    refine z_iload_n dX12_set_38 0 rfl ?_
    refine z_if_ge_f dX12_set_39 (by decide) (by decide) (tgt := 48) rfl ?_
    refine z_aload_n dX12_set_42 1 rfl ?_
    refine z_iload_n dX12_set_43 0 rfl ?_
    refine z_callV1 dX12_set_44 rfl (ct_X12_refuse n (-2) m3 (by decide)) zc_X12 lm_0 k_1194 k_1196 kp_37 k_10 k_1197 zn_X12_refuse ⟨rfl, rfl, Nat.le_of_ble_eq_true rfl, Nat.le_of_ble_eq_true rfl⟩ (Nat.le_of_ble_eq_true rfl) rfl (fun v7 m8 h9 ho10 => ?_)
    exact z_iret dX12_set_47 rfl rfl h9
  · refine z_iload_n dX12_set_15 2 rfl ?_
    refine z_iconst dX12_set_16 ?_
    refine z_iload_n dX12_set_17 1 rfl ?_
    refine z_if_ne dX12_set_18 ha0 (tgt := 27) rfl (fun h11 => ?_) (fun h11 => ?_)
    · refine z_sipush dX12_set_21 (x := 999) (by decide +kernel) ?_
      refine z_goto dX12_set_24 (tgt := 29) rfl ?_
      refine z_callS1 dX12_set_29 rfl (ct_X12_wrongNumber n a1 1 999 m3 ha1 (by decide) (by decide)) k_1318 k_1319 k_10 k_1320 zn_X12_wrongNumber ⟨rfl, rfl, Nat.le_of_ble_eq_true rfl, Nat.le_of_ble_eq_true rfl⟩ (Nat.le_of_ble_eq_true rfl) rfl (fun v12 m13 h14 ho15 => ?_)
      refine z_goto dX12_set_32 (tgt := 37) rfl ?_
      refine z_istore_n dX12_set_37 (lv' := [(3, .int (mI v12)), (0, .ref (ad 0)), (1, .int (mI a0)), (2, .int (mI a1))]) (by decide) rfl ?_
      refine z_iload_n dX12_set_38 0 rfl ?_
      refine z_if_ge dX12_set_39 h14 (tgt := 48) rfl (fun h16 => ?_) (fun h16 => ?_)
      · refine z_iload_n dX12_set_48 2 rfl ?_
        refine z_if_ne dX12_set_49 ha0 (tgt := 59) rfl (fun h17 => ?_) (fun h17 => ?_)
        · refine z_aload_n dX12_set_52 1 rfl ?_
          refine z_getI dX12_set_53 (k := 5) zc_X12 lm_0 rfl (by decide) k_1043 (fun h18 => ?_)
          refine z_goto dX12_set_56 (tgt := 63) rfl ?_
          exact zG_lvk (T_X12_set_63 n a0 a1 (m13 0 5) m13 ha0 ha1 h18) [1, 2, 3] rfl
        · refine z_aload_n dX12_set_59 1 rfl ?_
          refine z_getI dX12_set_60 (k := 6) zc_X12 lm_0 rfl (by decide) k_1044 (fun h19 => ?_)
          exact zG_lvk (T_X12_set_63 n a0 a1 (m13 0 6) m13 ha0 ha1 h19) [1, 2, 3] rfl
      · refine z_aload_n dX12_set_42 1 rfl ?_
        refine z_iload_n dX12_set_43 0 rfl ?_
        refine z_callV1 dX12_set_44 rfl (ct_X12_refuse n v12 m13 h14) zc_X12 lm_0 k_1194 k_1196 kp_37 k_10 k_1197 zn_X12_refuse ⟨rfl, rfl, Nat.le_of_ble_eq_true rfl, Nat.le_of_ble_eq_true rfl⟩ (Nat.le_of_ble_eq_true rfl) rfl (fun v20 m21 h22 ho23 => ?_)
        exact z_iret dX12_set_47 rfl rfl h22
    · refine z_bipush dX12_set_27 (x := 99) (by decide +kernel) ?_
      refine z_callS1 dX12_set_29 rfl (ct_X12_wrongNumber n a1 1 99 m3 ha1 (by decide) (by decide)) k_1318 k_1319 k_10 k_1320 zn_X12_wrongNumber ⟨rfl, rfl, Nat.le_of_ble_eq_true rfl, Nat.le_of_ble_eq_true rfl⟩ (Nat.le_of_ble_eq_true rfl) rfl (fun v24 m25 h26 ho27 => ?_)
      refine z_goto dX12_set_32 (tgt := 37) rfl ?_
      refine z_istore_n dX12_set_37 (lv' := [(3, .int (mI v24)), (0, .ref (ad 0)), (1, .int (mI a0)), (2, .int (mI a1))]) (by decide) rfl ?_
      refine z_iload_n dX12_set_38 0 rfl ?_
      refine z_if_ge dX12_set_39 h26 (tgt := 48) rfl (fun h28 => ?_) (fun h28 => ?_)
      · refine z_iload_n dX12_set_48 2 rfl ?_
        refine z_if_ne dX12_set_49 ha0 (tgt := 59) rfl (fun h29 => ?_) (fun h29 => ?_)
        · refine z_aload_n dX12_set_52 1 rfl ?_
          refine z_getI dX12_set_53 (k := 5) zc_X12 lm_0 rfl (by decide) k_1043 (fun h30 => ?_)
          refine z_goto dX12_set_56 (tgt := 63) rfl ?_
          exact zG_lvk (T_X12_set_63 n a0 a1 (m25 0 5) m25 ha0 ha1 h30) [1, 2, 3] rfl
        · refine z_aload_n dX12_set_59 1 rfl ?_
          refine z_getI dX12_set_60 (k := 6) zc_X12 lm_0 rfl (by decide) k_1044 (fun h31 => ?_)
          exact zG_lvk (T_X12_set_63 n a0 a1 (m25 0 6) m25 ha0 ha1 h31) [1, 2, 3] rfl
      · refine z_aload_n dX12_set_42 1 rfl ?_
        refine z_iload_n dX12_set_43 0 rfl ?_
        refine z_callV1 dX12_set_44 rfl (ct_X12_refuse n v24 m25 h26) zc_X12 lm_0 k_1194 k_1196 kp_37 k_10 k_1197 zn_X12_refuse ⟨rfl, rfl, Nat.le_of_ble_eq_true rfl, Nat.le_of_ble_eq_true rfl⟩ (Nat.le_of_ble_eq_true rfl) rfl (fun v32 m33 h34 ho35 => ?_)
        exact z_iret dX12_set_47 rfl rfl h34
set_option maxRecDepth 20000 in
theorem T_X12_share_24 {ad sc sv : Nat → Nat} (n : Nat) : ∀ (x1 : Int) (x2 : Int) (x3 : Int) (s0 : Int) (m : ZMem), R32 x1 → R32 x2 → R32 x3 → R32 s0 → zG LM ad sc sv M_X12_share 24 [(0, .ref (ad 0)), (1, .int (mI x1)), (2, .int (mI x2)), (3, .int (mI x3))] [.int (mI s0)] m (B_X12_share_24 n x1 x2 x3 s0 m) := by
  intro x1 x2 x3 s0 m hx1 hx2 hx3 hs0
  unfold B_X12_share_24
  refine z_istore dX12_share_24 (lv' := [(4, .int (mI s0)), (0, .ref (ad 0)), (1, .int (mI x1)), (2, .int (mI x2)), (3, .int (mI x3))]) (by decide) rfl ?_
  refine z_iload dX12_share_26 0 rfl ?_
  refine z_if_ne dX12_share_28 hs0 (tgt := 46) rfl (fun h10 => ?_) (fun h10 => ?_)
  · refine z_iload_n dX12_share_31 4 rfl ?_
    refine z_i2l dX12_share_32 hx3 (fun h11 => ?_)
    refine z_lconst dX12_share_33 (x := 0) (by decide +kernel) ?_
    refine z_lconst dX12_share_34 (x := 1) (by decide +kernel) ?_
    refine z_callS4 dX12_share_35 rfl (ct_X12_in n x3 0 1 m h11 (by decide) (by decide)) k_1220 k_1221 k_10 k_1222 zn_X12_in ⟨rfl, rfl, Nat.le_of_ble_eq_true rfl, Nat.le_of_ble_eq_true rfl⟩ (Nat.le_of_ble_eq_true rfl) rfl (fun v12 m13 h14 ho15 => ?_)
    refine z_if_ne dX12_share_38 (zb01 h14) (tgt := 46) rfl (fun h16 => ?_) (fun h16 => ?_)
    · refine z_bipush dX12_share_41 (x := (-2)) (by decide +kernel) ?_
      refine z_goto dX12_share_43 (tgt := 48) rfl ?_
      refine z_istore dX12_share_48 (lv' := [(4, .int (mI (-2))), (0, .ref (ad 0)), (1, .int (mI x1)), (2, .int (mI x2)), (3, .int (mI x3))]) (by decide) rfl ?_
      refine z_iload dX12_share_50 0 rfl ?_
      refine z_if_ge_f dX12_share_52 (by decide) (by decide) (tgt := 69) rfl ?_
      refine z_ldc2 dX12_share_55 (x := 4000000000000000000) k_1341 ?_
      refine z_aload_n dX12_share_58 1 rfl ?_
      refine z_iload dX12_share_59 0 rfl ?_
      refine z_callV1 dX12_share_61 rfl (ct_X12_refuse n (-2) m13 (by decide)) zc_X12 lm_0 k_1194 k_1196 kp_37 k_10 k_1197 zn_X12_refuse ⟨rfl, rfl, Nat.le_of_ble_eq_true rfl, Nat.le_of_ble_eq_true rfl⟩ (Nat.le_of_ble_eq_true rfl) rfl (fun v17 m18 h19 ho20 => ?_)
      refine z_i2l dX12_share_64 h19 (fun h21 => ?_)
      refine z_lsub dX12_share_65 (fun h22 => ?_)
      refine z_goto dX12_share_66 (tgt := 86) rfl ?_
      exact z_lret dX12_share_86 rfl rfl h22
    · refine z_iload dX12_share_46 0 rfl ?_
      refine z_istore dX12_share_48 (lv' := [(4, .int (mI s0)), (0, .ref (ad 0)), (1, .int (mI x1)), (2, .int (mI x2)), (3, .int (mI x3))]) (by decide) rfl ?_
      refine z_iload dX12_share_50 0 rfl ?_
      refine z_if_ge dX12_share_52 hs0 (tgt := 69) rfl (fun h23 => ?_) (fun h23 => ?_)
      · refine z_aload_n dX12_share_69 1 rfl ?_
        refine z_getR dX12_share_70 (k := 10) (j := 4) zc_X12 lm_0 rfl (by decide) k_1048 ?_
        refine z_iload_n dX12_share_73 2 rfl ?_
        refine z_iaload dX12_share_74 hx1 (fun h24 => ?_)
        refine z_iload_n dX12_share_75 3 rfl ?_
        refine z_imul dX12_share_76 (fun h25 => ?_)
        refine z_aload_n dX12_share_77 1 rfl ?_
        refine z_getI dX12_share_78 (k := 0) zc_X12 lm_0 rfl (by decide) k_1038 (fun h26 => ?_)
        refine z_iload_n dX12_share_81 4 rfl ?_
        refine z_callS1 dX12_share_82 rfl (ct_X12_partOf n ((m13 4 (x1 : Int).toNat) * x2) (m13 0 0) x3 m13 h25 h26 hx3) k_1342 k_1343 k_10 k_1344 zn_X12_partOf ⟨rfl, rfl, Nat.le_of_ble_eq_true rfl, Nat.le_of_ble_eq_true rfl⟩ (Nat.le_of_ble_eq_true rfl) rfl (fun v27 m28 h29 ho30 => ?_)
        refine z_i2l dX12_share_85 h29 (fun h31 => ?_)
        exact z_lret dX12_share_86 rfl rfl h31
      · refine z_ldc2 dX12_share_55 (x := 4000000000000000000) k_1341 ?_
        refine z_aload_n dX12_share_58 1 rfl ?_
        refine z_iload dX12_share_59 0 rfl ?_
        refine z_callV1 dX12_share_61 rfl (ct_X12_refuse n s0 m13 hs0) zc_X12 lm_0 k_1194 k_1196 kp_37 k_10 k_1197 zn_X12_refuse ⟨rfl, rfl, Nat.le_of_ble_eq_true rfl, Nat.le_of_ble_eq_true rfl⟩ (Nat.le_of_ble_eq_true rfl) rfl (fun v32 m33 h34 ho35 => ?_)
        refine z_i2l dX12_share_64 h34 (fun h36 => ?_)
        refine z_lsub dX12_share_65 (fun h37 => ?_)
        refine z_goto dX12_share_66 (tgt := 86) rfl ?_
        exact z_lret dX12_share_86 rfl rfl h37
  · refine z_iload dX12_share_46 0 rfl ?_
    refine z_istore dX12_share_48 (lv' := [(4, .int (mI s0)), (0, .ref (ad 0)), (1, .int (mI x1)), (2, .int (mI x2)), (3, .int (mI x3))]) (by decide) rfl ?_
    refine z_iload dX12_share_50 0 rfl ?_
    refine z_if_ge dX12_share_52 hs0 (tgt := 69) rfl (fun h38 => ?_) (fun h38 => ?_)
    · refine z_aload_n dX12_share_69 1 rfl ?_
      refine z_getR dX12_share_70 (k := 10) (j := 4) zc_X12 lm_0 rfl (by decide) k_1048 ?_
      refine z_iload_n dX12_share_73 2 rfl ?_
      refine z_iaload dX12_share_74 hx1 (fun h39 => ?_)
      refine z_iload_n dX12_share_75 3 rfl ?_
      refine z_imul dX12_share_76 (fun h40 => ?_)
      refine z_aload_n dX12_share_77 1 rfl ?_
      refine z_getI dX12_share_78 (k := 0) zc_X12 lm_0 rfl (by decide) k_1038 (fun h41 => ?_)
      refine z_iload_n dX12_share_81 4 rfl ?_
      refine z_callS1 dX12_share_82 rfl (ct_X12_partOf n ((m 4 (x1 : Int).toNat) * x2) (m 0 0) x3 m h40 h41 hx3) k_1342 k_1343 k_10 k_1344 zn_X12_partOf ⟨rfl, rfl, Nat.le_of_ble_eq_true rfl, Nat.le_of_ble_eq_true rfl⟩ (Nat.le_of_ble_eq_true rfl) rfl (fun v42 m43 h44 ho45 => ?_)
      refine z_i2l dX12_share_85 h44 (fun h46 => ?_)
      exact z_lret dX12_share_86 rfl rfl h46
    · refine z_ldc2 dX12_share_55 (x := 4000000000000000000) k_1341 ?_
      refine z_aload_n dX12_share_58 1 rfl ?_
      refine z_iload dX12_share_59 0 rfl ?_
      refine z_callV1 dX12_share_61 rfl (ct_X12_refuse n s0 m hs0) zc_X12 lm_0 k_1194 k_1196 kp_37 k_10 k_1197 zn_X12_refuse ⟨rfl, rfl, Nat.le_of_ble_eq_true rfl, Nat.le_of_ble_eq_true rfl⟩ (Nat.le_of_ble_eq_true rfl) rfl (fun v47 m48 h49 ho50 => ?_)
      refine z_i2l dX12_share_64 h49 (fun h51 => ?_)
      refine z_lsub dX12_share_65 (fun h52 => ?_)
      refine z_goto dX12_share_66 (tgt := 86) rfl ?_
      exact z_lret dX12_share_86 rfl rfl h52
set_option maxRecDepth 20000 in
theorem ct_X12_share {ad sc sv : Nat → Nat} (n : Nat) (a0 : Int) (a1 : Int) (a2 : Int) (m : ZMem) (ha0 : R32 a0) (ha1 : R32 a1) (ha2 : R32 a2) : zCT LM ad sc sv M_X12_share yX12_share [.ref (ad 0), .int (mI a0), .int (mI a1), .int (mI a2)] m (F_X12_share n a0 a1 a2 m) := by
  refine zCT_of (lv := [(0, .ref (ad 0)), (1, .int (mI a0)), (2, .int (mI a1)), (3, .int (mI a2))]) (by decide) rfl (Nat.le_of_ble_eq_true rfl) rfl ?_
  unfold F_X12_share
  refine z_aload_n dX12_share_0 0 rfl ?_
  refine z_iconst dX12_share_1 ?_
  refine z_putI dX12_share_2 (k := 16) zc_X12 lm_0 rfl (by decide) rfl rfl (by decide) k_1054 ?_
  refine z_aload_n dX12_share_5 0 rfl ?_
  refine z_iload_n dX12_share_6 1 rfl ?_
  refine z_callV4 dX12_share_7 rfl (ct_X12_isPart n a0 (wr m 0 16 0) ha0) zc_X12 lm_0 k_1256 k_1258 kp_50 k_10 k_1259 zn_X12_isPart ⟨rfl, rfl, Nat.le_of_ble_eq_true rfl, Nat.le_of_ble_eq_true rfl⟩ (Nat.le_of_ble_eq_true rfl) rfl (fun v1 m2 h3 ho4 => ?_)
  refine z_if_eq dX12_share_10 (zb01 h3) (tgt := 23) rfl (fun h5 => ?_) (fun h5 => ?_)
  · refine z_iconst dX12_share_23 ?_
    exact zG_lvk (T_X12_share_24 n a0 a1 a2 (-1) m2 ha0 ha1 ha2 (by decide)) [0, 1, 2, 3] rfl
  · refine z_iload_n dX12_share_13 2 rfl ?_
    refine z_iconst dX12_share_14 ?_
    refine z_bipush dX12_share_15 (x := 24) (by decide +kernel) ?_
    refine z_callS1 dX12_share_17 rfl (ct_X12_wrongNumber n a1 1 24 m2 ha1 (by decide) (by decide)) k_1318 k_1319 k_10 k_1320 zn_X12_wrongNumber ⟨rfl, rfl, Nat.le_of_ble_eq_true rfl, Nat.le_of_ble_eq_true rfl⟩ (Nat.le_of_ble_eq_true rfl) rfl (fun v6 m7 h8 ho9 => ?_)
    refine z_goto dX12_share_20 (tgt := 24) rfl ?_
    exact zG_lvk (T_X12_share_24 n a0 a1 a2 v6 m7 ha0 ha1 ha2 h8) [0, 1, 2, 3] rfl
set_option maxRecDepth 20000 in
theorem T_X12_off_38 {ad sc sv : Nat → Nat} (n : Nat) : ∀ (x1 : Int) (x2 : Int) (s0 : Int) (m : ZMem), R32 x1 → R32 x2 → R32 s0 → zG LM ad sc sv M_X12_off 38 [(0, .ref (ad 0)), (1, .int (mI x1)), (2, .int (mI x2))] [.int (mI s0)] m (B_X12_off_38 n x1 x2 s0 m) := by
  intro x1 x2 s0 m hx1 hx2 hs0
  unfold B_X12_off_38
  refine z_istore_n dX12_off_38 (lv' := [(3, .int (mI s0)), (0, .ref (ad 0)), (1, .int (mI x1)), (2, .int (mI x2))]) (by decide) rfl ?_
  refine z_iload_n dX12_off_39 0 rfl ?_
  refine z_if_ge dX12_off_40 hs0 (tgt := 54) rfl (fun h19 => ?_) (fun h19 => ?_)
  · refine z_iload_n dX12_off_54 2 rfl ?_
    refine z_if_ge dX12_off_55 hx1 (tgt := 69) rfl (fun h20 => ?_) (fun h20 => ?_)
    · refine z_aload_n dX12_off_69 1 rfl ?_
      refine z_iload_n dX12_off_70 2 rfl ?_
      refine z_aload_n dX12_off_71 1 rfl ?_
      refine z_getR dX12_off_72 (k := 10) (j := 4) zc_X12 lm_0 rfl (by decide) k_1048 ?_
      refine z_iload_n dX12_off_75 2 rfl ?_
      refine z_iaload dX12_off_76 hx1 (fun h21 => ?_)
      refine z_aload_n dX12_off_77 1 rfl ?_
      refine z_getI dX12_off_78 (k := 1) zc_X12 lm_0 rfl (by decide) k_1039 (fun h22 => ?_)
      refine z_imul dX12_off_81 (fun h23 => ?_)
      refine z_aload_n dX12_off_82 1 rfl ?_
      refine z_getI dX12_off_83 (k := 0) zc_X12 lm_0 rfl (by decide) k_1038 (fun h24 => ?_)
      refine z_callV1 dX12_off_86 rfl (ct_X12_offBy n x1 ((m 4 (x1 : Int).toNat) * (m 0 1)) (m 0 0) m hx1 h23 h24) zc_X12 lm_0 k_1356 k_1358 kp_60 k_10 k_1359 zn_X12_offBy ⟨rfl, rfl, Nat.le_of_ble_eq_true rfl, Nat.le_of_ble_eq_true rfl⟩ (Nat.le_of_ble_eq_true rfl) rfl (fun v25 m26 h27 ho28 => ?_)
      refine z_aload_n dX12_off_89 1 rfl ?_
      refine z_getI dX12_off_90 (k := 0) zc_X12 lm_0 rfl (by decide) k_1038 (fun h29 => ?_)
      refine z_iload_n dX12_off_93 3 rfl ?_
      refine z_callS1 dX12_off_94 rfl (ct_X12_partOf n v25 (m26 0 0) x2 m26 h27 h29 hx2) k_1342 k_1343 k_10 k_1344 zn_X12_partOf ⟨rfl, rfl, Nat.le_of_ble_eq_true rfl, Nat.le_of_ble_eq_true rfl⟩ (Nat.le_of_ble_eq_true rfl) rfl (fun v30 m31 h32 ho33 => ?_)
      refine z_i2l dX12_off_97 h32 (fun h34 => ?_)
      exact z_lret dX12_off_98 rfl rfl h34
    · refine z_aload_n dX12_off_58 1 rfl ?_
      refine z_aload_n dX12_off_59 1 rfl ?_
      refine z_getI dX12_off_60 (k := 1) zc_X12 lm_0 rfl (by decide) k_1039 (fun h35 => ?_)
      refine z_callV1 dX12_off_63 rfl (ct_X12_offOf n (m 0 1) m h35) zc_X12 lm_0 k_1352 k_1354 kp_59 k_10 k_1355 zn_X12_offOf ⟨rfl, rfl, Nat.le_of_ble_eq_true rfl, Nat.le_of_ble_eq_true rfl⟩ (Nat.le_of_ble_eq_true rfl) rfl (fun v36 m37 h38 ho39 => ?_)
      refine z_goto dX12_off_66 (tgt := 89) rfl ?_
      refine z_aload_n dX12_off_89 1 rfl ?_
      refine z_getI dX12_off_90 (k := 0) zc_X12 lm_0 rfl (by decide) k_1038 (fun h40 => ?_)
      refine z_iload_n dX12_off_93 3 rfl ?_
      refine z_callS1 dX12_off_94 rfl (ct_X12_partOf n v36 (m37 0 0) x2 m37 h38 h40 hx2) k_1342 k_1343 k_10 k_1344 zn_X12_partOf ⟨rfl, rfl, Nat.le_of_ble_eq_true rfl, Nat.le_of_ble_eq_true rfl⟩ (Nat.le_of_ble_eq_true rfl) rfl (fun v41 m42 h43 ho44 => ?_)
      refine z_i2l dX12_off_97 h43 (fun h45 => ?_)
      exact z_lret dX12_off_98 rfl rfl h45
  · refine z_ldc2 dX12_off_43 (x := 4000000000000000000) k_1341 ?_
    refine z_aload_n dX12_off_46 1 rfl ?_
    refine z_iload_n dX12_off_47 0 rfl ?_
    refine z_callV1 dX12_off_48 rfl (ct_X12_refuse n s0 m hs0) zc_X12 lm_0 k_1194 k_1196 kp_37 k_10 k_1197 zn_X12_refuse ⟨rfl, rfl, Nat.le_of_ble_eq_true rfl, Nat.le_of_ble_eq_true rfl⟩ (Nat.le_of_ble_eq_true rfl) rfl (fun v46 m47 h48 ho49 => ?_)
    refine z_i2l dX12_off_51 h48 (fun h50 => ?_)
    refine z_lsub dX12_off_52 (fun h51 => ?_)
    exact z_lret dX12_off_53 rfl rfl h51
set_option maxRecDepth 20000 in
theorem ct_X12_off {ad sc sv : Nat → Nat} (n : Nat) (a0 : Int) (a1 : Int) (m : ZMem) (ha0 : R32 a0) (ha1 : R32 a1) : zCT LM ad sc sv M_X12_off yX12_off [.ref (ad 0), .int (mI a0), .int (mI a1)] m (F_X12_off n a0 a1 m) := by
  refine zCT_of (lv := [(0, .ref (ad 0)), (1, .int (mI a0)), (2, .int (mI a1))]) (by decide) rfl (Nat.le_of_ble_eq_true rfl) rfl ?_
  unfold F_X12_off
  refine z_aload_n dX12_off_0 0 rfl ?_
  refine z_iconst dX12_off_1 ?_
  refine z_putI dX12_off_2 (k := 16) zc_X12 lm_0 rfl (by decide) rfl rfl (by decide) k_1054 ?_
  refine z_iload_n dX12_off_5 1 rfl ?_
  refine z_iconst dX12_off_6 ?_
  refine z_icmp_eq dX12_off_7 ha0 (by decide) (tgt := 22) rfl (fun h1 => ?_) (fun h1 => ?_)
  · refine z_iload_n dX12_off_22 2 rfl ?_
    refine z_i2l dX12_off_23 ha1 (fun h2 => ?_)
    refine z_lconst dX12_off_24 (x := 0) (by decide +kernel) ?_
    refine z_lconst dX12_off_25 (x := 1) (by decide +kernel) ?_
    refine z_callS4 dX12_off_26 rfl (ct_X12_in n a1 0 1 (wr m 0 16 0) h2 (by decide) (by decide)) k_1220 k_1221 k_10 k_1222 zn_X12_in ⟨rfl, rfl, Nat.le_of_ble_eq_true rfl, Nat.le_of_ble_eq_true rfl⟩ (Nat.le_of_ble_eq_true rfl) rfl (fun v3 m4 h5 ho6 => ?_)
    refine z_if_ne dX12_off_29 (zb01 h5) (tgt := 37) rfl (fun h7 => ?_) (fun h7 => ?_)
    · refine z_bipush dX12_off_32 (x := (-2)) (by decide +kernel) ?_
      refine z_goto dX12_off_34 (tgt := 38) rfl ?_
      exact zG_lvk (T_X12_off_38 n a0 a1 (-2) m4 ha0 ha1 (by decide)) [0, 1, 2] rfl
    · refine z_iconst dX12_off_37 ?_
      exact zG_lvk (T_X12_off_38 n a0 a1 0 m4 ha0 ha1 (by decide)) [0, 1, 2] rfl
  · refine z_aload_n dX12_off_10 0 rfl ?_
    refine z_iload_n dX12_off_11 1 rfl ?_
    refine z_callV4 dX12_off_12 rfl (ct_X12_isPart n a0 (wr m 0 16 0) ha0) zc_X12 lm_0 k_1256 k_1258 kp_50 k_10 k_1259 zn_X12_isPart ⟨rfl, rfl, Nat.le_of_ble_eq_true rfl, Nat.le_of_ble_eq_true rfl⟩ (Nat.le_of_ble_eq_true rfl) rfl (fun v8 m9 h10 ho11 => ?_)
    refine z_if_ne dX12_off_15 (zb01 h10) (tgt := 22) rfl (fun h12 => ?_) (fun h12 => ?_)
    · refine z_iconst dX12_off_18 ?_
      refine z_goto dX12_off_19 (tgt := 38) rfl ?_
      exact zG_lvk (T_X12_off_38 n a0 a1 (-1) m9 ha0 ha1 (by decide)) [0, 1, 2] rfl
    · refine z_iload_n dX12_off_22 2 rfl ?_
      refine z_i2l dX12_off_23 ha1 (fun h13 => ?_)
      refine z_lconst dX12_off_24 (x := 0) (by decide +kernel) ?_
      refine z_lconst dX12_off_25 (x := 1) (by decide +kernel) ?_
      refine z_callS4 dX12_off_26 rfl (ct_X12_in n a1 0 1 m9 h13 (by decide) (by decide)) k_1220 k_1221 k_10 k_1222 zn_X12_in ⟨rfl, rfl, Nat.le_of_ble_eq_true rfl, Nat.le_of_ble_eq_true rfl⟩ (Nat.le_of_ble_eq_true rfl) rfl (fun v14 m15 h16 ho17 => ?_)
      refine z_if_ne dX12_off_29 (zb01 h16) (tgt := 37) rfl (fun h18 => ?_) (fun h18 => ?_)
      · refine z_bipush dX12_off_32 (x := (-2)) (by decide +kernel) ?_
        refine z_goto dX12_off_34 (tgt := 38) rfl ?_
        exact zG_lvk (T_X12_off_38 n a0 a1 (-2) m15 ha0 ha1 (by decide)) [0, 1, 2] rfl
      · refine z_iconst dX12_off_37 ?_
        exact zG_lvk (T_X12_off_38 n a0 a1 0 m15 ha0 ha1 (by decide)) [0, 1, 2] rfl
set_option maxRecDepth 20000 in
theorem T_X12_best_67 {ad sc sv : Nat → Nat} (n : Nat) (r67 : Int → Int → Int → ZMem → ZR) (hr67 : ∀ (x2 : Int) (x4 : Int) (x5 : Int) (m : ZMem), R32 x2 → R32 x4 → R32 x5 → zG LM ad sc sv M_X12_best 67 [(0, .ref (ad 0)), (2, .int (mI x2)), (4, .int (mI x4)), (5, .int (mI x5))] [] m (r67 x2 x4 x5 m)) : ∀ (x2 : Int) (x4 : Int) (x5 : Int) (m : ZMem), R32 x2 → R32 x4 → R32 x5 → zG LM ad sc sv M_X12_best 67 [(0, .ref (ad 0)), (2, .int (mI x2)), (4, .int (mI x4)), (5, .int (mI x5))] [] m (B_X12_best_67 n r67 x2 x4 x5 m) := by
  intro x2 x4 x5 m hx2 hx4 hx5
  unfold B_X12_best_67
  refine z_iload dX12_best_67 3 rfl ?_
  refine z_iload_n dX12_best_69 1 rfl ?_
  refine z_icmp_gt dX12_best_70 hx5 hx2 (tgt := 103) rfl (fun h27 => ?_) (fun h27 => ?_)
  · refine z_iload dX12_best_103 2 rfl ?_
    exact z_iret dX12_best_105 rfl rfl hx4
  · refine z_aload_n dX12_best_73 0 rfl ?_
    refine z_iload dX12_best_74 3 rfl ?_
    refine z_callV1 dX12_best_76 rfl (ct_X12_offOf n x5 m hx5) zc_X12 lm_0 k_1352 k_1354 kp_59 k_10 k_1355 zn_X12_offOf ⟨rfl, rfl, Nat.le_of_ble_eq_true rfl, Nat.le_of_ble_eq_true rfl⟩ (Nat.le_of_ble_eq_true rfl) rfl (fun v28 m29 h30 ho31 => ?_)
    refine z_aload_n dX12_best_79 0 rfl ?_
    refine z_iload dX12_best_80 2 rfl ?_
    refine z_callV1 dX12_best_82 rfl (ct_X12_offOf n x4 m29 hx4) zc_X12 lm_0 k_1352 k_1354 kp_59 k_10 k_1355 zn_X12_offOf ⟨rfl, rfl, Nat.le_of_ble_eq_true rfl, Nat.le_of_ble_eq_true rfl⟩ (Nat.le_of_ble_eq_true rfl) rfl (fun v32 m33 h34 ho35 => ?_)
    refine z_icmp_ge dX12_best_85 h30 h34 (tgt := 93) rfl (fun h36 => ?_) (fun h36 => ?_)
    · refine z_iload dX12_best_93 2 rfl ?_
      refine z_istore dX12_best_95 (lv' := [(4, .int (mI x4)), (0, .ref (ad 0)), (2, .int (mI x2)), (5, .int (mI x5))]) (by decide) rfl ?_
      refine z_iinc dX12_best_97 (lv' := [(5, .int (mI (x5 + 1))), (4, .int (mI x4)), (0, .ref (ad 0)), (2, .int (mI x2))]) 3 rfl (by decide) rfl (fun h37 => ?_)
      refine z_goto dX12_best_100 (tgt := 67) rfl ?_
      exact zG_lvk (hr67 x2 x4 (x5 + 1) m33 hx2 hx4 h37) [2, 3, 1, 0] rfl
    · refine z_iload dX12_best_88 3 rfl ?_
      refine z_goto dX12_best_90 (tgt := 95) rfl ?_
      refine z_istore dX12_best_95 (lv' := [(4, .int (mI x5)), (0, .ref (ad 0)), (2, .int (mI x2)), (5, .int (mI x5))]) (by decide) rfl ?_
      refine z_iinc dX12_best_97 (lv' := [(5, .int (mI (x5 + 1))), (4, .int (mI x5)), (0, .ref (ad 0)), (2, .int (mI x2))]) 3 rfl (by decide) rfl (fun h38 => ?_)
      refine z_goto dX12_best_100 (tgt := 67) rfl ?_
      exact zG_lvk (hr67 x2 x5 (x5 + 1) m33 hx2 hx5 h38) [2, 3, 1, 0] rfl
theorem TL_X12_best_67 {ad sc sv : Nat → Nat} (n : Nat) : ∀ q : Nat, ∀ (x2 : Int) (x4 : Int) (x5 : Int) (m : ZMem), R32 x2 → R32 x4 → R32 x5 → zG LM ad sc sv M_X12_best 67 [(0, .ref (ad 0)), (2, .int (mI x2)), (4, .int (mI x4)), (5, .int (mI x5))] [] m (L_X12_best_67 n q x2 x4 x5 m) := by
  intro q
  induction q with
  | zero => intros; exact zG_none
  | succ q ih => exact T_X12_best_67 n (L_X12_best_67 n q) ih
set_option maxRecDepth 20000 in
theorem ct_X12_best {ad sc sv : Nat → Nat} (n : Nat) (a0 : Int) (a1 : Int) (m : ZMem) (ha0 : R32 a0) (ha1 : R32 a1) : zCT LM ad sc sv M_X12_best yX12_best [.ref (ad 0), .int (mI a0), .int (mI a1)] m (F_X12_best n a0 a1 m) := by
  refine zCT_of (lv := [(0, .ref (ad 0)), (1, .int (mI a0)), (2, .int (mI a1))]) (by decide) rfl (Nat.le_of_ble_eq_true rfl) rfl ?_
  unfold F_X12_best
  refine z_aload_n dX12_best_0 0 rfl ?_
  refine z_iconst dX12_best_1 ?_
  refine z_putI dX12_best_2 (k := 16) zc_X12 lm_0 rfl (by decide) rfl rfl (by decide) k_1054 ?_
  refine z_iload_n dX12_best_5 1 rfl ?_
  refine z_iconst dX12_best_6 ?_
  refine z_icmp_lt dX12_best_7 ha0 (by decide) (tgt := 15) rfl (fun h1 => ?_) (fun h1 => ?_)
  · refine z_bipush dX12_best_15 (x := (-4)) (by decide +kernel) ?_
    refine z_goto dX12_best_17 (tgt := 48) rfl ?_
    refine z_istore_n dX12_best_48 (lv' := [(3, .int (mI (-4))), (0, .ref (ad 0)), (1, .int (mI a0)), (2, .int (mI a1))]) (by decide) rfl ?_
    refine z_iload_n dX12_best_49 0 rfl ?_
    refine z_if_ge_f dX12_best_50 (by decide) (by decide) (tgt := 59) rfl ?_
    refine z_aload_n dX12_best_53 1 rfl ?_
    refine z_iload_n dX12_best_54 0 rfl ?_
    refine z_callV1 dX12_best_55 rfl (ct_X12_refuse n (-4) (wr m 0 16 0) (by decide)) zc_X12 lm_0 k_1194 k_1196 kp_37 k_10 k_1197 zn_X12_refuse ⟨rfl, rfl, Nat.le_of_ble_eq_true rfl, Nat.le_of_ble_eq_true rfl⟩ (Nat.le_of_ble_eq_true rfl) rfl (fun v2 m3 h4 ho5 => ?_)
    exact z_iret dX12_best_58 rfl rfl h4
  · refine z_iload_n dX12_best_10 2 rfl ?_
    refine z_iconst dX12_best_11 ?_
    refine z_icmp_ge dX12_best_12 ha1 (by decide) (tgt := 20) rfl (fun h6 => ?_) (fun h6 => ?_)
    · refine z_iload_n dX12_best_20 1 rfl ?_
      refine z_bipush dX12_best_21 (x := 24) (by decide +kernel) ?_
      refine z_icmp_gt dX12_best_23 ha0 (by decide) (tgt := 32) rfl (fun h7 => ?_) (fun h7 => ?_)
      · refine z_bipush dX12_best_32 (x := (-6)) (by decide +kernel) ?_
        refine z_goto dX12_best_34 (tgt := 48) rfl ?_
        refine z_istore_n dX12_best_48 (lv' := [(3, .int (mI (-6))), (0, .ref (ad 0)), (1, .int (mI a0)), (2, .int (mI a1))]) (by decide) rfl ?_
        refine z_iload_n dX12_best_49 0 rfl ?_
        refine z_if_ge_f dX12_best_50 (by decide) (by decide) (tgt := 59) rfl ?_
        refine z_aload_n dX12_best_53 1 rfl ?_
        refine z_iload_n dX12_best_54 0 rfl ?_
        refine z_callV1 dX12_best_55 rfl (ct_X12_refuse n (-6) (wr m 0 16 0) (by decide)) zc_X12 lm_0 k_1194 k_1196 kp_37 k_10 k_1197 zn_X12_refuse ⟨rfl, rfl, Nat.le_of_ble_eq_true rfl, Nat.le_of_ble_eq_true rfl⟩ (Nat.le_of_ble_eq_true rfl) rfl (fun v8 m9 h10 ho11 => ?_)
        exact z_iret dX12_best_58 rfl rfl h10
      · refine z_iload_n dX12_best_26 2 rfl ?_
        refine z_bipush dX12_best_27 (x := 24) (by decide +kernel) ?_
        refine z_icmp_le dX12_best_29 ha1 (by decide) (tgt := 37) rfl (fun h12 => ?_) (fun h12 => ?_)
        · refine z_iload_n dX12_best_37 1 rfl ?_
          refine z_iload_n dX12_best_38 2 rfl ?_
          refine z_icmp_le dX12_best_39 ha0 ha1 (tgt := 47) rfl (fun h13 => ?_) (fun h13 => ?_)
          · refine z_iconst dX12_best_47 ?_
            refine z_istore_n dX12_best_48 (lv' := [(3, .int (mI 0)), (0, .ref (ad 0)), (1, .int (mI a0)), (2, .int (mI a1))]) (by decide) rfl ?_
            refine z_iload_n dX12_best_49 0 rfl ?_
            refine z_if_ge_t dX12_best_50 (by decide) (by decide) (tgt := 59) rfl ?_
            refine z_iload_n dX12_best_59 2 rfl ?_
            refine z_istore dX12_best_60 (lv' := [(4, .int (mI a0)), (3, .int (mI 0)), (0, .ref (ad 0)), (1, .int (mI a0)), (2, .int (mI a1))]) (by decide) rfl ?_
            refine z_iload_n dX12_best_62 3 rfl ?_
            refine z_iconst dX12_best_63 ?_
            refine z_iadd dX12_best_64 (fun h14 => ?_)
            refine z_istore dX12_best_65 (lv' := [(5, .int (mI (a0 + 1))), (4, .int (mI a0)), (3, .int (mI 0)), (0, .ref (ad 0)), (1, .int (mI a0)), (2, .int (mI a1))]) (by decide) rfl ?_
            exact zG_lvk (TL_X12_best_67 n n a1 a0 (a0 + 1) (wr m 0 16 0) ha1 ha0 h14) [3, 5, 1, 0] rfl
          · refine z_bipush dX12_best_42 (x := (-3)) (by decide +kernel) ?_
            refine z_goto dX12_best_44 (tgt := 48) rfl ?_
            refine z_istore_n dX12_best_48 (lv' := [(3, .int (mI (-3))), (0, .ref (ad 0)), (1, .int (mI a0)), (2, .int (mI a1))]) (by decide) rfl ?_
            refine z_iload_n dX12_best_49 0 rfl ?_
            refine z_if_ge_f dX12_best_50 (by decide) (by decide) (tgt := 59) rfl ?_
            refine z_aload_n dX12_best_53 1 rfl ?_
            refine z_iload_n dX12_best_54 0 rfl ?_
            refine z_callV1 dX12_best_55 rfl (ct_X12_refuse n (-3) (wr m 0 16 0) (by decide)) zc_X12 lm_0 k_1194 k_1196 kp_37 k_10 k_1197 zn_X12_refuse ⟨rfl, rfl, Nat.le_of_ble_eq_true rfl, Nat.le_of_ble_eq_true rfl⟩ (Nat.le_of_ble_eq_true rfl) rfl (fun v15 m16 h17 ho18 => ?_)
            exact z_iret dX12_best_58 rfl rfl h17
        · refine z_bipush dX12_best_32 (x := (-6)) (by decide +kernel) ?_
          refine z_goto dX12_best_34 (tgt := 48) rfl ?_
          refine z_istore_n dX12_best_48 (lv' := [(3, .int (mI (-6))), (0, .ref (ad 0)), (1, .int (mI a0)), (2, .int (mI a1))]) (by decide) rfl ?_
          refine z_iload_n dX12_best_49 0 rfl ?_
          refine z_if_ge_f dX12_best_50 (by decide) (by decide) (tgt := 59) rfl ?_
          refine z_aload_n dX12_best_53 1 rfl ?_
          refine z_iload_n dX12_best_54 0 rfl ?_
          refine z_callV1 dX12_best_55 rfl (ct_X12_refuse n (-6) (wr m 0 16 0) (by decide)) zc_X12 lm_0 k_1194 k_1196 kp_37 k_10 k_1197 zn_X12_refuse ⟨rfl, rfl, Nat.le_of_ble_eq_true rfl, Nat.le_of_ble_eq_true rfl⟩ (Nat.le_of_ble_eq_true rfl) rfl (fun v19 m20 h21 ho22 => ?_)
          exact z_iret dX12_best_58 rfl rfl h21
    · refine z_bipush dX12_best_15 (x := (-4)) (by decide +kernel) ?_
      refine z_goto dX12_best_17 (tgt := 48) rfl ?_
      refine z_istore_n dX12_best_48 (lv' := [(3, .int (mI (-4))), (0, .ref (ad 0)), (1, .int (mI a0)), (2, .int (mI a1))]) (by decide) rfl ?_
      refine z_iload_n dX12_best_49 0 rfl ?_
      refine z_if_ge_f dX12_best_50 (by decide) (by decide) (tgt := 59) rfl ?_
      refine z_aload_n dX12_best_53 1 rfl ?_
      refine z_iload_n dX12_best_54 0 rfl ?_
      refine z_callV1 dX12_best_55 rfl (ct_X12_refuse n (-4) (wr m 0 16 0) (by decide)) zc_X12 lm_0 k_1194 k_1196 kp_37 k_10 k_1197 zn_X12_refuse ⟨rfl, rfl, Nat.le_of_ble_eq_true rfl, Nat.le_of_ble_eq_true rfl⟩ (Nat.le_of_ble_eq_true rfl) rfl (fun v23 m24 h25 ho26 => ?_)
      exact z_iret dX12_best_58 rfl rfl h25
set_option maxRecDepth 20000 in
theorem T_X12_isOut_4 {ad sc sv : Nat → Nat} (n : Nat) (r4 : Int → Int → Int → ZMem → ZR) (hr4 : ∀ (x1 : Int) (x2 : Int) (x3 : Int) (m : ZMem), R32 x1 → R32 x2 → R32 x3 → zG LM ad sc sv M_X12_isOut 4 [(0, .ref (ad 0)), (1, .int (mI x1)), (2, .int (mI x2)), (3, .int (mI x3))] [] m (r4 x1 x2 x3 m)) : ∀ (x1 : Int) (x2 : Int) (x3 : Int) (m : ZMem), R32 x1 → R32 x2 → R32 x3 → zG LM ad sc sv M_X12_isOut 4 [(0, .ref (ad 0)), (1, .int (mI x1)), (2, .int (mI x2)), (3, .int (mI x3))] [] m (B_X12_isOut_4 n r4 x1 x2 x3 m) := by
  intro x1 x2 x3 m hx1 hx2 hx3
  unfold B_X12_isOut_4
  refine z_iload_n dX12_isOut_4 3 rfl ?_
  refine z_aload_n dX12_isOut_5 0 rfl ?_
  refine z_getI dX12_isOut_6 (k := 2) zc_X12 lm_0 rfl (by decide) k_1040 (fun h1 => ?_)
  refine z_icmp_ge dX12_isOut_9 hx3 h1 (tgt := 53) rfl (fun h2 => ?_) (fun h2 => ?_)
  · refine z_iload_n dX12_isOut_53 2 rfl ?_
    refine zG_chk (fun h3 => ?_)
    exact z_zret dX12_isOut_54 rfl rfl h3
  · refine z_iload_n dX12_isOut_12 2 rfl ?_
    refine z_if_eq dX12_isOut_13 hx2 (tgt := 45) rfl (fun h4 => ?_) (fun h4 => ?_)
    · refine z_iconst dX12_isOut_45 ?_
      refine z_istore_n dX12_isOut_46 (lv' := [(2, .int (mI 0)), (0, .ref (ad 0)), (1, .int (mI x1)), (3, .int (mI x3))]) (by decide) rfl ?_
      refine z_iinc dX12_isOut_47 (lv' := [(3, .int (mI (x3 + 1))), (2, .int (mI 0)), (0, .ref (ad 0)), (1, .int (mI x1))]) 3 rfl (by decide) rfl (fun h5 => ?_)
      refine z_goto dX12_isOut_50 (tgt := 4) rfl ?_
      exact zG_lvk (hr4 x1 0 (x3 + 1) m hx1 (by decide) h5) [2, 3, 1, 0] rfl
    · refine z_aload_n dX12_isOut_16 0 rfl ?_
      refine z_iload_n dX12_isOut_17 3 rfl ?_
      refine z_iload_n dX12_isOut_18 1 rfl ?_
      refine z_callV1 dX12_isOut_19 rfl (ct_X12_takenFor n x3 x1 m hx3 hx1) zc_X12 lm_0 k_1290 k_1292 kp_55 k_10 k_1293 zn_X12_takenFor ⟨rfl, rfl, Nat.le_of_ble_eq_true rfl, Nat.le_of_ble_eq_true rfl⟩ (Nat.le_of_ble_eq_true rfl) rfl (fun v6 m7 h8 ho9 => ?_)
      refine z_aload_n dX12_isOut_22 0 rfl ?_
      refine z_getI dX12_isOut_23 (k := 0) zc_X12 lm_0 rfl (by decide) k_1038 (fun h10 => ?_)
      refine z_imul dX12_isOut_26 (fun h11 => ?_)
      refine z_bipush dX12_isOut_27 (x := 12) (by decide +kernel) ?_
      refine z_aload_n dX12_isOut_29 0 rfl ?_
      refine z_getR dX12_isOut_30 (k := 10) (j := 4) zc_X12 lm_0 rfl (by decide) k_1048 ?_
      refine z_iload_n dX12_isOut_33 3 rfl ?_
      refine z_iaload dX12_isOut_34 hx3 (fun h12 => ?_)
      refine z_imul dX12_isOut_35 (fun h13 => ?_)
      refine z_iload_n dX12_isOut_36 1 rfl ?_
      refine z_imul dX12_isOut_37 (fun h14 => ?_)
      refine z_icmp_ne dX12_isOut_38 h11 h14 (tgt := 45) rfl (fun h15 => ?_) (fun h15 => ?_)
      · refine z_iconst dX12_isOut_41 ?_
        refine z_goto dX12_isOut_42 (tgt := 46) rfl ?_
        refine z_istore_n dX12_isOut_46 (lv' := [(2, .int (mI 1)), (0, .ref (ad 0)), (1, .int (mI x1)), (3, .int (mI x3))]) (by decide) rfl ?_
        refine z_iinc dX12_isOut_47 (lv' := [(3, .int (mI (x3 + 1))), (2, .int (mI 1)), (0, .ref (ad 0)), (1, .int (mI x1))]) 3 rfl (by decide) rfl (fun h16 => ?_)
        refine z_goto dX12_isOut_50 (tgt := 4) rfl ?_
        exact zG_lvk (hr4 x1 1 (x3 + 1) m7 hx1 (by decide) h16) [2, 3, 1, 0] rfl
      · refine z_iconst dX12_isOut_45 ?_
        refine z_istore_n dX12_isOut_46 (lv' := [(2, .int (mI 0)), (0, .ref (ad 0)), (1, .int (mI x1)), (3, .int (mI x3))]) (by decide) rfl ?_
        refine z_iinc dX12_isOut_47 (lv' := [(3, .int (mI (x3 + 1))), (2, .int (mI 0)), (0, .ref (ad 0)), (1, .int (mI x1))]) 3 rfl (by decide) rfl (fun h17 => ?_)
        refine z_goto dX12_isOut_50 (tgt := 4) rfl ?_
        exact zG_lvk (hr4 x1 0 (x3 + 1) m7 hx1 (by decide) h17) [2, 3, 1, 0] rfl
theorem TL_X12_isOut_4 {ad sc sv : Nat → Nat} (n : Nat) : ∀ q : Nat, ∀ (x1 : Int) (x2 : Int) (x3 : Int) (m : ZMem), R32 x1 → R32 x2 → R32 x3 → zG LM ad sc sv M_X12_isOut 4 [(0, .ref (ad 0)), (1, .int (mI x1)), (2, .int (mI x2)), (3, .int (mI x3))] [] m (L_X12_isOut_4 n q x1 x2 x3 m) := by
  intro q
  induction q with
  | zero => intros; exact zG_none
  | succ q ih => exact T_X12_isOut_4 n (L_X12_isOut_4 n q) ih
set_option maxRecDepth 20000 in
theorem ct_X12_isOut {ad sc sv : Nat → Nat} (n : Nat) (a0 : Int) (m : ZMem) (ha0 : R32 a0) : zCT LM ad sc sv M_X12_isOut yX12_isOut [.ref (ad 0), .int (mI a0)] m (F_X12_isOut n a0 m) := by
  refine zCT_of (lv := [(0, .ref (ad 0)), (1, .int (mI a0))]) (by decide) rfl (Nat.le_of_ble_eq_true rfl) rfl ?_
  unfold F_X12_isOut
  refine z_iconst dX12_isOut_0 ?_
  refine z_istore_n dX12_isOut_1 (lv' := [(2, .int (mI 1)), (0, .ref (ad 0)), (1, .int (mI a0))]) (by decide) rfl ?_
  refine z_iconst dX12_isOut_2 ?_
  refine z_istore_n dX12_isOut_3 (lv' := [(3, .int (mI 0)), (2, .int (mI 1)), (0, .ref (ad 0)), (1, .int (mI a0))]) (by decide) rfl ?_
  exact zG_lvk (TL_X12_isOut_4 n n a0 1 0 m ha0 (by decide) (by decide)) [2, 3, 1, 0] rfl
set_option maxRecDepth 20000 in
theorem T_X12_out_21 {ad sc sv : Nat → Nat} (n : Nat) (r21 : Int → Int → Int → ZMem → ZR) (hr21 : ∀ (x1 : Int) (x2 : Int) (x3 : Int) (m : ZMem), R32 x1 → R32 x2 → R32 x3 → zG LM ad sc sv M_X12_out 21 [(0, .ref (ad 0)), (1, .int (mI x1)), (2, .int (mI x2)), (3, .int (mI x3))] [] m (r21 x1 x2 x3 m)) : ∀ (x1 : Int) (x2 : Int) (x3 : Int) (m : ZMem), R32 x1 → R32 x2 → R32 x3 → zG LM ad sc sv M_X12_out 21 [(0, .ref (ad 0)), (1, .int (mI x1)), (2, .int (mI x2)), (3, .int (mI x3))] [] m (B_X12_out_21 n r21 x1 x2 x3 m) := by
  intro x1 x2 x3 m hx1 hx2 hx3
  unfold B_X12_out_21
  refine z_iload_n dX12_out_21 3 rfl ?_
  refine z_bipush dX12_out_22 (x := 24) (by decide +kernel) ?_
  refine z_icmp_gt dX12_out_24 hx3 (by decide) (tgt := 51) rfl (fun h6 => ?_) (fun h6 => ?_)
  · refine z_iload_n dX12_out_51 1 rfl ?_
    refine z_if_ge dX12_out_52 hx1 (tgt := 59) rfl (fun h7 => ?_) (fun h7 => ?_)
    · refine z_bipush dX12_out_59 (x := (-9)) (by decide +kernel) ?_
      exact z_iret dX12_out_61 rfl rfl (by decide)
    · refine z_iload_n dX12_out_55 2 rfl ?_
      refine z_goto dX12_out_56 (tgt := 61) rfl ?_
      exact z_iret dX12_out_61 rfl rfl hx2
  · refine z_aload_n dX12_out_27 0 rfl ?_
    refine z_iload_n dX12_out_28 3 rfl ?_
    refine z_callV4 dX12_out_29 rfl (ct_X12_isOut n x3 m hx3) zc_X12 lm_0 k_1368 k_1370 kp_61 k_10 k_1371 zn_X12_isOut ⟨rfl, rfl, Nat.le_of_ble_eq_true rfl, Nat.le_of_ble_eq_true rfl⟩ (Nat.le_of_ble_eq_true rfl) rfl (fun v8 m9 h10 ho11 => ?_)
    refine z_if_eq dX12_out_32 (zb01 h10) (tgt := 45) rfl (fun h12 => ?_) (fun h12 => ?_)
    · refine z_iinc dX12_out_45 (lv' := [(3, .int (mI (x3 + 1))), (0, .ref (ad 0)), (1, .int (mI x1)), (2, .int (mI x2))]) 3 rfl (by decide) rfl (fun h13 => ?_)
      refine z_goto dX12_out_48 (tgt := 21) rfl ?_
      exact zG_lvk (hr21 x1 x2 (x3 + 1) m9 hx1 hx2 h13) [1, 2, 3, 0] rfl
    · refine z_iload_n dX12_out_35 2 rfl ?_
      refine z_iload_n dX12_out_36 1 rfl ?_
      refine z_icmp_ne dX12_out_37 hx2 hx1 (tgt := 42) rfl (fun h14 => ?_) (fun h14 => ?_)
      · refine z_iload_n dX12_out_40 3 rfl ?_
        exact z_iret dX12_out_41 rfl rfl hx3
      · refine z_iinc dX12_out_42 (lv' := [(2, .int (mI (x2 + 1))), (0, .ref (ad 0)), (1, .int (mI x1)), (3, .int (mI x3))]) 2 rfl (by decide) rfl (fun h15 => ?_)
        refine z_iinc dX12_out_45 (lv' := [(3, .int (mI (x3 + 1))), (2, .int (mI (x2 + 1))), (0, .ref (ad 0)), (1, .int (mI x1))]) 3 rfl (by decide) rfl (fun h16 => ?_)
        refine z_goto dX12_out_48 (tgt := 21) rfl ?_
        exact zG_lvk (hr21 x1 (x2 + 1) (x3 + 1) m9 hx1 h15 h16) [2, 3, 1, 0] rfl
theorem TL_X12_out_21 {ad sc sv : Nat → Nat} (n : Nat) : ∀ q : Nat, ∀ (x1 : Int) (x2 : Int) (x3 : Int) (m : ZMem), R32 x1 → R32 x2 → R32 x3 → zG LM ad sc sv M_X12_out 21 [(0, .ref (ad 0)), (1, .int (mI x1)), (2, .int (mI x2)), (3, .int (mI x3))] [] m (L_X12_out_21 n q x1 x2 x3 m) := by
  intro q
  induction q with
  | zero => intros; exact zG_none
  | succ q ih => exact T_X12_out_21 n (L_X12_out_21 n q) ih
set_option maxRecDepth 20000 in
theorem ct_X12_out {ad sc sv : Nat → Nat} (n : Nat) (a0 : Int) (m : ZMem) (ha0 : R32 a0) : zCT LM ad sc sv M_X12_out yX12_out [.ref (ad 0), .int (mI a0)] m (F_X12_out n a0 m) := by
  refine zCT_of (lv := [(0, .ref (ad 0)), (1, .int (mI a0))]) (by decide) rfl (Nat.le_of_ble_eq_true rfl) rfl ?_
  unfold F_X12_out
  refine z_aload_n dX12_out_0 0 rfl ?_
  refine z_iconst dX12_out_1 ?_
  refine z_putI dX12_out_2 (k := 16) zc_X12 lm_0 rfl (by decide) rfl rfl (by decide) k_1054 ?_
  refine z_iload_n dX12_out_5 1 rfl ?_
  refine z_iconst dX12_out_6 ?_
  refine z_icmp_ge dX12_out_7 ha0 (by decide) (tgt := 17) rfl (fun h1 => ?_) (fun h1 => ?_)
  · refine z_iconst dX12_out_17 ?_
    refine z_istore_n dX12_out_18 (lv' := [(2, .int (mI 0)), (0, .ref (ad 0)), (1, .int (mI a0))]) (by decide) rfl ?_
    refine z_iconst dX12_out_19 ?_
    refine z_istore_n dX12_out_20 (lv' := [(3, .int (mI 1)), (2, .int (mI 0)), (0, .ref (ad 0)), (1, .int (mI a0))]) (by decide) rfl ?_
    exact zG_lvk (TL_X12_out_21 n n a0 0 1 (wr m 0 16 0) ha0 (by decide) (by decide)) [2, 3, 1, 0] rfl
  · refine z_aload_n dX12_out_10 0 rfl ?_
    refine z_bipush dX12_out_11 (x := (-4)) (by decide +kernel) ?_
    refine z_callV1 dX12_out_13 rfl (ct_X12_refuse n (-4) (wr m 0 16 0) (by decide)) zc_X12 lm_0 k_1194 k_1196 kp_37 k_10 k_1197 zn_X12_refuse ⟨rfl, rfl, Nat.le_of_ble_eq_true rfl, Nat.le_of_ble_eq_true rfl⟩ (Nat.le_of_ble_eq_true rfl) rfl (fun v2 m3 h4 ho5 => ?_)
    exact z_iret dX12_out_16 rfl rfl h4
set_option maxRecDepth 20000 in
theorem T_X12_greatestOff_4 {ad sc sv : Nat → Nat} (n : Nat) (r4 : Int → Int → Int → ZMem → ZR) (hr4 : ∀ (x1 : Int) (x2 : Int) (x3 : Int) (m : ZMem), R32 x1 → R32 x2 → R32 x3 → zG LM ad sc sv M_X12_greatestOff 4 [(0, .ref (ad 0)), (1, .int (mI x1)), (2, .int (mI x2)), (3, .int (mI x3))] [] m (r4 x1 x2 x3 m)) : ∀ (x1 : Int) (x2 : Int) (x3 : Int) (m : ZMem), R32 x1 → R32 x2 → R32 x3 → zG LM ad sc sv M_X12_greatestOff 4 [(0, .ref (ad 0)), (1, .int (mI x1)), (2, .int (mI x2)), (3, .int (mI x3))] [] m (B_X12_greatestOff_4 n r4 x1 x2 x3 m) := by
  intro x1 x2 x3 m hx1 hx2 hx3
  unfold B_X12_greatestOff_4
  refine z_iload_n dX12_greatestOff_4 3 rfl ?_
  refine z_aload_n dX12_greatestOff_5 0 rfl ?_
  refine z_getI dX12_greatestOff_6 (k := 2) zc_X12 lm_0 rfl (by decide) k_1040 (fun h1 => ?_)
  refine z_icmp_ge dX12_greatestOff_9 hx3 h1 (tgt := 48) rfl (fun h2 => ?_) (fun h2 => ?_)
  · refine z_iload_n dX12_greatestOff_48 2 rfl ?_
    exact z_iret dX12_greatestOff_49 rfl rfl hx2
  · refine z_aload_n dX12_greatestOff_12 0 rfl ?_
    refine z_iload_n dX12_greatestOff_13 3 rfl ?_
    refine z_aload_n dX12_greatestOff_14 0 rfl ?_
    refine z_getR dX12_greatestOff_15 (k := 10) (j := 4) zc_X12 lm_0 rfl (by decide) k_1048 ?_
    refine z_iload_n dX12_greatestOff_18 3 rfl ?_
    refine z_iaload dX12_greatestOff_19 hx3 (fun h3 => ?_)
    refine z_iload_n dX12_greatestOff_20 1 rfl ?_
    refine z_imul dX12_greatestOff_21 (fun h4 => ?_)
    refine z_bipush dX12_greatestOff_22 (x := 24) (by decide +kernel) ?_
    refine z_callV1 dX12_greatestOff_24 rfl (ct_X12_offBy n x3 ((m 4 (x3 : Int).toNat) * x1) 24 m hx3 h4 (by decide)) zc_X12 lm_0 k_1356 k_1358 kp_60 k_10 k_1359 zn_X12_offBy ⟨rfl, rfl, Nat.le_of_ble_eq_true rfl, Nat.le_of_ble_eq_true rfl⟩ (Nat.le_of_ble_eq_true rfl) rfl (fun v5 m6 h7 ho8 => ?_)
    refine z_istore dX12_greatestOff_27 (lv' := [(4, .int (mI v5)), (0, .ref (ad 0)), (1, .int (mI x1)), (2, .int (mI x2)), (3, .int (mI x3))]) (by decide) rfl ?_
    refine z_iload dX12_greatestOff_29 0 rfl ?_
    refine z_iload_n dX12_greatestOff_31 3 rfl ?_
    refine z_icmp_le dX12_greatestOff_32 h7 hx2 (tgt := 40) rfl (fun h9 => ?_) (fun h9 => ?_)
    · refine z_iload_n dX12_greatestOff_40 3 rfl ?_
      refine z_istore_n dX12_greatestOff_41 (lv' := [(2, .int (mI x2)), (4, .int (mI v5)), (0, .ref (ad 0)), (1, .int (mI x1)), (3, .int (mI x3))]) (by decide) rfl ?_
      refine z_iinc dX12_greatestOff_42 (lv' := [(3, .int (mI (x3 + 1))), (2, .int (mI x2)), (4, .int (mI v5)), (0, .ref (ad 0)), (1, .int (mI x1))]) 4 rfl (by decide) rfl (fun h10 => ?_)
      refine z_goto dX12_greatestOff_45 (tgt := 4) rfl ?_
      exact zG_lvk (hr4 x1 x2 (x3 + 1) m6 hx1 hx2 h10) [3, 4, 1, 0] rfl
    · refine z_iload dX12_greatestOff_35 0 rfl ?_
      refine z_goto dX12_greatestOff_37 (tgt := 41) rfl ?_
      refine z_istore_n dX12_greatestOff_41 (lv' := [(2, .int (mI v5)), (4, .int (mI v5)), (0, .ref (ad 0)), (1, .int (mI x1)), (3, .int (mI x3))]) (by decide) rfl ?_
      refine z_iinc dX12_greatestOff_42 (lv' := [(3, .int (mI (x3 + 1))), (2, .int (mI v5)), (4, .int (mI v5)), (0, .ref (ad 0)), (1, .int (mI x1))]) 4 rfl (by decide) rfl (fun h11 => ?_)
      refine z_goto dX12_greatestOff_45 (tgt := 4) rfl ?_
      exact zG_lvk (hr4 x1 v5 (x3 + 1) m6 hx1 h7 h11) [3, 4, 1, 0] rfl
theorem TL_X12_greatestOff_4 {ad sc sv : Nat → Nat} (n : Nat) : ∀ q : Nat, ∀ (x1 : Int) (x2 : Int) (x3 : Int) (m : ZMem), R32 x1 → R32 x2 → R32 x3 → zG LM ad sc sv M_X12_greatestOff 4 [(0, .ref (ad 0)), (1, .int (mI x1)), (2, .int (mI x2)), (3, .int (mI x3))] [] m (L_X12_greatestOff_4 n q x1 x2 x3 m) := by
  intro q
  induction q with
  | zero => intros; exact zG_none
  | succ q ih => exact T_X12_greatestOff_4 n (L_X12_greatestOff_4 n q) ih
set_option maxRecDepth 20000 in
theorem ct_X12_greatestOff {ad sc sv : Nat → Nat} (n : Nat) (a0 : Int) (m : ZMem) (ha0 : R32 a0) : zCT LM ad sc sv M_X12_greatestOff yX12_greatestOff [.ref (ad 0), .int (mI a0)] m (F_X12_greatestOff n a0 m) := by
  refine zCT_of (lv := [(0, .ref (ad 0)), (1, .int (mI a0))]) (by decide) rfl (Nat.le_of_ble_eq_true rfl) rfl ?_
  unfold F_X12_greatestOff
  refine z_iconst dX12_greatestOff_0 ?_
  refine z_istore_n dX12_greatestOff_1 (lv' := [(2, .int (mI 0)), (0, .ref (ad 0)), (1, .int (mI a0))]) (by decide) rfl ?_
  refine z_iconst dX12_greatestOff_2 ?_
  refine z_istore_n dX12_greatestOff_3 (lv' := [(3, .int (mI 0)), (2, .int (mI 0)), (0, .ref (ad 0)), (1, .int (mI a0))]) (by decide) rfl ?_
  exact zG_lvk (TL_X12_greatestOff_4 n n a0 0 0 m ha0 (by decide) (by decide)) [2, 3, 1, 0] rfl
set_option maxRecDepth 20000 in
theorem T_X12_scale_96 {ad sc sv : Nat → Nat} (n : Nat) (r96 : Int → Int → Int → Int → Int → ZMem → ZR) (hr96 : ∀ (x2 : Int) (x3 : Int) (x5 : Int) (x6 : Int) (x7 : Int) (m : ZMem), R32 x2 → R32 x3 → R32 x5 → R32 x6 → R32 x7 → zG LM ad sc sv M_X12_scale 96 [(0, .ref (ad 0)), (2, .int (mI x2)), (3, .int (mI x3)), (5, .int (mI x5)), (6, .int (mI x6)), (7, .int (mI x7))] [] m (r96 x2 x3 x5 x6 x7 m)) : ∀ (x2 : Int) (x3 : Int) (x5 : Int) (x6 : Int) (x7 : Int) (m : ZMem), R32 x2 → R32 x3 → R32 x5 → R32 x6 → R32 x7 → zG LM ad sc sv M_X12_scale 96 [(0, .ref (ad 0)), (2, .int (mI x2)), (3, .int (mI x3)), (5, .int (mI x5)), (6, .int (mI x6)), (7, .int (mI x7))] [] m (B_X12_scale_96 n r96 x2 x3 x5 x6 x7 m) := by
  intro x2 x3 x5 x6 x7 m hx2 hx3 hx5 hx6 hx7
  unfold B_X12_scale_96
  refine z_iload dX12_scale_96 5 rfl ?_
  refine z_iload_n dX12_scale_98 1 rfl ?_
  refine z_icmp_gt dX12_scale_99 hx7 hx2 (tgt := 148) rfl (fun h41 => ?_) (fun h41 => ?_)
  · refine z_iload_n dX12_scale_148 2 rfl ?_
    refine z_if_ne dX12_scale_149 hx3 (tgt := 157) rfl (fun h42 => ?_) (fun h42 => ?_)
    · refine z_iload dX12_scale_152 3 rfl ?_
      refine z_goto dX12_scale_154 (tgt := 167) rfl ?_
      exact z_iret dX12_scale_167 rfl rfl hx5
    · refine z_iload dX12_scale_157 4 rfl ?_
      refine z_bipush dX12_scale_159 (x := 24) (by decide +kernel) ?_
      refine z_iload_n dX12_scale_161 2 rfl ?_
      refine z_iconst dX12_scale_162 ?_
      refine z_isub dX12_scale_163 (fun h43 => ?_)
      refine z_callS1 dX12_scale_164 rfl (ct_X12_partOf n x6 24 (x3 - 1) m hx6 (by decide) h43) k_1342 k_1343 k_10 k_1344 zn_X12_partOf ⟨rfl, rfl, Nat.le_of_ble_eq_true rfl, Nat.le_of_ble_eq_true rfl⟩ (Nat.le_of_ble_eq_true rfl) rfl (fun v44 m45 h46 ho47 => ?_)
      exact z_iret dX12_scale_167 rfl rfl h46
  · refine z_aload_n dX12_scale_102 0 rfl ?_
    refine z_iload dX12_scale_103 5 rfl ?_
    refine z_callV1 dX12_scale_105 rfl (ct_X12_greatestOff n x7 m hx7) zc_X12 lm_0 k_1377 k_1379 kp_62 k_10 k_1380 zn_X12_greatestOff ⟨rfl, rfl, Nat.le_of_ble_eq_true rfl, Nat.le_of_ble_eq_true rfl⟩ (Nat.le_of_ble_eq_true rfl) rfl (fun v48 m49 h50 ho51 => ?_)
    refine z_istore dX12_scale_108 (lv' := [(8, .int (mI v48)), (0, .ref (ad 0)), (2, .int (mI x2)), (3, .int (mI x3)), (5, .int (mI x5)), (6, .int (mI x6)), (7, .int (mI x7))]) (by decide) rfl ?_
    refine z_iload dX12_scale_110 0 rfl ?_
    refine z_iload dX12_scale_112 5 rfl ?_
    refine z_icmp_ge dX12_scale_114 h50 hx6 (tgt := 122) rfl (fun h52 => ?_) (fun h52 => ?_)
    · refine z_iload dX12_scale_122 4 rfl ?_
      refine z_istore dX12_scale_124 (lv' := [(5, .int (mI x5)), (8, .int (mI v48)), (0, .ref (ad 0)), (2, .int (mI x2)), (3, .int (mI x3)), (6, .int (mI x6)), (7, .int (mI x7))]) (by decide) rfl ?_
      refine z_iload dX12_scale_126 1 rfl ?_
      refine z_iload dX12_scale_128 5 rfl ?_
      refine z_icmp_ge dX12_scale_130 h50 hx6 (tgt := 138) rfl (fun h53 => ?_) (fun h53 => ?_)
      · refine z_iload dX12_scale_138 5 rfl ?_
        refine z_istore dX12_scale_140 (lv' := [(6, .int (mI x6)), (5, .int (mI x5)), (8, .int (mI v48)), (0, .ref (ad 0)), (2, .int (mI x2)), (3, .int (mI x3)), (7, .int (mI x7))]) (by decide) rfl ?_
        refine z_iinc dX12_scale_142 (lv' := [(7, .int (mI (x7 + 1))), (6, .int (mI x6)), (5, .int (mI x5)), (8, .int (mI v48)), (0, .ref (ad 0)), (2, .int (mI x2)), (3, .int (mI x3))]) 6 rfl (by decide) rfl (fun h54 => ?_)
        refine z_goto dX12_scale_145 (tgt := 96) rfl ?_
        exact zG_lvk (hr96 x2 x3 x5 x6 (x7 + 1) m49 hx2 hx3 hx5 hx6 h54) [4, 5, 6, 2, 1, 0] rfl
      · refine z_iload dX12_scale_133 1 rfl ?_
        refine z_goto dX12_scale_135 (tgt := 140) rfl ?_
        refine z_istore dX12_scale_140 (lv' := [(6, .int (mI v48)), (5, .int (mI x5)), (8, .int (mI v48)), (0, .ref (ad 0)), (2, .int (mI x2)), (3, .int (mI x3)), (7, .int (mI x7))]) (by decide) rfl ?_
        refine z_iinc dX12_scale_142 (lv' := [(7, .int (mI (x7 + 1))), (6, .int (mI v48)), (5, .int (mI x5)), (8, .int (mI v48)), (0, .ref (ad 0)), (2, .int (mI x2)), (3, .int (mI x3))]) 6 rfl (by decide) rfl (fun h55 => ?_)
        refine z_goto dX12_scale_145 (tgt := 96) rfl ?_
        exact zG_lvk (hr96 x2 x3 x5 v48 (x7 + 1) m49 hx2 hx3 hx5 h50 h55) [4, 5, 6, 2, 1, 0] rfl
    · refine z_iload dX12_scale_117 6 rfl ?_
      refine z_goto dX12_scale_119 (tgt := 124) rfl ?_
      refine z_istore dX12_scale_124 (lv' := [(5, .int (mI x7)), (8, .int (mI v48)), (0, .ref (ad 0)), (2, .int (mI x2)), (3, .int (mI x3)), (6, .int (mI x6)), (7, .int (mI x7))]) (by decide) rfl ?_
      refine z_iload dX12_scale_126 1 rfl ?_
      refine z_iload dX12_scale_128 5 rfl ?_
      refine z_icmp_ge dX12_scale_130 h50 hx6 (tgt := 138) rfl (fun h56 => ?_) (fun h56 => ?_)
      · refine z_iload dX12_scale_138 5 rfl ?_
        refine z_istore dX12_scale_140 (lv' := [(6, .int (mI x6)), (5, .int (mI x7)), (8, .int (mI v48)), (0, .ref (ad 0)), (2, .int (mI x2)), (3, .int (mI x3)), (7, .int (mI x7))]) (by decide) rfl ?_
        refine z_iinc dX12_scale_142 (lv' := [(7, .int (mI (x7 + 1))), (6, .int (mI x6)), (5, .int (mI x7)), (8, .int (mI v48)), (0, .ref (ad 0)), (2, .int (mI x2)), (3, .int (mI x3))]) 6 rfl (by decide) rfl (fun h57 => ?_)
        refine z_goto dX12_scale_145 (tgt := 96) rfl ?_
        exact zG_lvk (hr96 x2 x3 x7 x6 (x7 + 1) m49 hx2 hx3 hx7 hx6 h57) [4, 5, 6, 2, 1, 0] rfl
      · refine z_iload dX12_scale_133 1 rfl ?_
        refine z_goto dX12_scale_135 (tgt := 140) rfl ?_
        refine z_istore dX12_scale_140 (lv' := [(6, .int (mI v48)), (5, .int (mI x7)), (8, .int (mI v48)), (0, .ref (ad 0)), (2, .int (mI x2)), (3, .int (mI x3)), (7, .int (mI x7))]) (by decide) rfl ?_
        refine z_iinc dX12_scale_142 (lv' := [(7, .int (mI (x7 + 1))), (6, .int (mI v48)), (5, .int (mI x7)), (8, .int (mI v48)), (0, .ref (ad 0)), (2, .int (mI x2)), (3, .int (mI x3))]) 6 rfl (by decide) rfl (fun h58 => ?_)
        refine z_goto dX12_scale_145 (tgt := 96) rfl ?_
        exact zG_lvk (hr96 x2 x3 x7 v48 (x7 + 1) m49 hx2 hx3 hx7 h50 h58) [4, 5, 6, 2, 1, 0] rfl
theorem TL_X12_scale_96 {ad sc sv : Nat → Nat} (n : Nat) : ∀ q : Nat, ∀ (x2 : Int) (x3 : Int) (x5 : Int) (x6 : Int) (x7 : Int) (m : ZMem), R32 x2 → R32 x3 → R32 x5 → R32 x6 → R32 x7 → zG LM ad sc sv M_X12_scale 96 [(0, .ref (ad 0)), (2, .int (mI x2)), (3, .int (mI x3)), (5, .int (mI x5)), (6, .int (mI x6)), (7, .int (mI x7))] [] m (L_X12_scale_96 n q x2 x3 x5 x6 x7 m) := by
  intro q
  induction q with
  | zero => intros; exact zG_none
  | succ q ih => exact T_X12_scale_96 n (L_X12_scale_96 n q) ih
set_option maxRecDepth 20000 in
theorem ct_X12_scale {ad sc sv : Nat → Nat} (n : Nat) (a0 : Int) (a1 : Int) (a2 : Int) (m : ZMem) (ha0 : R32 a0) (ha1 : R32 a1) (ha2 : R32 a2) : zCT LM ad sc sv M_X12_scale yX12_scale [.ref (ad 0), .int (mI a0), .int (mI a1), .int (mI a2)] m (F_X12_scale n a0 a1 a2 m) := by
  refine zCT_of (lv := [(0, .ref (ad 0)), (1, .int (mI a0)), (2, .int (mI a1)), (3, .int (mI a2))]) (by decide) rfl (Nat.le_of_ble_eq_true rfl) rfl ?_
  unfold F_X12_scale
  refine z_aload_n dX12_scale_0 0 rfl ?_
  refine z_iconst dX12_scale_1 ?_
  refine z_putI dX12_scale_2 (k := 16) zc_X12 lm_0 rfl (by decide) rfl rfl (by decide) k_1054 ?_
  refine z_iload_n dX12_scale_5 1 rfl ?_
  refine z_iconst dX12_scale_6 ?_
  refine z_icmp_lt dX12_scale_7 ha0 (by decide) (tgt := 15) rfl (fun h1 => ?_) (fun h1 => ?_)
  · refine z_bipush dX12_scale_15 (x := (-4)) (by decide +kernel) ?_
    refine z_goto dX12_scale_17 (tgt := 67) rfl ?_
    refine z_istore dX12_scale_67 (lv' := [(4, .int (mI (-4))), (0, .ref (ad 0)), (1, .int (mI a0)), (2, .int (mI a1)), (3, .int (mI a2))]) (by decide) rfl ?_
    refine z_iload dX12_scale_69 0 rfl ?_
    refine z_if_ge_f dX12_scale_71 (by decide) (by decide) (tgt := 81) rfl ?_
    refine z_aload_n dX12_scale_74 1 rfl ?_
    refine z_iload dX12_scale_75 0 rfl ?_
    refine z_callV1 dX12_scale_77 rfl (ct_X12_refuse n (-4) (wr m 0 16 0) (by decide)) zc_X12 lm_0 k_1194 k_1196 kp_37 k_10 k_1197 zn_X12_refuse ⟨rfl, rfl, Nat.le_of_ble_eq_true rfl, Nat.le_of_ble_eq_true rfl⟩ (Nat.le_of_ble_eq_true rfl) rfl (fun v2 m3 h4 ho5 => ?_)
    exact z_iret dX12_scale_80 rfl rfl h4
  · refine z_iload_n dX12_scale_10 2 rfl ?_
    refine z_iconst dX12_scale_11 ?_
    refine z_icmp_ge dX12_scale_12 ha1 (by decide) (tgt := 20) rfl (fun h6 => ?_) (fun h6 => ?_)
    · refine z_iload_n dX12_scale_20 1 rfl ?_
      refine z_sipush dX12_scale_21 (x := 240) (by decide +kernel) ?_
      refine z_icmp_gt dX12_scale_24 ha0 (by decide) (tgt := 34) rfl (fun h7 => ?_) (fun h7 => ?_)
      · refine z_bipush dX12_scale_34 (x := (-6)) (by decide +kernel) ?_
        refine z_goto dX12_scale_36 (tgt := 67) rfl ?_
        refine z_istore dX12_scale_67 (lv' := [(4, .int (mI (-6))), (0, .ref (ad 0)), (1, .int (mI a0)), (2, .int (mI a1)), (3, .int (mI a2))]) (by decide) rfl ?_
        refine z_iload dX12_scale_69 0 rfl ?_
        refine z_if_ge_f dX12_scale_71 (by decide) (by decide) (tgt := 81) rfl ?_
        refine z_aload_n dX12_scale_74 1 rfl ?_
        refine z_iload dX12_scale_75 0 rfl ?_
        refine z_callV1 dX12_scale_77 rfl (ct_X12_refuse n (-6) (wr m 0 16 0) (by decide)) zc_X12 lm_0 k_1194 k_1196 kp_37 k_10 k_1197 zn_X12_refuse ⟨rfl, rfl, Nat.le_of_ble_eq_true rfl, Nat.le_of_ble_eq_true rfl⟩ (Nat.le_of_ble_eq_true rfl) rfl (fun v8 m9 h10 ho11 => ?_)
        exact z_iret dX12_scale_80 rfl rfl h10
      · refine z_iload_n dX12_scale_27 2 rfl ?_
        refine z_sipush dX12_scale_28 (x := 240) (by decide +kernel) ?_
        refine z_icmp_le dX12_scale_31 ha1 (by decide) (tgt := 39) rfl (fun h12 => ?_) (fun h12 => ?_)
        · refine z_iload_n dX12_scale_39 1 rfl ?_
          refine z_iload_n dX12_scale_40 2 rfl ?_
          refine z_icmp_le dX12_scale_41 ha0 ha1 (tgt := 49) rfl (fun h13 => ?_) (fun h13 => ?_)
          · refine z_iload_n dX12_scale_49 3 rfl ?_
            refine z_i2l dX12_scale_50 ha2 (fun h14 => ?_)
            refine z_lconst dX12_scale_51 (x := 0) (by decide +kernel) ?_
            refine z_ldc2 dX12_scale_52 (x := 2) k_1376 ?_
            refine z_callS4 dX12_scale_55 rfl (ct_X12_in n a2 0 2 (wr m 0 16 0) h14 (by decide) (by decide)) k_1220 k_1221 k_10 k_1222 zn_X12_in ⟨rfl, rfl, Nat.le_of_ble_eq_true rfl, Nat.le_of_ble_eq_true rfl⟩ (Nat.le_of_ble_eq_true rfl) rfl (fun v15 m16 h17 ho18 => ?_)
            refine z_if_ne dX12_scale_58 (zb01 h17) (tgt := 66) rfl (fun h19 => ?_) (fun h19 => ?_)
            · refine z_bipush dX12_scale_61 (x := (-2)) (by decide +kernel) ?_
              refine z_goto dX12_scale_63 (tgt := 67) rfl ?_
              refine z_istore dX12_scale_67 (lv' := [(4, .int (mI (-2))), (0, .ref (ad 0)), (1, .int (mI a0)), (2, .int (mI a1)), (3, .int (mI a2))]) (by decide) rfl ?_
              refine z_iload dX12_scale_69 0 rfl ?_
              refine z_if_ge_f dX12_scale_71 (by decide) (by decide) (tgt := 81) rfl ?_
              refine z_aload_n dX12_scale_74 1 rfl ?_
              refine z_iload dX12_scale_75 0 rfl ?_
              refine z_callV1 dX12_scale_77 rfl (ct_X12_refuse n (-2) m16 (by decide)) zc_X12 lm_0 k_1194 k_1196 kp_37 k_10 k_1197 zn_X12_refuse ⟨rfl, rfl, Nat.le_of_ble_eq_true rfl, Nat.le_of_ble_eq_true rfl⟩ (Nat.le_of_ble_eq_true rfl) rfl (fun v20 m21 h22 ho23 => ?_)
              exact z_iret dX12_scale_80 rfl rfl h22
            · refine z_iconst dX12_scale_66 ?_
              refine z_istore dX12_scale_67 (lv' := [(4, .int (mI 0)), (0, .ref (ad 0)), (1, .int (mI a0)), (2, .int (mI a1)), (3, .int (mI a2))]) (by decide) rfl ?_
              refine z_iload dX12_scale_69 0 rfl ?_
              refine z_if_ge_t dX12_scale_71 (by decide) (by decide) (tgt := 81) rfl ?_
              refine z_iload_n dX12_scale_81 2 rfl ?_
              refine z_istore dX12_scale_82 (lv' := [(5, .int (mI a0)), (4, .int (mI 0)), (0, .ref (ad 0)), (1, .int (mI a0)), (2, .int (mI a1)), (3, .int (mI a2))]) (by decide) rfl ?_
              refine z_aload_n dX12_scale_84 2 rfl ?_
              refine z_iload_n dX12_scale_85 3 rfl ?_
              refine z_callV1 dX12_scale_86 rfl (ct_X12_greatestOff n a0 m16 ha0) zc_X12 lm_0 k_1377 k_1379 kp_62 k_10 k_1380 zn_X12_greatestOff ⟨rfl, rfl, Nat.le_of_ble_eq_true rfl, Nat.le_of_ble_eq_true rfl⟩ (Nat.le_of_ble_eq_true rfl) rfl (fun v24 m25 h26 ho27 => ?_)
              refine z_istore dX12_scale_89 (lv' := [(6, .int (mI v24)), (5, .int (mI a0)), (4, .int (mI 0)), (0, .ref (ad 0)), (1, .int (mI a0)), (2, .int (mI a1)), (3, .int (mI a2))]) (by decide) rfl ?_
              refine z_iload_n dX12_scale_91 4 rfl ?_
              refine z_iconst dX12_scale_92 ?_
              refine z_iadd dX12_scale_93 (fun h28 => ?_)
              refine z_istore dX12_scale_94 (lv' := [(7, .int (mI (a0 + 1))), (6, .int (mI v24)), (5, .int (mI a0)), (4, .int (mI 0)), (0, .ref (ad 0)), (1, .int (mI a0)), (2, .int (mI a1)), (3, .int (mI a2))]) (by decide) rfl ?_
              exact zG_lvk (TL_X12_scale_96 n n a1 a2 a0 v24 (a0 + 1) m25 ha1 ha2 ha0 h26 h28) [4, 6, 7, 2, 1, 0] rfl
          · refine z_bipush dX12_scale_44 (x := (-3)) (by decide +kernel) ?_
            refine z_goto dX12_scale_46 (tgt := 67) rfl ?_
            refine z_istore dX12_scale_67 (lv' := [(4, .int (mI (-3))), (0, .ref (ad 0)), (1, .int (mI a0)), (2, .int (mI a1)), (3, .int (mI a2))]) (by decide) rfl ?_
            refine z_iload dX12_scale_69 0 rfl ?_
            refine z_if_ge_f dX12_scale_71 (by decide) (by decide) (tgt := 81) rfl ?_
            refine z_aload_n dX12_scale_74 1 rfl ?_
            refine z_iload dX12_scale_75 0 rfl ?_
            refine z_callV1 dX12_scale_77 rfl (ct_X12_refuse n (-3) (wr m 0 16 0) (by decide)) zc_X12 lm_0 k_1194 k_1196 kp_37 k_10 k_1197 zn_X12_refuse ⟨rfl, rfl, Nat.le_of_ble_eq_true rfl, Nat.le_of_ble_eq_true rfl⟩ (Nat.le_of_ble_eq_true rfl) rfl (fun v29 m30 h31 ho32 => ?_)
            exact z_iret dX12_scale_80 rfl rfl h31
        · refine z_bipush dX12_scale_34 (x := (-6)) (by decide +kernel) ?_
          refine z_goto dX12_scale_36 (tgt := 67) rfl ?_
          refine z_istore dX12_scale_67 (lv' := [(4, .int (mI (-6))), (0, .ref (ad 0)), (1, .int (mI a0)), (2, .int (mI a1)), (3, .int (mI a2))]) (by decide) rfl ?_
          refine z_iload dX12_scale_69 0 rfl ?_
          refine z_if_ge_f dX12_scale_71 (by decide) (by decide) (tgt := 81) rfl ?_
          refine z_aload_n dX12_scale_74 1 rfl ?_
          refine z_iload dX12_scale_75 0 rfl ?_
          refine z_callV1 dX12_scale_77 rfl (ct_X12_refuse n (-6) (wr m 0 16 0) (by decide)) zc_X12 lm_0 k_1194 k_1196 kp_37 k_10 k_1197 zn_X12_refuse ⟨rfl, rfl, Nat.le_of_ble_eq_true rfl, Nat.le_of_ble_eq_true rfl⟩ (Nat.le_of_ble_eq_true rfl) rfl (fun v33 m34 h35 ho36 => ?_)
          exact z_iret dX12_scale_80 rfl rfl h35
    · refine z_bipush dX12_scale_15 (x := (-4)) (by decide +kernel) ?_
      refine z_goto dX12_scale_17 (tgt := 67) rfl ?_
      refine z_istore dX12_scale_67 (lv' := [(4, .int (mI (-4))), (0, .ref (ad 0)), (1, .int (mI a0)), (2, .int (mI a1)), (3, .int (mI a2))]) (by decide) rfl ?_
      refine z_iload dX12_scale_69 0 rfl ?_
      refine z_if_ge_f dX12_scale_71 (by decide) (by decide) (tgt := 81) rfl ?_
      refine z_aload_n dX12_scale_74 1 rfl ?_
      refine z_iload dX12_scale_75 0 rfl ?_
      refine z_callV1 dX12_scale_77 rfl (ct_X12_refuse n (-4) (wr m 0 16 0) (by decide)) zc_X12 lm_0 k_1194 k_1196 kp_37 k_10 k_1197 zn_X12_refuse ⟨rfl, rfl, Nat.le_of_ble_eq_true rfl, Nat.le_of_ble_eq_true rfl⟩ (Nat.le_of_ble_eq_true rfl) rfl (fun v37 m38 h39 ho40 => ?_)
      exact z_iret dX12_scale_80 rfl rfl h39
set_option maxRecDepth 20000 in
theorem ct_X12_isTin {ad sc sv : Nat → Nat} (n : Nat) (a0 : Int) (m : ZMem) (ha0 : R32 a0) : zCT LM ad sc sv M_X12_isTin yX12_isTin [.ref (ad 0), .int (mI a0)] m (F_X12_isTin n a0 m) := by
  refine zCT_of (lv := [(0, .ref (ad 0)), (1, .int (mI a0))]) (by decide) rfl (Nat.le_of_ble_eq_true rfl) rfl ?_
  unfold F_X12_isTin
  refine z_iload_n dX12_isTin_0 1 rfl ?_
  refine z_i2l dX12_isTin_1 ha0 (fun h1 => ?_)
  refine z_lconst dX12_isTin_2 (x := 0) (by decide +kernel) ?_
  refine z_aload_n dX12_isTin_3 0 rfl ?_
  refine z_getI dX12_isTin_4 (k := 3) zc_X12 lm_0 rfl (by decide) k_1041 (fun h2 => ?_)
  refine z_iconst dX12_isTin_7 ?_
  refine z_isub dX12_isTin_8 (fun h3 => ?_)
  refine z_i2l dX12_isTin_9 h3 (fun h4 => ?_)
  refine z_callS4 dX12_isTin_10 rfl (ct_X12_in n a0 0 ((m 0 3) - 1) m h1 (by decide) h4) k_1220 k_1221 k_10 k_1222 zn_X12_in ⟨rfl, rfl, Nat.le_of_ble_eq_true rfl, Nat.le_of_ble_eq_true rfl⟩ (Nat.le_of_ble_eq_true rfl) rfl (fun v5 m6 h7 ho8 => ?_)
  exact z_zret dX12_isTin_13 rfl rfl h7
set_option maxRecDepth 20000 in
theorem ct_X12_areaOf {ad sc sv : Nat → Nat} (n : Nat) (a0 : Int) (m : ZMem) (ha0 : R32 a0) : zCT LM ad sc sv M_X12_areaOf yX12_areaOf [.ref (ad 0), .int (mI a0)] m (F_X12_areaOf n a0 m) := by
  refine zCT_of (lv := [(0, .ref (ad 0)), (1, .int (mI a0))]) (by decide) rfl (Nat.le_of_ble_eq_true rfl) rfl ?_
  unfold F_X12_areaOf
  refine z_aload_n dX12_areaOf_0 0 rfl ?_
  refine z_getR dX12_areaOf_1 (k := 12) (j := 6) zc_X12 lm_0 rfl (by decide) k_1050 ?_
  refine z_iload_n dX12_areaOf_4 1 rfl ?_
  refine z_iaload dX12_areaOf_5 ha0 (fun h1 => ?_)
  refine z_iconst dX12_areaOf_6 ?_
  refine z_icmp_ne dX12_areaOf_7 h1 (by decide) (tgt := 15) rfl (fun h2 => ?_) (fun h2 => ?_)
  · refine z_bipush dX12_areaOf_10 (x := 14) (by decide +kernel) ?_
    refine z_goto dX12_areaOf_12 (tgt := 17) rfl ?_
    refine z_aload_n dX12_areaOf_17 0 rfl ?_
    refine z_getR dX12_areaOf_18 (k := 13) (j := 7) zc_X12 lm_0 rfl (by decide) k_1051 ?_
    refine z_iload_n dX12_areaOf_21 1 rfl ?_
    refine z_iaload dX12_areaOf_22 ha0 (fun h3 => ?_)
    refine z_imul dX12_areaOf_23 (fun h4 => ?_)
    refine z_aload_n dX12_areaOf_24 0 rfl ?_
    refine z_getR dX12_areaOf_25 (k := 13) (j := 7) zc_X12 lm_0 rfl (by decide) k_1051 ?_
    refine z_iload_n dX12_areaOf_28 1 rfl ?_
    refine z_iaload dX12_areaOf_29 ha0 (fun h5 => ?_)
    refine z_imul dX12_areaOf_30 (fun h6 => ?_)
    exact z_iret dX12_areaOf_31 rfl rfl h6
  · refine z_bipush dX12_areaOf_15 (x := 11) (by decide +kernel) ?_
    refine z_aload_n dX12_areaOf_17 0 rfl ?_
    refine z_getR dX12_areaOf_18 (k := 13) (j := 7) zc_X12 lm_0 rfl (by decide) k_1051 ?_
    refine z_iload_n dX12_areaOf_21 1 rfl ?_
    refine z_iaload dX12_areaOf_22 ha0 (fun h7 => ?_)
    refine z_imul dX12_areaOf_23 (fun h8 => ?_)
    refine z_aload_n dX12_areaOf_24 0 rfl ?_
    refine z_getR dX12_areaOf_25 (k := 13) (j := 7) zc_X12 lm_0 rfl (by decide) k_1051 ?_
    refine z_iload_n dX12_areaOf_28 1 rfl ?_
    refine z_iaload dX12_areaOf_29 ha0 (fun h9 => ?_)
    refine z_imul dX12_areaOf_30 (fun h10 => ?_)
    exact z_iret dX12_areaOf_31 rfl rfl h10
set_option maxRecDepth 20000 in
theorem ct_X12_longIn {ad sc sv : Nat → Nat} (n : Nat) (a0 : Int) (m : ZMem) (ha0 : R32 a0) : zCT LM ad sc sv M_X12_longIn yX12_longIn [.ref (ad 0), .int (mI a0)] m (F_X12_longIn n a0 m) := by
  refine zCT_of (lv := [(0, .ref (ad 0)), (1, .int (mI a0))]) (by decide) rfl (Nat.le_of_ble_eq_true rfl) rfl ?_
  unfold F_X12_longIn
  refine z_aload_n dX12_longIn_0 0 rfl ?_
  refine z_getI dX12_longIn_1 (k := 6) zc_X12 lm_0 rfl (by decide) k_1044 (fun h1 => ?_)
  refine z_aload_n dX12_longIn_4 0 rfl ?_
  refine z_getI dX12_longIn_5 (k := 1) zc_X12 lm_0 rfl (by decide) k_1039 (fun h2 => ?_)
  refine z_imul dX12_longIn_8 (fun h3 => ?_)
  refine z_aload_n dX12_longIn_9 0 rfl ?_
  refine z_iconst dX12_longIn_10 ?_
  refine z_callV1 dX12_longIn_11 rfl (ct_X12_areaOf n 0 m (by decide)) zc_X12 lm_0 k_1390 k_1392 kp_64 k_10 k_1393 zn_X12_areaOf ⟨rfl, rfl, Nat.le_of_ble_eq_true rfl, Nat.le_of_ble_eq_true rfl⟩ (Nat.le_of_ble_eq_true rfl) rfl (fun v4 m5 h6 ho7 => ?_)
  refine z_imul dX12_longIn_14 (fun h8 => ?_)
  refine z_istore_n dX12_longIn_15 (lv' := [(2, .int (mI (((m 0 6) * (m 0 1)) * v4))), (0, .ref (ad 0)), (1, .int (mI a0))]) (by decide) rfl ?_
  refine z_iload_n dX12_longIn_16 0 rfl ?_
  refine z_aload_n dX12_longIn_17 1 rfl ?_
  refine z_getI dX12_longIn_18 (k := 0) zc_X12 lm_0 rfl (by decide) k_1038 (fun h9 => ?_)
  refine z_aload_n dX12_longIn_21 1 rfl ?_
  refine z_iload_n dX12_longIn_22 2 rfl ?_
  refine z_callV1 dX12_longIn_23 rfl (ct_X12_areaOf n a0 m5 ha0) zc_X12 lm_0 k_1390 k_1392 kp_64 k_10 k_1393 zn_X12_areaOf ⟨rfl, rfl, Nat.le_of_ble_eq_true rfl, Nat.le_of_ble_eq_true rfl⟩ (Nat.le_of_ble_eq_true rfl) rfl (fun v10 m11 h12 ho13 => ?_)
  refine z_imul dX12_longIn_26 (fun h14 => ?_)
  refine z_callS1 dX12_longIn_27 rfl (ct_X12_nearest n (((m 0 6) * (m 0 1)) * v4) ((m5 0 0) * v10) m11 h8 h14) k_1298 k_1299 k_10 k_1300 zn_X12_nearest ⟨rfl, rfl, Nat.le_of_ble_eq_true rfl, Nat.le_of_ble_eq_true rfl⟩ (Nat.le_of_ble_eq_true rfl) rfl (fun v15 m16 h17 ho18 => ?_)
  refine z_istore_n dX12_longIn_30 (lv' := [(3, .int (mI v15)), (2, .int (mI (((m 0 6) * (m 0 1)) * v4))), (0, .ref (ad 0)), (1, .int (mI a0))]) (by decide) rfl ?_
  refine z_aload_n dX12_longIn_31 2 rfl ?_
  refine z_getI dX12_longIn_32 (k := 6) zc_X12 lm_0 rfl (by decide) k_1044 (fun h19 => ?_)
  refine z_iconst dX12_longIn_35 ?_
  refine z_idiv dX12_longIn_36 h19 (by decide) (fun h20 => ?_)
  refine z_iconst dX12_longIn_37 ?_
  refine z_icmp_ge dX12_longIn_38 h20 (by decide) (tgt := 45) rfl (fun h21 => ?_) (fun h21 => ?_)
  · refine z_aload_n dX12_longIn_45 2 rfl ?_
    refine z_getI dX12_longIn_46 (k := 6) zc_X12 lm_0 rfl (by decide) k_1044 (fun h22 => ?_)
    refine z_iconst dX12_longIn_49 ?_
    refine z_idiv dX12_longIn_50 h22 (by decide) (fun h23 => ?_)
    refine z_istore dX12_longIn_51 (lv' := [(4, .int (mI ((m16 0 6) / 3))), (3, .int (mI v15)), (2, .int (mI (((m 0 6) * (m 0 1)) * v4))), (0, .ref (ad 0)), (1, .int (mI a0))]) (by decide) rfl ?_
    refine z_iload_n dX12_longIn_53 1 rfl ?_
    refine z_iload dX12_longIn_54 0 rfl ?_
    refine z_icmp_ge dX12_longIn_56 h17 h23 (tgt := 64) rfl (fun h24 => ?_) (fun h24 => ?_)
    · refine z_iload_n dX12_longIn_64 1 rfl ?_
      refine z_sipush dX12_longIn_65 (x := 999) (by decide +kernel) ?_
      refine z_icmp_le dX12_longIn_68 h17 (by decide) (tgt := 77) rfl (fun h25 => ?_) (fun h25 => ?_)
      · refine z_iload_n dX12_longIn_77 1 rfl ?_
        exact z_iret dX12_longIn_78 rfl rfl h17
      · refine z_sipush dX12_longIn_71 (x := 999) (by decide +kernel) ?_
        refine z_goto dX12_longIn_74 (tgt := 78) rfl ?_
        exact z_iret dX12_longIn_78 rfl rfl (by decide)
    · refine z_iload dX12_longIn_59 0 rfl ?_
      refine z_goto dX12_longIn_61 (tgt := 78) rfl ?_
      exact z_iret dX12_longIn_78 rfl rfl h23
  · refine z_iconst dX12_longIn_41 ?_
    refine z_goto dX12_longIn_42 (tgt := 51) rfl ?_
    refine z_istore dX12_longIn_51 (lv' := [(4, .int (mI 1)), (3, .int (mI v15)), (2, .int (mI (((m 0 6) * (m 0 1)) * v4))), (0, .ref (ad 0)), (1, .int (mI a0))]) (by decide) rfl ?_
    refine z_iload_n dX12_longIn_53 1 rfl ?_
    refine z_iload dX12_longIn_54 0 rfl ?_
    refine z_icmp_ge dX12_longIn_56 h17 (by decide) (tgt := 64) rfl (fun h26 => ?_) (fun h26 => ?_)
    · refine z_iload_n dX12_longIn_64 1 rfl ?_
      refine z_sipush dX12_longIn_65 (x := 999) (by decide +kernel) ?_
      refine z_icmp_le dX12_longIn_68 h17 (by decide) (tgt := 77) rfl (fun h27 => ?_) (fun h27 => ?_)
      · refine z_iload_n dX12_longIn_77 1 rfl ?_
        exact z_iret dX12_longIn_78 rfl rfl h17
      · refine z_sipush dX12_longIn_71 (x := 999) (by decide +kernel) ?_
        refine z_goto dX12_longIn_74 (tgt := 78) rfl ?_
        exact z_iret dX12_longIn_78 rfl rfl (by decide)
    · refine z_iload dX12_longIn_59 0 rfl ?_
      refine z_goto dX12_longIn_61 (tgt := 78) rfl ?_
      exact z_iret dX12_longIn_78 rfl rfl (by decide)
set_option maxRecDepth 20000 in
theorem ct_X12_tin {ad sc sv : Nat → Nat} (n : Nat) (a0 : Int) (a1 : Int) (m : ZMem) (ha0 : R32 a0) (ha1 : R32 a1) : zCT LM ad sc sv M_X12_tin yX12_tin [.ref (ad 0), .int (mI a0), .int (mI a1)] m (F_X12_tin n a0 a1 m) := by
  refine zCT_of (lv := [(0, .ref (ad 0)), (1, .int (mI a0)), (2, .int (mI a1))]) (by decide) rfl (Nat.le_of_ble_eq_true rfl) rfl ?_
  unfold F_X12_tin
  refine z_aload_n dX12_tin_0 0 rfl ?_
  refine z_iconst dX12_tin_1 ?_
  refine z_putI dX12_tin_2 (k := 16) zc_X12 lm_0 rfl (by decide) rfl rfl (by decide) k_1054 ?_
  refine z_aload_n dX12_tin_5 0 rfl ?_
  refine z_iload_n dX12_tin_6 1 rfl ?_
  refine z_callV4 dX12_tin_7 rfl (ct_X12_isTin n a0 (wr m 0 16 0) ha0) zc_X12 lm_0 k_1385 k_1387 kp_63 k_10 k_1388 zn_X12_isTin ⟨rfl, rfl, Nat.le_of_ble_eq_true rfl, Nat.le_of_ble_eq_true rfl⟩ (Nat.le_of_ble_eq_true rfl) rfl (fun v1 m2 h3 ho4 => ?_)
  refine z_if_eq dX12_tin_10 (zb01 h3) (tgt := 25) rfl (fun h5 => ?_) (fun h5 => ?_)
  · refine z_aload_n dX12_tin_25 0 rfl ?_
    refine z_aload_n dX12_tin_26 0 rfl ?_
    refine z_iload_n dX12_tin_27 1 rfl ?_
    refine z_callV4 dX12_tin_28 rfl (ct_X12_isTin n a0 m2 ha0) zc_X12 lm_0 k_1385 k_1387 kp_63 k_10 k_1388 zn_X12_isTin ⟨rfl, rfl, Nat.le_of_ble_eq_true rfl, Nat.le_of_ble_eq_true rfl⟩ (Nat.le_of_ble_eq_true rfl) rfl (fun v6 m7 h8 ho9 => ?_)
    refine z_if_eq dX12_tin_31 (zb01 h8) (tgt := 39) rfl (fun h10 => ?_) (fun h10 => ?_)
    · refine z_iconst dX12_tin_39 ?_
      refine z_callV1 dX12_tin_40 rfl (ct_X12_refuse n (-1) m7 (by decide)) zc_X12 lm_0 k_1194 k_1196 kp_37 k_10 k_1197 zn_X12_refuse ⟨rfl, rfl, Nat.le_of_ble_eq_true rfl, Nat.le_of_ble_eq_true rfl⟩ (Nat.le_of_ble_eq_true rfl) rfl (fun v11 m12 h13 ho14 => ?_)
      exact z_iret dX12_tin_43 rfl rfl h13
    · refine z_bipush dX12_tin_34 (x := (-2)) (by decide +kernel) ?_
      refine z_goto dX12_tin_36 (tgt := 40) rfl ?_
      refine z_callV1 dX12_tin_40 rfl (ct_X12_refuse n (-2) m7 (by decide)) zc_X12 lm_0 k_1194 k_1196 kp_37 k_10 k_1197 zn_X12_refuse ⟨rfl, rfl, Nat.le_of_ble_eq_true rfl, Nat.le_of_ble_eq_true rfl⟩ (Nat.le_of_ble_eq_true rfl) rfl (fun v15 m16 h17 ho18 => ?_)
      exact z_iret dX12_tin_43 rfl rfl h17
  · refine z_iload_n dX12_tin_13 2 rfl ?_
    refine z_i2l dX12_tin_14 ha1 (fun h19 => ?_)
    refine z_lconst dX12_tin_15 (x := 0) (by decide +kernel) ?_
    refine z_ldc2 dX12_tin_16 (x := 3) k_1389 ?_
    refine z_callS4 dX12_tin_19 rfl (ct_X12_in n a1 0 3 m2 h19 (by decide) (by decide)) k_1220 k_1221 k_10 k_1222 zn_X12_in ⟨rfl, rfl, Nat.le_of_ble_eq_true rfl, Nat.le_of_ble_eq_true rfl⟩ (Nat.le_of_ble_eq_true rfl) rfl (fun v20 m21 h22 ho23 => ?_)
    refine z_if_ne dX12_tin_22 (zb01 h22) (tgt := 44) rfl (fun h24 => ?_) (fun h24 => ?_)
    · refine z_aload_n dX12_tin_25 0 rfl ?_
      refine z_aload_n dX12_tin_26 0 rfl ?_
      refine z_iload_n dX12_tin_27 1 rfl ?_
      refine z_callV4 dX12_tin_28 rfl (ct_X12_isTin n a0 m21 ha0) zc_X12 lm_0 k_1385 k_1387 kp_63 k_10 k_1388 zn_X12_isTin ⟨rfl, rfl, Nat.le_of_ble_eq_true rfl, Nat.le_of_ble_eq_true rfl⟩ (Nat.le_of_ble_eq_true rfl) rfl (fun v25 m26 h27 ho28 => ?_)
      refine z_if_eq dX12_tin_31 (zb01 h27) (tgt := 39) rfl (fun h29 => ?_) (fun h29 => ?_)
      · refine z_iconst dX12_tin_39 ?_
        refine z_callV1 dX12_tin_40 rfl (ct_X12_refuse n (-1) m26 (by decide)) zc_X12 lm_0 k_1194 k_1196 kp_37 k_10 k_1197 zn_X12_refuse ⟨rfl, rfl, Nat.le_of_ble_eq_true rfl, Nat.le_of_ble_eq_true rfl⟩ (Nat.le_of_ble_eq_true rfl) rfl (fun v30 m31 h32 ho33 => ?_)
        exact z_iret dX12_tin_43 rfl rfl h32
      · refine z_bipush dX12_tin_34 (x := (-2)) (by decide +kernel) ?_
        refine z_goto dX12_tin_36 (tgt := 40) rfl ?_
        refine z_callV1 dX12_tin_40 rfl (ct_X12_refuse n (-2) m26 (by decide)) zc_X12 lm_0 k_1194 k_1196 kp_37 k_10 k_1197 zn_X12_refuse ⟨rfl, rfl, Nat.le_of_ble_eq_true rfl, Nat.le_of_ble_eq_true rfl⟩ (Nat.le_of_ble_eq_true rfl) rfl (fun v34 m35 h36 ho37 => ?_)
        exact z_iret dX12_tin_43 rfl rfl h36
    · refine z_iload_n dX12_tin_44 2 rfl ?_
      refine z_if_ne dX12_tin_45 ha1 (tgt := 57) rfl (fun h38 => ?_) (fun h38 => ?_)
      · refine z_aload_n dX12_tin_48 0 rfl ?_
        refine z_getR dX12_tin_49 (k := 12) (j := 6) zc_X12 lm_0 rfl (by decide) k_1050 ?_
        refine z_iload_n dX12_tin_52 1 rfl ?_
        refine z_iaload dX12_tin_53 ha0 (fun h39 => ?_)
        refine z_goto dX12_tin_54 (tgt := 89) rfl ?_
        exact z_iret dX12_tin_89 rfl rfl h39
      · refine z_iload_n dX12_tin_57 2 rfl ?_
        refine z_iconst dX12_tin_58 ?_
        refine z_icmp_ne dX12_tin_59 ha1 (by decide) (tgt := 71) rfl (fun h40 => ?_) (fun h40 => ?_)
        · refine z_aload_n dX12_tin_62 0 rfl ?_
          refine z_getR dX12_tin_63 (k := 13) (j := 7) zc_X12 lm_0 rfl (by decide) k_1051 ?_
          refine z_iload_n dX12_tin_66 1 rfl ?_
          refine z_iaload dX12_tin_67 ha0 (fun h41 => ?_)
          refine z_goto dX12_tin_68 (tgt := 89) rfl ?_
          exact z_iret dX12_tin_89 rfl rfl h41
        · refine z_iload_n dX12_tin_71 2 rfl ?_
          refine z_iconst dX12_tin_72 ?_
          refine z_icmp_ne dX12_tin_73 ha1 (by decide) (tgt := 84) rfl (fun h42 => ?_) (fun h42 => ?_)
          · refine z_aload_n dX12_tin_76 0 rfl ?_
            refine z_iload_n dX12_tin_77 1 rfl ?_
            refine z_callV1 dX12_tin_78 rfl (ct_X12_areaOf n a0 m21 ha0) zc_X12 lm_0 k_1390 k_1392 kp_64 k_10 k_1393 zn_X12_areaOf ⟨rfl, rfl, Nat.le_of_ble_eq_true rfl, Nat.le_of_ble_eq_true rfl⟩ (Nat.le_of_ble_eq_true rfl) rfl (fun v43 m44 h45 ho46 => ?_)
            refine z_goto dX12_tin_81 (tgt := 89) rfl ?_
            exact z_iret dX12_tin_89 rfl rfl h45
          · refine z_aload_n dX12_tin_84 0 rfl ?_
            refine z_iload_n dX12_tin_85 1 rfl ?_
            refine z_callV1 dX12_tin_86 rfl (ct_X12_longIn n a0 m21 ha0) zc_X12 lm_0 k_1394 k_1396 kp_65 k_10 k_1397 zn_X12_longIn ⟨rfl, rfl, Nat.le_of_ble_eq_true rfl, Nat.le_of_ble_eq_true rfl⟩ (Nat.le_of_ble_eq_true rfl) rfl (fun v47 m48 h49 ho50 => ?_)
            exact z_iret dX12_tin_89 rfl rfl h49
set_option maxRecDepth 20000 in
theorem ct_X12_deep {ad sc sv : Nat → Nat} (n : Nat) (a0 : Int) (a1 : Int) (m : ZMem) (ha0 : R32 a0) (ha1 : R32 a1) : zCT LM ad sc sv M_X12_deep yX12_deep [.ref (ad 0), .int (mI a0), .int (mI a1)] m (F_X12_deep n a0 a1 m) := by
  refine zCT_of (lv := [(0, .ref (ad 0)), (1, .int (mI a0)), (2, .int (mI a1))]) (by decide) rfl (Nat.le_of_ble_eq_true rfl) rfl ?_
  unfold F_X12_deep
  refine z_aload_n dX12_deep_0 0 rfl ?_
  refine z_iconst dX12_deep_1 ?_
  refine z_putI dX12_deep_2 (k := 16) zc_X12 lm_0 rfl (by decide) rfl rfl (by decide) k_1054 ?_
  refine z_aload_n dX12_deep_5 0 rfl ?_
  refine z_iload_n dX12_deep_6 1 rfl ?_
  refine z_callV4 dX12_deep_7 rfl (ct_X12_isTin n a0 (wr m 0 16 0) ha0) zc_X12 lm_0 k_1385 k_1387 kp_63 k_10 k_1388 zn_X12_isTin ⟨rfl, rfl, Nat.le_of_ble_eq_true rfl, Nat.le_of_ble_eq_true rfl⟩ (Nat.le_of_ble_eq_true rfl) rfl (fun v1 m2 h3 ho4 => ?_)
  refine z_if_eq dX12_deep_10 (zb01 h3) (tgt := 23) rfl (fun h5 => ?_) (fun h5 => ?_)
  · refine z_ldc2 dX12_deep_23 (x := 4000000000000000000) k_1341 ?_
    refine z_aload_n dX12_deep_26 0 rfl ?_
    refine z_aload_n dX12_deep_27 0 rfl ?_
    refine z_iload_n dX12_deep_28 1 rfl ?_
    refine z_callV4 dX12_deep_29 rfl (ct_X12_isTin n a0 m2 ha0) zc_X12 lm_0 k_1385 k_1387 kp_63 k_10 k_1388 zn_X12_isTin ⟨rfl, rfl, Nat.le_of_ble_eq_true rfl, Nat.le_of_ble_eq_true rfl⟩ (Nat.le_of_ble_eq_true rfl) rfl (fun v6 m7 h8 ho9 => ?_)
    refine z_if_eq dX12_deep_32 (zb01 h8) (tgt := 40) rfl (fun h10 => ?_) (fun h10 => ?_)
    · refine z_iconst dX12_deep_40 ?_
      refine z_callV1 dX12_deep_41 rfl (ct_X12_refuse n (-1) m7 (by decide)) zc_X12 lm_0 k_1194 k_1196 kp_37 k_10 k_1197 zn_X12_refuse ⟨rfl, rfl, Nat.le_of_ble_eq_true rfl, Nat.le_of_ble_eq_true rfl⟩ (Nat.le_of_ble_eq_true rfl) rfl (fun v11 m12 h13 ho14 => ?_)
      refine z_i2l dX12_deep_44 h13 (fun h15 => ?_)
      refine z_lsub dX12_deep_45 (fun h16 => ?_)
      exact z_lret dX12_deep_46 rfl rfl h16
    · refine z_bipush dX12_deep_35 (x := (-2)) (by decide +kernel) ?_
      refine z_goto dX12_deep_37 (tgt := 41) rfl ?_
      refine z_callV1 dX12_deep_41 rfl (ct_X12_refuse n (-2) m7 (by decide)) zc_X12 lm_0 k_1194 k_1196 kp_37 k_10 k_1197 zn_X12_refuse ⟨rfl, rfl, Nat.le_of_ble_eq_true rfl, Nat.le_of_ble_eq_true rfl⟩ (Nat.le_of_ble_eq_true rfl) rfl (fun v17 m18 h19 ho20 => ?_)
      refine z_i2l dX12_deep_44 h19 (fun h21 => ?_)
      refine z_lsub dX12_deep_45 (fun h22 => ?_)
      exact z_lret dX12_deep_46 rfl rfl h22
  · refine z_iload_n dX12_deep_13 2 rfl ?_
    refine z_i2l dX12_deep_14 ha1 (fun h23 => ?_)
    refine z_lconst dX12_deep_15 (x := 0) (by decide +kernel) ?_
    refine z_lconst dX12_deep_16 (x := 1) (by decide +kernel) ?_
    refine z_callS4 dX12_deep_17 rfl (ct_X12_in n a1 0 1 m2 h23 (by decide) (by decide)) k_1220 k_1221 k_10 k_1222 zn_X12_in ⟨rfl, rfl, Nat.le_of_ble_eq_true rfl, Nat.le_of_ble_eq_true rfl⟩ (Nat.le_of_ble_eq_true rfl) rfl (fun v24 m25 h26 ho27 => ?_)
    refine z_if_ne dX12_deep_20 (zb01 h26) (tgt := 47) rfl (fun h28 => ?_) (fun h28 => ?_)
    · refine z_ldc2 dX12_deep_23 (x := 4000000000000000000) k_1341 ?_
      refine z_aload_n dX12_deep_26 0 rfl ?_
      refine z_aload_n dX12_deep_27 0 rfl ?_
      refine z_iload_n dX12_deep_28 1 rfl ?_
      refine z_callV4 dX12_deep_29 rfl (ct_X12_isTin n a0 m25 ha0) zc_X12 lm_0 k_1385 k_1387 kp_63 k_10 k_1388 zn_X12_isTin ⟨rfl, rfl, Nat.le_of_ble_eq_true rfl, Nat.le_of_ble_eq_true rfl⟩ (Nat.le_of_ble_eq_true rfl) rfl (fun v29 m30 h31 ho32 => ?_)
      refine z_if_eq dX12_deep_32 (zb01 h31) (tgt := 40) rfl (fun h33 => ?_) (fun h33 => ?_)
      · refine z_iconst dX12_deep_40 ?_
        refine z_callV1 dX12_deep_41 rfl (ct_X12_refuse n (-1) m30 (by decide)) zc_X12 lm_0 k_1194 k_1196 kp_37 k_10 k_1197 zn_X12_refuse ⟨rfl, rfl, Nat.le_of_ble_eq_true rfl, Nat.le_of_ble_eq_true rfl⟩ (Nat.le_of_ble_eq_true rfl) rfl (fun v34 m35 h36 ho37 => ?_)
        refine z_i2l dX12_deep_44 h36 (fun h38 => ?_)
        refine z_lsub dX12_deep_45 (fun h39 => ?_)
        exact z_lret dX12_deep_46 rfl rfl h39
      · refine z_bipush dX12_deep_35 (x := (-2)) (by decide +kernel) ?_
        refine z_goto dX12_deep_37 (tgt := 41) rfl ?_
        refine z_callV1 dX12_deep_41 rfl (ct_X12_refuse n (-2) m30 (by decide)) zc_X12 lm_0 k_1194 k_1196 kp_37 k_10 k_1197 zn_X12_refuse ⟨rfl, rfl, Nat.le_of_ble_eq_true rfl, Nat.le_of_ble_eq_true rfl⟩ (Nat.le_of_ble_eq_true rfl) rfl (fun v40 m41 h42 ho43 => ?_)
        refine z_i2l dX12_deep_44 h42 (fun h44 => ?_)
        refine z_lsub dX12_deep_45 (fun h45 => ?_)
        exact z_lret dX12_deep_46 rfl rfl h45
    · refine z_bipush dX12_deep_47 (x := 14) (by decide +kernel) ?_
      refine z_aload_n dX12_deep_49 0 rfl ?_
      refine z_getI dX12_deep_50 (k := 5) zc_X12 lm_0 rfl (by decide) k_1043 (fun h46 => ?_)
      refine z_imul dX12_deep_53 (fun h47 => ?_)
      refine z_aload_n dX12_deep_54 0 rfl ?_
      refine z_getI dX12_deep_55 (k := 1) zc_X12 lm_0 rfl (by decide) k_1039 (fun h48 => ?_)
      refine z_imul dX12_deep_58 (fun h49 => ?_)
      refine z_aload_n dX12_deep_59 0 rfl ?_
      refine z_getI dX12_deep_60 (k := 0) zc_X12 lm_0 rfl (by decide) k_1038 (fun h50 => ?_)
      refine z_aload_n dX12_deep_63 0 rfl ?_
      refine z_iload_n dX12_deep_64 1 rfl ?_
      refine z_callV1 dX12_deep_65 rfl (ct_X12_areaOf n a0 m25 ha0) zc_X12 lm_0 k_1390 k_1392 kp_64 k_10 k_1393 zn_X12_areaOf ⟨rfl, rfl, Nat.le_of_ble_eq_true rfl, Nat.le_of_ble_eq_true rfl⟩ (Nat.le_of_ble_eq_true rfl) rfl (fun v51 m52 h53 ho54 => ?_)
      refine z_imul dX12_deep_68 (fun h55 => ?_)
      refine z_iload_n dX12_deep_69 2 rfl ?_
      refine z_callS1 dX12_deep_70 rfl (ct_X12_partOf n ((14 * (m25 0 5)) * (m25 0 1)) ((m25 0 0) * v51) a1 m52 h49 h55 ha1) k_1342 k_1343 k_10 k_1344 zn_X12_partOf ⟨rfl, rfl, Nat.le_of_ble_eq_true rfl, Nat.le_of_ble_eq_true rfl⟩ (Nat.le_of_ble_eq_true rfl) rfl (fun v56 m57 h58 ho59 => ?_)
      refine z_i2l dX12_deep_73 h58 (fun h60 => ?_)
      exact z_lret dX12_deep_74 rfl rfl h60
set_option maxRecDepth 20000 in
theorem T_X12_tinFor_111 {ad sc sv : Nat → Nat} (n : Nat) (r16 : Int → Int → Int → Int → ZMem → ZR) (hr16 : ∀ (x1 : Int) (x2 : Int) (x4 : Int) (x6 : Int) (m : ZMem), R32 x1 → R64 x2 → R64 x4 → R32 x6 → zG LM ad sc sv M_X12_tinFor 16 [(0, .ref (ad 0)), (1, .int (mI x1)), (2, .long (mL x2)), (4, .long (mL x4)), (6, .int (mI x6))] [] m (r16 x1 x2 x4 x6 m)) : ∀ (x2 : Int) (x4 : Int) (x6 : Int) (x7 : Int) (x9 : Int) (x11 : Int) (s0 : Int) (m : ZMem), R64 x2 → R64 x4 → R32 x6 → R64 x7 → R64 x9 → R32 x11 → R32 s0 → zG LM ad sc sv M_X12_tinFor 111 [(0, .ref (ad 0)), (2, .long (mL x2)), (4, .long (mL x4)), (6, .int (mI x6)), (7, .long (mL x7)), (9, .long (mL x9)), (11, .int (mI x11))] [.int (mI s0)] m (B_X12_tinFor_111 n r16 x2 x4 x6 x7 x9 x11 s0 m) := by
  intro x2 x4 x6 x7 x9 x11 s0 m hx2 hx4 hx6 hx7 hx9 hx11 hs0
  unfold B_X12_tinFor_111
  refine z_istore_n dX12_tinFor_111 (lv' := [(1, .int (mI s0)), (0, .ref (ad 0)), (2, .long (mL x2)), (4, .long (mL x4)), (6, .int (mI x6)), (7, .long (mL x7)), (9, .long (mL x9)), (11, .int (mI x11))]) (by decide) rfl ?_
  refine z_iload dX12_tinFor_112 7 rfl ?_
  refine z_if_eq dX12_tinFor_114 hx11 (tgt := 122) rfl (fun h30 => ?_) (fun h30 => ?_)
  · refine z_lload_n dX12_tinFor_122 2 rfl ?_
    refine z_lstore_n dX12_tinFor_123 (lv' := [(2, .long (mL x2)), (1, .int (mI s0)), (0, .ref (ad 0)), (4, .long (mL x4)), (6, .int (mI x6)), (7, .long (mL x7)), (9, .long (mL x9)), (11, .int (mI x11))]) (by decide) rfl ?_
    refine z_iload dX12_tinFor_124 7 rfl ?_
    refine z_if_eq dX12_tinFor_126 hx11 (tgt := 134) rfl (fun h31 => ?_) (fun h31 => ?_)
    · refine z_lload dX12_tinFor_134 3 rfl ?_
      refine z_lstore dX12_tinFor_136 (lv' := [(4, .long (mL x4)), (2, .long (mL x2)), (1, .int (mI s0)), (0, .ref (ad 0)), (6, .int (mI x6)), (7, .long (mL x7)), (9, .long (mL x9)), (11, .int (mI x11))]) (by decide) rfl ?_
      refine z_iinc dX12_tinFor_138 (lv' := [(6, .int (mI (x6 + 1))), (4, .long (mL x4)), (2, .long (mL x2)), (1, .int (mI s0)), (0, .ref (ad 0)), (7, .long (mL x7)), (9, .long (mL x9)), (11, .int (mI x11))]) 4 rfl (by decide) rfl (fun h32 => ?_)
      refine z_goto dX12_tinFor_141 (tgt := 16) rfl ?_
      exact zG_lvk (hr16 s0 x2 x4 (x6 + 1) m hs0 hx2 hx4 h32) [4, 3, 2, 1, 0] rfl
    · refine z_lload dX12_tinFor_129 6 rfl ?_
      refine z_goto dX12_tinFor_131 (tgt := 136) rfl ?_
      refine z_lstore dX12_tinFor_136 (lv' := [(4, .long (mL x9)), (2, .long (mL x2)), (1, .int (mI s0)), (0, .ref (ad 0)), (6, .int (mI x6)), (7, .long (mL x7)), (9, .long (mL x9)), (11, .int (mI x11))]) (by decide) rfl ?_
      refine z_iinc dX12_tinFor_138 (lv' := [(6, .int (mI (x6 + 1))), (4, .long (mL x9)), (2, .long (mL x2)), (1, .int (mI s0)), (0, .ref (ad 0)), (7, .long (mL x7)), (9, .long (mL x9)), (11, .int (mI x11))]) 4 rfl (by decide) rfl (fun h33 => ?_)
      refine z_goto dX12_tinFor_141 (tgt := 16) rfl ?_
      exact zG_lvk (hr16 s0 x2 x9 (x6 + 1) m hs0 hx2 hx9 h33) [4, 3, 2, 1, 0] rfl
  · refine z_lload dX12_tinFor_117 5 rfl ?_
    refine z_goto dX12_tinFor_119 (tgt := 123) rfl ?_
    refine z_lstore_n dX12_tinFor_123 (lv' := [(2, .long (mL x7)), (1, .int (mI s0)), (0, .ref (ad 0)), (4, .long (mL x4)), (6, .int (mI x6)), (7, .long (mL x7)), (9, .long (mL x9)), (11, .int (mI x11))]) (by decide) rfl ?_
    refine z_iload dX12_tinFor_124 7 rfl ?_
    refine z_if_eq dX12_tinFor_126 hx11 (tgt := 134) rfl (fun h34 => ?_) (fun h34 => ?_)
    · refine z_lload dX12_tinFor_134 3 rfl ?_
      refine z_lstore dX12_tinFor_136 (lv' := [(4, .long (mL x4)), (2, .long (mL x7)), (1, .int (mI s0)), (0, .ref (ad 0)), (6, .int (mI x6)), (7, .long (mL x7)), (9, .long (mL x9)), (11, .int (mI x11))]) (by decide) rfl ?_
      refine z_iinc dX12_tinFor_138 (lv' := [(6, .int (mI (x6 + 1))), (4, .long (mL x4)), (2, .long (mL x7)), (1, .int (mI s0)), (0, .ref (ad 0)), (7, .long (mL x7)), (9, .long (mL x9)), (11, .int (mI x11))]) 4 rfl (by decide) rfl (fun h35 => ?_)
      refine z_goto dX12_tinFor_141 (tgt := 16) rfl ?_
      exact zG_lvk (hr16 s0 x7 x4 (x6 + 1) m hs0 hx7 hx4 h35) [4, 3, 2, 1, 0] rfl
    · refine z_lload dX12_tinFor_129 6 rfl ?_
      refine z_goto dX12_tinFor_131 (tgt := 136) rfl ?_
      refine z_lstore dX12_tinFor_136 (lv' := [(4, .long (mL x9)), (2, .long (mL x7)), (1, .int (mI s0)), (0, .ref (ad 0)), (6, .int (mI x6)), (7, .long (mL x7)), (9, .long (mL x9)), (11, .int (mI x11))]) (by decide) rfl ?_
      refine z_iinc dX12_tinFor_138 (lv' := [(6, .int (mI (x6 + 1))), (4, .long (mL x9)), (2, .long (mL x7)), (1, .int (mI s0)), (0, .ref (ad 0)), (7, .long (mL x7)), (9, .long (mL x9)), (11, .int (mI x11))]) 4 rfl (by decide) rfl (fun h36 => ?_)
      refine z_goto dX12_tinFor_141 (tgt := 16) rfl ?_
      exact zG_lvk (hr16 s0 x7 x9 (x6 + 1) m hs0 hx7 hx9 h36) [4, 3, 2, 1, 0] rfl
set_option maxRecDepth 20000 in
theorem T_X12_tinFor_65 {ad sc sv : Nat → Nat} (n : Nat) (r16 : Int → Int → Int → Int → ZMem → ZR) (hr16 : ∀ (x1 : Int) (x2 : Int) (x4 : Int) (x6 : Int) (m : ZMem), R32 x1 → R64 x2 → R64 x4 → R32 x6 → zG LM ad sc sv M_X12_tinFor 16 [(0, .ref (ad 0)), (1, .int (mI x1)), (2, .long (mL x2)), (4, .long (mL x4)), (6, .int (mI x6))] [] m (r16 x1 x2 x4 x6 m)) : ∀ (x1 : Int) (x2 : Int) (x4 : Int) (x6 : Int) (s0 : Int) (m : ZMem), R32 x1 → R64 x2 → R64 x4 → R32 x6 → R64 s0 → zG LM ad sc sv M_X12_tinFor 65 [(0, .ref (ad 0)), (1, .int (mI x1)), (2, .long (mL x2)), (4, .long (mL x4)), (6, .int (mI x6))] [.long (mL s0)] m (B_X12_tinFor_65 n r16 x1 x2 x4 x6 s0 m) := by
  intro x1 x2 x4 x6 s0 m hx1 hx2 hx4 hx6 hs0
  unfold B_X12_tinFor_65
  refine z_lstore dX12_tinFor_65 (lv' := [(7, .long (mL s0)), (0, .ref (ad 0)), (1, .int (mI x1)), (2, .long (mL x2)), (4, .long (mL x4)), (6, .int (mI x6))]) (by decide) rfl ?_
  refine z_aload_n dX12_tinFor_67 1 rfl ?_
  refine z_iload dX12_tinFor_68 5 rfl ?_
  refine z_callV1 dX12_tinFor_70 rfl (ct_X12_areaOf n x6 m hx6) zc_X12 lm_0 k_1390 k_1392 kp_64 k_10 k_1393 zn_X12_areaOf ⟨rfl, rfl, Nat.le_of_ble_eq_true rfl, Nat.le_of_ble_eq_true rfl⟩ (Nat.le_of_ble_eq_true rfl) rfl (fun v20 m21 h22 ho23 => ?_)
  refine z_i2l dX12_tinFor_73 h22 (fun h24 => ?_)
  refine z_lstore dX12_tinFor_74 (lv' := [(9, .long (mL v20)), (7, .long (mL s0)), (0, .ref (ad 0)), (1, .int (mI x1)), (2, .long (mL x2)), (4, .long (mL x4)), (6, .int (mI x6))]) (by decide) rfl ?_
  refine z_iload_n dX12_tinFor_76 3 rfl ?_
  refine z_if_lt dX12_tinFor_77 hx1 (tgt := 93) rfl (fun h25 => ?_) (fun h25 => ?_)
  · refine z_iconst dX12_tinFor_93 ?_
    refine z_goto dX12_tinFor_94 (tgt := 98) rfl ?_
    refine z_istore dX12_tinFor_98 (lv' := [(11, .int (mI 1)), (9, .long (mL v20)), (7, .long (mL s0)), (0, .ref (ad 0)), (1, .int (mI x1)), (2, .long (mL x2)), (4, .long (mL x4)), (6, .int (mI x6))]) (by decide) rfl ?_
    refine z_iload dX12_tinFor_100 0 rfl ?_
    refine z_if_eq_f dX12_tinFor_102 (by decide) (by decide) (tgt := 110) rfl ?_
    refine z_iload dX12_tinFor_105 7 rfl ?_
    refine z_goto dX12_tinFor_107 (tgt := 111) rfl ?_
    exact zG_lvk (T_X12_tinFor_111 n r16 hr16 x2 x4 x6 s0 v20 1 x6 m21 hx2 hx4 hx6 hs0 h24 (by decide) hx6) [3, 5, 6, 7, 2, 1, 0] rfl
  · refine z_lload dX12_tinFor_80 1 rfl ?_
    refine z_lload dX12_tinFor_82 5 rfl ?_
    refine z_lmul dX12_tinFor_84 (fun h26 => ?_)
    refine z_lload_n dX12_tinFor_85 4 rfl ?_
    refine z_lload dX12_tinFor_86 0 rfl ?_
    refine z_lmul dX12_tinFor_88 (fun h27 => ?_)
    refine z_lcmp dX12_tinFor_89 h26 h27 (fun h28 => ?_)
    refine z_if_ge dX12_tinFor_90 h28 (tgt := 97) rfl (fun h29 => ?_) (fun h29 => ?_)
    · refine z_iconst dX12_tinFor_97 ?_
      refine z_istore dX12_tinFor_98 (lv' := [(11, .int (mI 0)), (9, .long (mL v20)), (7, .long (mL s0)), (0, .ref (ad 0)), (1, .int (mI x1)), (2, .long (mL x2)), (4, .long (mL x4)), (6, .int (mI x6))]) (by decide) rfl ?_
      refine z_iload dX12_tinFor_100 0 rfl ?_
      refine z_if_eq_t dX12_tinFor_102 (by decide) (by decide) (tgt := 110) rfl ?_
      refine z_iload_n dX12_tinFor_110 4 rfl ?_
      exact zG_lvk (T_X12_tinFor_111 n r16 hr16 x2 x4 x6 s0 v20 0 x1 m21 hx2 hx4 hx6 hs0 h24 (by decide) hx1) [3, 5, 6, 7, 2, 1, 0] rfl
    · refine z_iconst dX12_tinFor_93 ?_
      refine z_goto dX12_tinFor_94 (tgt := 98) rfl ?_
      refine z_istore dX12_tinFor_98 (lv' := [(11, .int (mI 1)), (9, .long (mL v20)), (7, .long (mL s0)), (0, .ref (ad 0)), (1, .int (mI x1)), (2, .long (mL x2)), (4, .long (mL x4)), (6, .int (mI x6))]) (by decide) rfl ?_
      refine z_iload dX12_tinFor_100 0 rfl ?_
      refine z_if_eq_f dX12_tinFor_102 (by decide) (by decide) (tgt := 110) rfl ?_
      refine z_iload dX12_tinFor_105 7 rfl ?_
      refine z_goto dX12_tinFor_107 (tgt := 111) rfl ?_
      exact zG_lvk (T_X12_tinFor_111 n r16 hr16 x2 x4 x6 s0 v20 1 x6 m21 hx2 hx4 hx6 hs0 h24 (by decide) hx6) [3, 5, 6, 7, 2, 1, 0] rfl
set_option maxRecDepth 20000 in
theorem T_X12_tinFor_16 {ad sc sv : Nat → Nat} (n : Nat) (r16 : Int → Int → Int → Int → ZMem → ZR) (hr16 : ∀ (x1 : Int) (x2 : Int) (x4 : Int) (x6 : Int) (m : ZMem), R32 x1 → R64 x2 → R64 x4 → R32 x6 → zG LM ad sc sv M_X12_tinFor 16 [(0, .ref (ad 0)), (1, .int (mI x1)), (2, .long (mL x2)), (4, .long (mL x4)), (6, .int (mI x6))] [] m (r16 x1 x2 x4 x6 m)) : ∀ (x1 : Int) (x2 : Int) (x4 : Int) (x6 : Int) (m : ZMem), R32 x1 → R64 x2 → R64 x4 → R32 x6 → zG LM ad sc sv M_X12_tinFor 16 [(0, .ref (ad 0)), (1, .int (mI x1)), (2, .long (mL x2)), (4, .long (mL x4)), (6, .int (mI x6))] [] m (B_X12_tinFor_16 n r16 x1 x2 x4 x6 m) := by
  intro x1 x2 x4 x6 m hx1 hx2 hx4 hx6
  unfold B_X12_tinFor_16
  refine z_iload dX12_tinFor_16 4 rfl ?_
  refine z_aload_n dX12_tinFor_18 0 rfl ?_
  refine z_getI dX12_tinFor_19 (k := 3) zc_X12 lm_0 rfl (by decide) k_1041 (fun h1 => ?_)
  refine z_icmp_ge dX12_tinFor_22 hx6 h1 (tgt := 144) rfl (fun h2 => ?_) (fun h2 => ?_)
  · refine z_iload_n dX12_tinFor_144 1 rfl ?_
    exact z_iret dX12_tinFor_145 rfl rfl hx1
  · refine z_aload_n dX12_tinFor_25 0 rfl ?_
    refine z_getI dX12_tinFor_26 (k := 1) zc_X12 lm_0 rfl (by decide) k_1039 (fun h3 => ?_)
    refine z_aload_n dX12_tinFor_29 0 rfl ?_
    refine z_iconst dX12_tinFor_30 ?_
    refine z_callV1 dX12_tinFor_31 rfl (ct_X12_areaOf n 0 m (by decide)) zc_X12 lm_0 k_1390 k_1392 kp_64 k_10 k_1393 zn_X12_areaOf ⟨rfl, rfl, Nat.le_of_ble_eq_true rfl, Nat.le_of_ble_eq_true rfl⟩ (Nat.le_of_ble_eq_true rfl) rfl (fun v4 m5 h6 ho7 => ?_)
    refine z_imul dX12_tinFor_34 (fun h8 => ?_)
    refine z_aload_n dX12_tinFor_35 0 rfl ?_
    refine z_getI dX12_tinFor_36 (k := 0) zc_X12 lm_0 rfl (by decide) k_1038 (fun h9 => ?_)
    refine z_aload_n dX12_tinFor_39 0 rfl ?_
    refine z_iload dX12_tinFor_40 4 rfl ?_
    refine z_callV1 dX12_tinFor_42 rfl (ct_X12_areaOf n x6 m5 hx6) zc_X12 lm_0 k_1390 k_1392 kp_64 k_10 k_1393 zn_X12_areaOf ⟨rfl, rfl, Nat.le_of_ble_eq_true rfl, Nat.le_of_ble_eq_true rfl⟩ (Nat.le_of_ble_eq_true rfl) rfl (fun v10 m11 h12 ho13 => ?_)
    refine z_imul dX12_tinFor_45 (fun h14 => ?_)
    refine z_isub dX12_tinFor_46 (fun h15 => ?_)
    refine z_i2l dX12_tinFor_47 h15 (fun h16 => ?_)
    refine z_lstore dX12_tinFor_48 (lv' := [(7, .long (mL (((m 0 1) * v4) - ((m5 0 0) * v10)))), (0, .ref (ad 0)), (1, .int (mI x1)), (2, .long (mL x2)), (4, .long (mL x4)), (6, .int (mI x6))]) (by decide) rfl ?_
    refine z_lload dX12_tinFor_50 0 rfl ?_
    refine z_lconst dX12_tinFor_52 (x := 0) (by decide +kernel) ?_
    refine z_lcmp dX12_tinFor_53 h16 (by decide) (fun h17 => ?_)
    refine z_if_ge dX12_tinFor_54 h17 (tgt := 63) rfl (fun h18 => ?_) (fun h18 => ?_)
    · refine z_lload dX12_tinFor_63 0 rfl ?_
      exact zG_lvk (T_X12_tinFor_65 n r16 hr16 x1 x2 x4 x6 (((m 0 1) * v4) - ((m5 0 0) * v10)) m11 hx1 hx2 hx4 hx6 h16) [1, 2, 3, 4, 5] rfl
    · refine z_lload dX12_tinFor_57 0 rfl ?_
      refine z_lneg dX12_tinFor_59 (fun h19 => ?_)
      refine z_goto dX12_tinFor_60 (tgt := 65) rfl ?_
      exact zG_lvk (T_X12_tinFor_65 n r16 hr16 x1 x2 x4 x6 (-(((m 0 1) * v4) - ((m5 0 0) * v10))) m11 hx1 hx2 hx4 hx6 h19) [1, 2, 3, 4, 5] rfl
theorem TL_X12_tinFor_16 {ad sc sv : Nat → Nat} (n : Nat) : ∀ q : Nat, ∀ (x1 : Int) (x2 : Int) (x4 : Int) (x6 : Int) (m : ZMem), R32 x1 → R64 x2 → R64 x4 → R32 x6 → zG LM ad sc sv M_X12_tinFor 16 [(0, .ref (ad 0)), (1, .int (mI x1)), (2, .long (mL x2)), (4, .long (mL x4)), (6, .int (mI x6))] [] m (L_X12_tinFor_16 n q x1 x2 x4 x6 m) := by
  intro q
  induction q with
  | zero => intros; exact zG_none
  | succ q ih => exact T_X12_tinFor_16 n (L_X12_tinFor_16 n q) ih
set_option maxRecDepth 20000 in
theorem ct_X12_tinFor {ad sc sv : Nat → Nat} (n : Nat) (m : ZMem) : zCT LM ad sc sv M_X12_tinFor yX12_tinFor [.ref (ad 0)] m (F_X12_tinFor n m) := by
  refine zCT_of (lv := [(0, .ref (ad 0))]) (by decide) rfl (Nat.le_of_ble_eq_true rfl) rfl ?_
  unfold F_X12_tinFor
  refine z_aload_n dX12_tinFor_0 0 rfl ?_
  refine z_iconst dX12_tinFor_1 ?_
  refine z_putI dX12_tinFor_2 (k := 16) zc_X12 lm_0 rfl (by decide) rfl rfl (by decide) k_1054 ?_
  refine z_bipush dX12_tinFor_5 (x := (-9)) (by decide +kernel) ?_
  refine z_istore_n dX12_tinFor_7 (lv' := [(1, .int (mI (-9))), (0, .ref (ad 0))]) (by decide) rfl ?_
  refine z_lconst dX12_tinFor_8 (x := 0) (by decide +kernel) ?_
  refine z_lstore_n dX12_tinFor_9 (lv' := [(2, .long (mL 0)), (1, .int (mI (-9))), (0, .ref (ad 0))]) (by decide) rfl ?_
  refine z_lconst dX12_tinFor_10 (x := 1) (by decide +kernel) ?_
  refine z_lstore dX12_tinFor_11 (lv' := [(4, .long (mL 1)), (2, .long (mL 0)), (1, .int (mI (-9))), (0, .ref (ad 0))]) (by decide) rfl ?_
  refine z_iconst dX12_tinFor_13 ?_
  refine z_istore dX12_tinFor_14 (lv' := [(6, .int (mI 0)), (4, .long (mL 1)), (2, .long (mL 0)), (1, .int (mI (-9))), (0, .ref (ad 0))]) (by decide) rfl ?_
  exact zG_lvk (TL_X12_tinFor_16 n n (-9) 0 1 0 (wr m 0 16 0) (by decide) (by decide) (by decide) (by decide)) [4, 3, 2, 1, 0] rfl
set_option maxRecDepth 20000 in
theorem T_X12_isEnough_4 {ad sc sv : Nat → Nat} (n : Nat) (r4 : Int → Int → Int → ZMem → ZR) (hr4 : ∀ (x1 : Int) (x2 : Int) (x3 : Int) (m : ZMem), R32 x1 → R32 x2 → R32 x3 → zG LM ad sc sv M_X12_isEnough 4 [(0, .ref (ad 0)), (1, .int (mI x1)), (2, .int (mI x2)), (3, .int (mI x3))] [] m (r4 x1 x2 x3 m)) : ∀ (x1 : Int) (x2 : Int) (x3 : Int) (m : ZMem), R32 x1 → R32 x2 → R32 x3 → zG LM ad sc sv M_X12_isEnough 4 [(0, .ref (ad 0)), (1, .int (mI x1)), (2, .int (mI x2)), (3, .int (mI x3))] [] m (B_X12_isEnough_4 n r4 x1 x2 x3 m) := by
  intro x1 x2 x3 m hx1 hx2 hx3
  unfold B_X12_isEnough_4
  refine z_iload_n dX12_isEnough_4 3 rfl ?_
  refine z_aload_n dX12_isEnough_5 0 rfl ?_
  refine z_getI dX12_isEnough_6 (k := 2) zc_X12 lm_0 rfl (by decide) k_1040 (fun h1 => ?_)
  refine z_icmp_ge dX12_isEnough_9 hx3 h1 (tgt := 46) rfl (fun h2 => ?_) (fun h2 => ?_)
  · refine z_iload_n dX12_isEnough_46 2 rfl ?_
    refine zG_chk (fun h3 => ?_)
    exact z_zret dX12_isEnough_47 rfl rfl h3
  · refine z_iload_n dX12_isEnough_12 2 rfl ?_
    refine z_if_eq dX12_isEnough_13 hx2 (tgt := 38) rfl (fun h4 => ?_) (fun h4 => ?_)
    · refine z_iconst dX12_isEnough_38 ?_
      refine z_istore_n dX12_isEnough_39 (lv' := [(2, .int (mI 0)), (0, .ref (ad 0)), (1, .int (mI x1)), (3, .int (mI x3))]) (by decide) rfl ?_
      refine z_iinc dX12_isEnough_40 (lv' := [(3, .int (mI (x3 + 1))), (2, .int (mI 0)), (0, .ref (ad 0)), (1, .int (mI x1))]) 3 rfl (by decide) rfl (fun h5 => ?_)
      refine z_goto dX12_isEnough_43 (tgt := 4) rfl ?_
      exact zG_lvk (hr4 x1 0 (x3 + 1) m hx1 (by decide) h5) [2, 3, 1, 0] rfl
    · refine z_bipush dX12_isEnough_16 (x := 12) (by decide +kernel) ?_
      refine z_aload_n dX12_isEnough_18 0 rfl ?_
      refine z_getR dX12_isEnough_19 (k := 11) (j := 5) zc_X12 lm_0 rfl (by decide) k_1049 ?_
      refine z_iload_n dX12_isEnough_22 3 rfl ?_
      refine z_iaload dX12_isEnough_23 hx3 (fun h6 => ?_)
      refine z_imul dX12_isEnough_24 (fun h7 => ?_)
      refine z_aload_n dX12_isEnough_25 0 rfl ?_
      refine z_iload_n dX12_isEnough_26 3 rfl ?_
      refine z_iload_n dX12_isEnough_27 1 rfl ?_
      refine z_callV1 dX12_isEnough_28 rfl (ct_X12_takenFor n x3 x1 m hx3 hx1) zc_X12 lm_0 k_1290 k_1292 kp_55 k_10 k_1293 zn_X12_takenFor ⟨rfl, rfl, Nat.le_of_ble_eq_true rfl, Nat.le_of_ble_eq_true rfl⟩ (Nat.le_of_ble_eq_true rfl) rfl (fun v8 m9 h10 ho11 => ?_)
      refine z_icmp_lt dX12_isEnough_31 h7 h10 (tgt := 38) rfl (fun h12 => ?_) (fun h12 => ?_)
      · refine z_iconst dX12_isEnough_38 ?_
        refine z_istore_n dX12_isEnough_39 (lv' := [(2, .int (mI 0)), (0, .ref (ad 0)), (1, .int (mI x1)), (3, .int (mI x3))]) (by decide) rfl ?_
        refine z_iinc dX12_isEnough_40 (lv' := [(3, .int (mI (x3 + 1))), (2, .int (mI 0)), (0, .ref (ad 0)), (1, .int (mI x1))]) 3 rfl (by decide) rfl (fun h13 => ?_)
        refine z_goto dX12_isEnough_43 (tgt := 4) rfl ?_
        exact zG_lvk (hr4 x1 0 (x3 + 1) m9 hx1 (by decide) h13) [2, 3, 1, 0] rfl
      · refine z_iconst dX12_isEnough_34 ?_
        refine z_goto dX12_isEnough_35 (tgt := 39) rfl ?_
        refine z_istore_n dX12_isEnough_39 (lv' := [(2, .int (mI 1)), (0, .ref (ad 0)), (1, .int (mI x1)), (3, .int (mI x3))]) (by decide) rfl ?_
        refine z_iinc dX12_isEnough_40 (lv' := [(3, .int (mI (x3 + 1))), (2, .int (mI 1)), (0, .ref (ad 0)), (1, .int (mI x1))]) 3 rfl (by decide) rfl (fun h14 => ?_)
        refine z_goto dX12_isEnough_43 (tgt := 4) rfl ?_
        exact zG_lvk (hr4 x1 1 (x3 + 1) m9 hx1 (by decide) h14) [2, 3, 1, 0] rfl
theorem TL_X12_isEnough_4 {ad sc sv : Nat → Nat} (n : Nat) : ∀ q : Nat, ∀ (x1 : Int) (x2 : Int) (x3 : Int) (m : ZMem), R32 x1 → R32 x2 → R32 x3 → zG LM ad sc sv M_X12_isEnough 4 [(0, .ref (ad 0)), (1, .int (mI x1)), (2, .int (mI x2)), (3, .int (mI x3))] [] m (L_X12_isEnough_4 n q x1 x2 x3 m) := by
  intro q
  induction q with
  | zero => intros; exact zG_none
  | succ q ih => exact T_X12_isEnough_4 n (L_X12_isEnough_4 n q) ih
set_option maxRecDepth 20000 in
theorem ct_X12_isEnough {ad sc sv : Nat → Nat} (n : Nat) (a0 : Int) (m : ZMem) (ha0 : R32 a0) : zCT LM ad sc sv M_X12_isEnough yX12_isEnough [.ref (ad 0), .int (mI a0)] m (F_X12_isEnough n a0 m) := by
  refine zCT_of (lv := [(0, .ref (ad 0)), (1, .int (mI a0))]) (by decide) rfl (Nat.le_of_ble_eq_true rfl) rfl ?_
  unfold F_X12_isEnough
  refine z_iconst dX12_isEnough_0 ?_
  refine z_istore_n dX12_isEnough_1 (lv' := [(2, .int (mI 1)), (0, .ref (ad 0)), (1, .int (mI a0))]) (by decide) rfl ?_
  refine z_iconst dX12_isEnough_2 ?_
  refine z_istore_n dX12_isEnough_3 (lv' := [(3, .int (mI 0)), (2, .int (mI 1)), (0, .ref (ad 0)), (1, .int (mI a0))]) (by decide) rfl ?_
  exact zG_lvk (TL_X12_isEnough_4 n n a0 1 0 m ha0 (by decide) (by decide)) [2, 3, 1, 0] rfl
set_option maxRecDepth 20000 in
theorem T_X12_enough_8 {ad sc sv : Nat → Nat} (n : Nat) (r8 : Int → ZMem → ZR) (hr8 : ∀ (x1 : Int) (m : ZMem), R32 x1 → zG LM ad sc sv M_X12_enough 8 [(0, .ref (ad 0)), (1, .int (mI x1))] [] m (r8 x1 m)) : ∀ (x1 : Int) (m : ZMem), R32 x1 → zG LM ad sc sv M_X12_enough 8 [(0, .ref (ad 0)), (1, .int (mI x1))] [] m (B_X12_enough_8 n r8 x1 m) := by
  intro x1 m hx1
  unfold B_X12_enough_8
  refine z_iload_n dX12_enough_8 1 rfl ?_
  refine z_if_le dX12_enough_9 hx1 (tgt := 26) rfl (fun h1 => ?_) (fun h1 => ?_)
  · refine z_iload_n dX12_enough_26 1 rfl ?_
    exact z_iret dX12_enough_27 rfl rfl hx1
  · refine z_aload_n dX12_enough_12 0 rfl ?_
    refine z_iload_n dX12_enough_13 1 rfl ?_
    refine z_callV4 dX12_enough_14 rfl (ct_X12_isEnough n x1 m hx1) zc_X12 lm_0 k_1410 k_1412 kp_66 k_10 k_1413 zn_X12_isEnough ⟨rfl, rfl, Nat.le_of_ble_eq_true rfl, Nat.le_of_ble_eq_true rfl⟩ (Nat.le_of_ble_eq_true rfl) rfl (fun v2 m3 h4 ho5 => ?_)
    refine z_if_ne dX12_enough_17 (zb01 h4) (tgt := 26) rfl (fun h6 => ?_) (fun h6 => ?_)
    · refine z_iinc dX12_enough_20 (lv' := [(1, .int (mI (x1 + (-1)))), (0, .ref (ad 0))]) 1 rfl (by decide) rfl (fun h7 => ?_)
      refine z_goto dX12_enough_23 (tgt := 8) rfl ?_
      exact zG_lvk (hr8 (x1 + (-1)) m3 h7) [1, 0] rfl
    · refine z_iload_n dX12_enough_26 1 rfl ?_
      exact z_iret dX12_enough_27 rfl rfl hx1
theorem TL_X12_enough_8 {ad sc sv : Nat → Nat} (n : Nat) : ∀ q : Nat, ∀ (x1 : Int) (m : ZMem), R32 x1 → zG LM ad sc sv M_X12_enough 8 [(0, .ref (ad 0)), (1, .int (mI x1))] [] m (L_X12_enough_8 n q x1 m) := by
  intro q
  induction q with
  | zero => intros; exact zG_none
  | succ q ih => exact T_X12_enough_8 n (L_X12_enough_8 n q) ih
set_option maxRecDepth 20000 in
theorem ct_X12_enough {ad sc sv : Nat → Nat} (n : Nat) (m : ZMem) : zCT LM ad sc sv M_X12_enough yX12_enough [.ref (ad 0)] m (F_X12_enough n m) := by
  refine zCT_of (lv := [(0, .ref (ad 0))]) (by decide) rfl (Nat.le_of_ble_eq_true rfl) rfl ?_
  unfold F_X12_enough
  refine z_aload_n dX12_enough_0 0 rfl ?_
  refine z_iconst dX12_enough_1 ?_
  refine z_putI dX12_enough_2 (k := 16) zc_X12 lm_0 rfl (by decide) rfl rfl (by decide) k_1054 ?_
  refine z_bipush dX12_enough_5 (x := 24) (by decide +kernel) ?_
  refine z_istore_n dX12_enough_7 (lv' := [(1, .int (mI 24)), (0, .ref (ad 0))]) (by decide) rfl ?_
  exact zG_lvk (TL_X12_enough_8 n n 24 (wr m 0 16 0) (by decide)) [1, 0] rfl
set_option maxRecDepth 20000 in
theorem ct_X12_lackOf {ad sc sv : Nat → Nat} (n : Nat) (a0 : Int) (m : ZMem) (ha0 : R32 a0) : zCT LM ad sc sv M_X12_lackOf yX12_lackOf [.ref (ad 0), .int (mI a0)] m (F_X12_lackOf n a0 m) := by
  refine zCT_of (lv := [(0, .ref (ad 0)), (1, .int (mI a0))]) (by decide) rfl (Nat.le_of_ble_eq_true rfl) rfl ?_
  unfold F_X12_lackOf
  refine z_aload_n dX12_lackOf_0 0 rfl ?_
  refine z_iload_n dX12_lackOf_1 1 rfl ?_
  refine z_aload_n dX12_lackOf_2 0 rfl ?_
  refine z_getI dX12_lackOf_3 (k := 1) zc_X12 lm_0 rfl (by decide) k_1039 (fun h1 => ?_)
  refine z_callV1 dX12_lackOf_6 rfl (ct_X12_takenFor n a0 (m 0 1) m ha0 h1) zc_X12 lm_0 k_1290 k_1292 kp_55 k_10 k_1293 zn_X12_takenFor ⟨rfl, rfl, Nat.le_of_ble_eq_true rfl, Nat.le_of_ble_eq_true rfl⟩ (Nat.le_of_ble_eq_true rfl) rfl (fun v2 m3 h4 ho5 => ?_)
  refine z_bipush dX12_lackOf_9 (x := 12) (by decide +kernel) ?_
  refine z_aload_n dX12_lackOf_11 0 rfl ?_
  refine z_getR dX12_lackOf_12 (k := 11) (j := 5) zc_X12 lm_0 rfl (by decide) k_1049 ?_
  refine z_iload_n dX12_lackOf_15 1 rfl ?_
  refine z_iaload dX12_lackOf_16 ha0 (fun h6 => ?_)
  refine z_imul dX12_lackOf_17 (fun h7 => ?_)
  refine z_isub dX12_lackOf_18 (fun h8 => ?_)
  refine z_istore_n dX12_lackOf_19 (lv' := [(2, .int (mI (v2 - (12 * (m3 5 (a0 : Int).toNat))))), (0, .ref (ad 0)), (1, .int (mI a0))]) (by decide) rfl ?_
  refine z_iload_n dX12_lackOf_20 0 rfl ?_
  refine z_if_le dX12_lackOf_21 h8 (tgt := 33) rfl (fun h9 => ?_) (fun h9 => ?_)
  · refine z_iconst dX12_lackOf_33 ?_
    exact z_iret dX12_lackOf_34 rfl rfl (by decide)
  · refine z_iload_n dX12_lackOf_24 0 rfl ?_
    refine z_bipush dX12_lackOf_25 (x := 12) (by decide +kernel) ?_
    refine z_callS1 dX12_lackOf_27 rfl (ct_X12_up n (v2 - (12 * (m3 5 (a0 : Int).toNat))) 12 m3 h8 (by decide)) k_1304 k_1305 k_10 k_1306 zn_X12_up ⟨rfl, rfl, Nat.le_of_ble_eq_true rfl, Nat.le_of_ble_eq_true rfl⟩ (Nat.le_of_ble_eq_true rfl) rfl (fun v10 m11 h12 ho13 => ?_)
    refine z_goto dX12_lackOf_30 (tgt := 34) rfl ?_
    exact z_iret dX12_lackOf_34 rfl rfl h12
set_option maxRecDepth 20000 in
theorem T_X12_lacks_9 {ad sc sv : Nat → Nat} (n : Nat) (r9 : Int → Int → ZMem → ZR) (hr9 : ∀ (x1 : Int) (x2 : Int) (m : ZMem), R32 x1 → R32 x2 → zG LM ad sc sv M_X12_lacks 9 [(0, .ref (ad 0)), (1, .int (mI x1)), (2, .int (mI x2))] [] m (r9 x1 x2 m)) : ∀ (x1 : Int) (x2 : Int) (m : ZMem), R32 x1 → R32 x2 → zG LM ad sc sv M_X12_lacks 9 [(0, .ref (ad 0)), (1, .int (mI x1)), (2, .int (mI x2))] [] m (B_X12_lacks_9 n r9 x1 x2 m) := by
  intro x1 x2 m hx1 hx2
  unfold B_X12_lacks_9
  refine z_iload_n dX12_lacks_9 2 rfl ?_
  refine z_aload_n dX12_lacks_10 0 rfl ?_
  refine z_getI dX12_lacks_11 (k := 2) zc_X12 lm_0 rfl (by decide) k_1040 (fun h1 => ?_)
  refine z_icmp_ge dX12_lacks_14 hx2 h1 (tgt := 41) rfl (fun h2 => ?_) (fun h2 => ?_)
  · refine z_iload_n dX12_lacks_41 1 rfl ?_
    exact z_iret dX12_lacks_42 rfl rfl hx1
  · refine z_iload_n dX12_lacks_17 1 rfl ?_
    refine z_aload_n dX12_lacks_18 0 rfl ?_
    refine z_iload_n dX12_lacks_19 2 rfl ?_
    refine z_callV1 dX12_lacks_20 rfl (ct_X12_lackOf n x2 m hx2) zc_X12 lm_0 k_1418 k_1420 kp_67 k_10 k_1421 zn_X12_lackOf ⟨rfl, rfl, Nat.le_of_ble_eq_true rfl, Nat.le_of_ble_eq_true rfl⟩ (Nat.le_of_ble_eq_true rfl) rfl (fun v3 m4 h5 ho6 => ?_)
    refine z_if_le dX12_lacks_23 h5 (tgt := 32) rfl (fun h7 => ?_) (fun h7 => ?_)
    · refine z_iconst dX12_lacks_32 ?_
      refine z_ior dX12_lacks_33 hx1 (by decide) (fun h8 => ?_)
      refine z_istore_n dX12_lacks_34 (lv' := [(1, .int (mI (zlor x1 0))), (0, .ref (ad 0)), (2, .int (mI x2))]) (by decide) rfl ?_
      refine z_iinc dX12_lacks_35 (lv' := [(2, .int (mI (x2 + 1))), (1, .int (mI (zlor x1 0))), (0, .ref (ad 0))]) 2 rfl (by decide) rfl (fun h9 => ?_)
      refine z_goto dX12_lacks_38 (tgt := 9) rfl ?_
      exact zG_lvk (hr9 (zlor x1 0) (x2 + 1) m4 h8 h9) [2, 1, 0] rfl
    · refine z_iconst dX12_lacks_26 ?_
      refine z_iload_n dX12_lacks_27 2 rfl ?_
      refine z_ishl dX12_lacks_28 (fun h10 => ?_)
      refine z_goto dX12_lacks_29 (tgt := 33) rfl ?_
      refine z_ior dX12_lacks_33 hx1 h10 (fun h11 => ?_)
      refine z_istore_n dX12_lacks_34 (lv' := [(1, .int (mI (zlor x1 (1 * 2 ^ (x2 : Int).toNat)))), (0, .ref (ad 0)), (2, .int (mI x2))]) (by decide) rfl ?_
      refine z_iinc dX12_lacks_35 (lv' := [(2, .int (mI (x2 + 1))), (1, .int (mI (zlor x1 (1 * 2 ^ (x2 : Int).toNat)))), (0, .ref (ad 0))]) 2 rfl (by decide) rfl (fun h12 => ?_)
      refine z_goto dX12_lacks_38 (tgt := 9) rfl ?_
      exact zG_lvk (hr9 (zlor x1 (1 * 2 ^ (x2 : Int).toNat)) (x2 + 1) m4 h11 h12) [2, 1, 0] rfl
theorem TL_X12_lacks_9 {ad sc sv : Nat → Nat} (n : Nat) : ∀ q : Nat, ∀ (x1 : Int) (x2 : Int) (m : ZMem), R32 x1 → R32 x2 → zG LM ad sc sv M_X12_lacks 9 [(0, .ref (ad 0)), (1, .int (mI x1)), (2, .int (mI x2))] [] m (L_X12_lacks_9 n q x1 x2 m) := by
  intro q
  induction q with
  | zero => intros; exact zG_none
  | succ q ih => exact T_X12_lacks_9 n (L_X12_lacks_9 n q) ih
set_option maxRecDepth 20000 in
theorem ct_X12_lacks {ad sc sv : Nat → Nat} (n : Nat) (m : ZMem) : zCT LM ad sc sv M_X12_lacks yX12_lacks [.ref (ad 0)] m (F_X12_lacks n m) := by
  refine zCT_of (lv := [(0, .ref (ad 0))]) (by decide) rfl (Nat.le_of_ble_eq_true rfl) rfl ?_
  unfold F_X12_lacks
  refine z_aload_n dX12_lacks_0 0 rfl ?_
  refine z_iconst dX12_lacks_1 ?_
  refine z_putI dX12_lacks_2 (k := 16) zc_X12 lm_0 rfl (by decide) rfl rfl (by decide) k_1054 ?_
  refine z_iconst dX12_lacks_5 ?_
  refine z_istore_n dX12_lacks_6 (lv' := [(1, .int (mI 0)), (0, .ref (ad 0))]) (by decide) rfl ?_
  refine z_iconst dX12_lacks_7 ?_
  refine z_istore_n dX12_lacks_8 (lv' := [(2, .int (mI 0)), (1, .int (mI 0)), (0, .ref (ad 0))]) (by decide) rfl ?_
  exact zG_lvk (TL_X12_lacks_9 n n 0 0 (wr m 0 16 0) (by decide) (by decide)) [2, 1, 0] rfl
set_option maxRecDepth 20000 in
theorem ct_X12_standIn {ad sc sv : Nat → Nat} (n : Nat) (a0 : Int) (a1 : Int) (m : ZMem) (ha0 : R32 a0) (ha1 : R32 a1) : zCT LM ad sc sv M_X12_standIn yX12_standIn [.ref (ad 0), .int (mI a0), .int (mI a1)] m (F_X12_standIn n a0 a1 m) := by
  refine zCT_of (lv := [(0, .ref (ad 0)), (1, .int (mI a0)), (2, .int (mI a1))]) (by decide) rfl (Nat.le_of_ble_eq_true rfl) rfl ?_
  unfold F_X12_standIn
  refine z_aload_n dX12_standIn_0 0 rfl ?_
  refine z_iconst dX12_standIn_1 ?_
  refine z_putI dX12_standIn_2 (k := 16) zc_X12 lm_0 rfl (by decide) rfl rfl (by decide) k_1054 ?_
  refine z_iload_n dX12_standIn_5 1 rfl ?_
  refine z_i2l dX12_standIn_6 ha0 (fun h1 => ?_)
  refine z_lconst dX12_standIn_7 (x := 0) (by decide +kernel) ?_
  refine z_aload_n dX12_standIn_8 0 rfl ?_
  refine z_getI dX12_standIn_9 (k := 4) zc_X12 lm_0 rfl (by decide) k_1042 (fun h2 => ?_)
  refine z_iconst dX12_standIn_12 ?_
  refine z_isub dX12_standIn_13 (fun h3 => ?_)
  refine z_i2l dX12_standIn_14 h3 (fun h4 => ?_)
  refine z_callS4 dX12_standIn_15 rfl (ct_X12_in n a0 0 (((wr m 0 16 0) 0 4) - 1) (wr m 0 16 0) h1 (by decide) h4) k_1220 k_1221 k_10 k_1222 zn_X12_in ⟨rfl, rfl, Nat.le_of_ble_eq_true rfl, Nat.le_of_ble_eq_true rfl⟩ (Nat.le_of_ble_eq_true rfl) rfl (fun v5 m6 h7 ho8 => ?_)
  refine z_if_eq dX12_standIn_18 (zb01 h7) (tgt := 33) rfl (fun h9 => ?_) (fun h9 => ?_)
  · refine z_aload_n dX12_standIn_33 0 rfl ?_
    refine z_iload_n dX12_standIn_34 1 rfl ?_
    refine z_i2l dX12_standIn_35 ha0 (fun h10 => ?_)
    refine z_lconst dX12_standIn_36 (x := 0) (by decide +kernel) ?_
    refine z_aload_n dX12_standIn_37 0 rfl ?_
    refine z_getI dX12_standIn_38 (k := 4) zc_X12 lm_0 rfl (by decide) k_1042 (fun h11 => ?_)
    refine z_iconst dX12_standIn_41 ?_
    refine z_isub dX12_standIn_42 (fun h12 => ?_)
    refine z_i2l dX12_standIn_43 h12 (fun h13 => ?_)
    refine z_callS4 dX12_standIn_44 rfl (ct_X12_in n a0 0 ((m6 0 4) - 1) m6 h10 (by decide) h13) k_1220 k_1221 k_10 k_1222 zn_X12_in ⟨rfl, rfl, Nat.le_of_ble_eq_true rfl, Nat.le_of_ble_eq_true rfl⟩ (Nat.le_of_ble_eq_true rfl) rfl (fun v14 m15 h16 ho17 => ?_)
    refine z_if_eq dX12_standIn_47 (zb01 h16) (tgt := 55) rfl (fun h18 => ?_) (fun h18 => ?_)
    · refine z_iconst dX12_standIn_55 ?_
      refine z_callV1 dX12_standIn_56 rfl (ct_X12_refuse n (-1) m15 (by decide)) zc_X12 lm_0 k_1194 k_1196 kp_37 k_10 k_1197 zn_X12_refuse ⟨rfl, rfl, Nat.le_of_ble_eq_true rfl, Nat.le_of_ble_eq_true rfl⟩ (Nat.le_of_ble_eq_true rfl) rfl (fun v19 m20 h21 ho22 => ?_)
      exact z_iret dX12_standIn_59 rfl rfl h21
    · refine z_bipush dX12_standIn_50 (x := (-2)) (by decide +kernel) ?_
      refine z_goto dX12_standIn_52 (tgt := 56) rfl ?_
      refine z_callV1 dX12_standIn_56 rfl (ct_X12_refuse n (-2) m15 (by decide)) zc_X12 lm_0 k_1194 k_1196 kp_37 k_10 k_1197 zn_X12_refuse ⟨rfl, rfl, Nat.le_of_ble_eq_true rfl, Nat.le_of_ble_eq_true rfl⟩ (Nat.le_of_ble_eq_true rfl) rfl (fun v23 m24 h25 ho26 => ?_)
      exact z_iret dX12_standIn_59 rfl rfl h25
  · refine z_iload_n dX12_standIn_21 2 rfl ?_
    refine z_i2l dX12_standIn_22 ha1 (fun h27 => ?_)
    refine z_lconst dX12_standIn_23 (x := 0) (by decide +kernel) ?_
    refine z_ldc2 dX12_standIn_24 (x := 4) k_1426 ?_
    refine z_callS4 dX12_standIn_27 rfl (ct_X12_in n a1 0 4 m6 h27 (by decide) (by decide)) k_1220 k_1221 k_10 k_1222 zn_X12_in ⟨rfl, rfl, Nat.le_of_ble_eq_true rfl, Nat.le_of_ble_eq_true rfl⟩ (Nat.le_of_ble_eq_true rfl) rfl (fun v28 m29 h30 ho31 => ?_)
    refine z_if_ne dX12_standIn_30 (zb01 h30) (tgt := 60) rfl (fun h32 => ?_) (fun h32 => ?_)
    · refine z_aload_n dX12_standIn_33 0 rfl ?_
      refine z_iload_n dX12_standIn_34 1 rfl ?_
      refine z_i2l dX12_standIn_35 ha0 (fun h33 => ?_)
      refine z_lconst dX12_standIn_36 (x := 0) (by decide +kernel) ?_
      refine z_aload_n dX12_standIn_37 0 rfl ?_
      refine z_getI dX12_standIn_38 (k := 4) zc_X12 lm_0 rfl (by decide) k_1042 (fun h34 => ?_)
      refine z_iconst dX12_standIn_41 ?_
      refine z_isub dX12_standIn_42 (fun h35 => ?_)
      refine z_i2l dX12_standIn_43 h35 (fun h36 => ?_)
      refine z_callS4 dX12_standIn_44 rfl (ct_X12_in n a0 0 ((m29 0 4) - 1) m29 h33 (by decide) h36) k_1220 k_1221 k_10 k_1222 zn_X12_in ⟨rfl, rfl, Nat.le_of_ble_eq_true rfl, Nat.le_of_ble_eq_true rfl⟩ (Nat.le_of_ble_eq_true rfl) rfl (fun v37 m38 h39 ho40 => ?_)
      refine z_if_eq dX12_standIn_47 (zb01 h39) (tgt := 55) rfl (fun h41 => ?_) (fun h41 => ?_)
      · refine z_iconst dX12_standIn_55 ?_
        refine z_callV1 dX12_standIn_56 rfl (ct_X12_refuse n (-1) m38 (by decide)) zc_X12 lm_0 k_1194 k_1196 kp_37 k_10 k_1197 zn_X12_refuse ⟨rfl, rfl, Nat.le_of_ble_eq_true rfl, Nat.le_of_ble_eq_true rfl⟩ (Nat.le_of_ble_eq_true rfl) rfl (fun v42 m43 h44 ho45 => ?_)
        exact z_iret dX12_standIn_59 rfl rfl h44
      · refine z_bipush dX12_standIn_50 (x := (-2)) (by decide +kernel) ?_
        refine z_goto dX12_standIn_52 (tgt := 56) rfl ?_
        refine z_callV1 dX12_standIn_56 rfl (ct_X12_refuse n (-2) m38 (by decide)) zc_X12 lm_0 k_1194 k_1196 kp_37 k_10 k_1197 zn_X12_refuse ⟨rfl, rfl, Nat.le_of_ble_eq_true rfl, Nat.le_of_ble_eq_true rfl⟩ (Nat.le_of_ble_eq_true rfl) rfl (fun v46 m47 h48 ho49 => ?_)
        exact z_iret dX12_standIn_59 rfl rfl h48
    · refine z_aload_n dX12_standIn_60 0 rfl ?_
      refine z_getR dX12_standIn_61 (k := 14) (j := 8) zc_X12 lm_0 rfl (by decide) k_1052 ?_
      refine z_iconst dX12_standIn_64 ?_
      refine z_iload_n dX12_standIn_65 1 rfl ?_
      refine z_imul dX12_standIn_66 (fun h50 => ?_)
      refine z_iload_n dX12_standIn_67 2 rfl ?_
      refine z_iadd dX12_standIn_68 (fun h51 => ?_)
      refine z_iaload dX12_standIn_69 h51 (fun h52 => ?_)
      exact z_iret dX12_standIn_70 rfl rfl h52
set_option maxRecDepth 20000 in
theorem ct_X12_timesOf {ad sc sv : Nat → Nat} (n : Nat) (a0 : Int) (m : ZMem) (ha0 : R32 a0) : zCT LM ad sc sv M_X12_timesOf yX12_timesOf [.ref (ad 0), .int (mI a0)] m (F_X12_timesOf n a0 m) := by
  refine zCT_of (lv := [(0, .ref (ad 0)), (1, .int (mI a0))]) (by decide) rfl (Nat.le_of_ble_eq_true rfl) rfl ?_
  unfold F_X12_timesOf
  refine z_aload_n dX12_timesOf_0 0 rfl ?_
  refine z_getR dX12_timesOf_1 (k := 14) (j := 8) zc_X12 lm_0 rfl (by decide) k_1052 ?_
  refine z_iconst dX12_timesOf_4 ?_
  refine z_iload_n dX12_timesOf_5 1 rfl ?_
  refine z_imul dX12_timesOf_6 (fun h1 => ?_)
  refine z_iconst dX12_timesOf_7 ?_
  refine z_iadd dX12_timesOf_8 (fun h2 => ?_)
  refine z_iaload dX12_timesOf_9 h2 (fun h3 => ?_)
  refine z_istore_n dX12_timesOf_10 (lv' := [(2, .int (mI (m 8 (((5 * a0) + 1) : Int).toNat))), (0, .ref (ad 0)), (1, .int (mI a0))]) (by decide) rfl ?_
  refine z_aload_n dX12_timesOf_11 1 rfl ?_
  refine z_getR dX12_timesOf_12 (k := 11) (j := 5) zc_X12 lm_0 rfl (by decide) k_1049 ?_
  refine z_iload_n dX12_timesOf_15 0 rfl ?_
  refine z_iaload dX12_timesOf_16 h3 (fun h4 => ?_)
  refine z_aload_n dX12_timesOf_17 1 rfl ?_
  refine z_iload_n dX12_timesOf_18 0 rfl ?_
  refine z_aload_n dX12_timesOf_19 1 rfl ?_
  refine z_getI dX12_timesOf_20 (k := 1) zc_X12 lm_0 rfl (by decide) k_1039 (fun h5 => ?_)
  refine z_callV1 dX12_timesOf_23 rfl (ct_X12_takenFor n (m 8 (((5 * a0) + 1) : Int).toNat) (m 0 1) m h3 h5) zc_X12 lm_0 k_1290 k_1292 kp_55 k_10 k_1293 zn_X12_takenFor ⟨rfl, rfl, Nat.le_of_ble_eq_true rfl, Nat.le_of_ble_eq_true rfl⟩ (Nat.le_of_ble_eq_true rfl) rfl (fun v6 m7 h8 ho9 => ?_)
  refine z_bipush dX12_timesOf_26 (x := 12) (by decide +kernel) ?_
  refine z_callS1 dX12_timesOf_28 rfl (ct_X12_up n v6 12 m7 h8 (by decide)) k_1304 k_1305 k_10 k_1306 zn_X12_up ⟨rfl, rfl, Nat.le_of_ble_eq_true rfl, Nat.le_of_ble_eq_true rfl⟩ (Nat.le_of_ble_eq_true rfl) rfl (fun v10 m11 h12 ho13 => ?_)
  refine z_isub dX12_timesOf_31 (fun h14 => ?_)
  refine z_istore_n dX12_timesOf_32 (lv' := [(3, .int (mI ((m 5 ((m 8 (((5 * a0) + 1) : Int).toNat) : Int).toNat) - v10))), (2, .int (mI (m 8 (((5 * a0) + 1) : Int).toNat))), (0, .ref (ad 0)), (1, .int (mI a0))]) (by decide) rfl ?_
  refine z_iload_n dX12_timesOf_33 0 rfl ?_
  refine z_if_ge dX12_timesOf_34 h14 (tgt := 41) rfl (fun h15 => ?_) (fun h15 => ?_)
  · refine z_iload_n dX12_timesOf_41 0 rfl ?_
    refine z_aload_n dX12_timesOf_42 2 rfl ?_
    refine z_getR dX12_timesOf_43 (k := 14) (j := 8) zc_X12 lm_0 rfl (by decide) k_1052 ?_
    refine z_iconst dX12_timesOf_46 ?_
    refine z_iload_n dX12_timesOf_47 3 rfl ?_
    refine z_imul dX12_timesOf_48 (fun h16 => ?_)
    refine z_iconst dX12_timesOf_49 ?_
    refine z_iadd dX12_timesOf_50 (fun h17 => ?_)
    refine z_iaload dX12_timesOf_51 h17 (fun h18 => ?_)
    refine z_idiv dX12_timesOf_52 h14 h18 (fun h19 => ?_)
    exact z_iret dX12_timesOf_53 rfl rfl h19
  · refine z_iconst dX12_timesOf_37 ?_
    refine z_goto dX12_timesOf_38 (tgt := 53) rfl ?_
    exact z_iret dX12_timesOf_53 rfl rfl (by decide)
set_option maxRecDepth 20000 in
theorem T_X12_useOnce_23 {ad sc sv : Nat → Nat} (n : Nat) (r3 : Int → Int → Int → ZMem → ZR) (hr3 : ∀ (x1 : Int) (x2 : Int) (x3 : Int) (m : ZMem), R32 x1 → R32 x2 → R32 x3 → zG LM ad sc sv M_X12_useOnce 3 [(0, .ref (ad 0)), (1, .int (mI x1)), (2, .int (mI x2)), (3, .int (mI x3))] [] m (r3 x1 x2 x3 m)) : ∀ (x1 : Int) (x2 : Int) (x3 : Int) (s0 : Int) (m : ZMem), R32 x1 → R32 x2 → R32 x3 → R32 s0 → zG LM ad sc sv M_X12_useOnce 23 [(0, .ref (ad 0)), (1, .int (mI x1)), (2, .int (mI x2)), (3, .int (mI x3))] [.int (mI s0), .ref (ad 18)] m (B_X12_useOnce_23 n r3 x1 x2 x3 s0 m) := by
  intro x1 x2 x3 s0 m hx1 hx2 hx3 hs0
  unfold B_X12_useOnce_23
  refine z_iaload dX12_useOnce_23 hs0 (fun h4 => ?_)
  refine z_istore dX12_useOnce_24 (lv' := [(4, .int (mI (m 18 (s0 : Int).toNat))), (0, .ref (ad 0)), (1, .int (mI x1)), (2, .int (mI x2)), (3, .int (mI x3))]) (by decide) rfl ?_
  refine z_aload_n dX12_useOnce_26 1 rfl ?_
  refine z_getR dX12_useOnce_27 (k := 34) (j := 18) zc_X12 lm_0 rfl (by decide) k_1072 ?_
  refine z_iload_n dX12_useOnce_30 4 rfl ?_
  refine z_iload dX12_useOnce_31 0 rfl ?_
  refine z_iload_n dX12_useOnce_33 3 rfl ?_
  refine z_iadd dX12_useOnce_34 (fun h5 => ?_)
  refine z_aload_n dX12_useOnce_35 1 rfl ?_
  refine z_getR dX12_useOnce_36 (k := 34) (j := 18) zc_X12 lm_0 rfl (by decide) k_1072 ?_
  refine z_iload_n dX12_useOnce_39 4 rfl ?_
  refine z_iaload dX12_useOnce_40 hx3 (fun h6 => ?_)
  refine z_icmp_ge dX12_useOnce_41 h5 h6 (tgt := 51) rfl (fun h7 => ?_) (fun h7 => ?_)
  · refine z_aload_n dX12_useOnce_51 1 rfl ?_
    refine z_getR dX12_useOnce_52 (k := 34) (j := 18) zc_X12 lm_0 rfl (by decide) k_1072 ?_
    refine z_iload_n dX12_useOnce_55 4 rfl ?_
    refine z_iaload dX12_useOnce_56 hx3 (fun h8 => ?_)
    refine z_iastore dX12_useOnce_57 hx3 h8 ?_
    refine z_iinc dX12_useOnce_58 (lv' := [(3, .int (mI (x3 + (-1)))), (4, .int (mI (m 18 (s0 : Int).toNat))), (0, .ref (ad 0)), (1, .int (mI x1)), (2, .int (mI x2))]) 4 rfl (by decide) rfl (fun h9 => ?_)
    refine z_goto dX12_useOnce_61 (tgt := 3) rfl ?_
    exact zG_lvk (hr3 x1 x2 (x3 + (-1)) (wr m 18 (x3 : Int).toNat (m 18 (x3 : Int).toNat)) hx1 hx2 h9) [2, 3, 4, 0] rfl
  · refine z_iload dX12_useOnce_44 0 rfl ?_
    refine z_iload_n dX12_useOnce_46 3 rfl ?_
    refine z_iadd dX12_useOnce_47 (fun h10 => ?_)
    refine z_goto dX12_useOnce_48 (tgt := 57) rfl ?_
    refine z_iastore dX12_useOnce_57 hx3 h10 ?_
    refine z_iinc dX12_useOnce_58 (lv' := [(3, .int (mI (x3 + (-1)))), (4, .int (mI (m 18 (s0 : Int).toNat))), (0, .ref (ad 0)), (1, .int (mI x1)), (2, .int (mI x2))]) 4 rfl (by decide) rfl (fun h11 => ?_)
    refine z_goto dX12_useOnce_61 (tgt := 3) rfl ?_
    exact zG_lvk (hr3 x1 x2 (x3 + (-1)) (wr m 18 (x3 : Int).toNat ((m 18 (s0 : Int).toNat) + x2)) hx1 hx2 h11) [2, 3, 4, 0] rfl
set_option maxRecDepth 20000 in
theorem T_X12_useOnce_3 {ad sc sv : Nat → Nat} (n : Nat) (r3 : Int → Int → Int → ZMem → ZR) (hr3 : ∀ (x1 : Int) (x2 : Int) (x3 : Int) (m : ZMem), R32 x1 → R32 x2 → R32 x3 → zG LM ad sc sv M_X12_useOnce 3 [(0, .ref (ad 0)), (1, .int (mI x1)), (2, .int (mI x2)), (3, .int (mI x3))] [] m (r3 x1 x2 x3 m)) : ∀ (x1 : Int) (x2 : Int) (x3 : Int) (m : ZMem), R32 x1 → R32 x2 → R32 x3 → zG LM ad sc sv M_X12_useOnce 3 [(0, .ref (ad 0)), (1, .int (mI x1)), (2, .int (mI x2)), (3, .int (mI x3))] [] m (B_X12_useOnce_3 n r3 x1 x2 x3 m) := by
  intro x1 x2 x3 m hx1 hx2 hx3
  unfold B_X12_useOnce_3
  refine z_iload_n dX12_useOnce_3 3 rfl ?_
  refine z_if_le dX12_useOnce_4 hx3 (tgt := 64) rfl (fun h1 => ?_) (fun h1 => ?_)
  · exact z_vret dX12_useOnce_64 rfl rfl
  · refine z_aload_n dX12_useOnce_7 0 rfl ?_
    refine z_getR dX12_useOnce_8 (k := 34) (j := 18) zc_X12 lm_0 rfl (by decide) k_1072 ?_
    refine z_iload_n dX12_useOnce_11 3 rfl ?_
    refine z_iload_n dX12_useOnce_12 1 rfl ?_
    refine z_icmp_le dX12_useOnce_13 hx3 hx1 (tgt := 22) rfl (fun h2 => ?_) (fun h2 => ?_)
    · refine z_iconst dX12_useOnce_22 ?_
      exact zG_lvk (T_X12_useOnce_23 n r3 hr3 x1 x2 x3 0 m hx1 hx2 hx3 (by decide)) [0, 1, 2, 3] rfl
    · refine z_iload_n dX12_useOnce_16 3 rfl ?_
      refine z_iload_n dX12_useOnce_17 1 rfl ?_
      refine z_isub dX12_useOnce_18 (fun h3 => ?_)
      refine z_goto dX12_useOnce_19 (tgt := 23) rfl ?_
      exact zG_lvk (T_X12_useOnce_23 n r3 hr3 x1 x2 x3 (x3 - x1) m hx1 hx2 hx3 h3) [0, 1, 2, 3] rfl
theorem TL_X12_useOnce_3 {ad sc sv : Nat → Nat} (n : Nat) : ∀ q : Nat, ∀ (x1 : Int) (x2 : Int) (x3 : Int) (m : ZMem), R32 x1 → R32 x2 → R32 x3 → zG LM ad sc sv M_X12_useOnce 3 [(0, .ref (ad 0)), (1, .int (mI x1)), (2, .int (mI x2)), (3, .int (mI x3))] [] m (L_X12_useOnce_3 n q x1 x2 x3 m) := by
  intro q
  induction q with
  | zero => intros; exact zG_none
  | succ q ih => exact T_X12_useOnce_3 n (L_X12_useOnce_3 n q) ih
set_option maxRecDepth 20000 in
theorem ct_X12_useOnce {ad sc sv : Nat → Nat} (n : Nat) (a0 : Int) (a1 : Int) (m : ZMem) (ha0 : R32 a0) (ha1 : R32 a1) : zCT LM ad sc sv M_X12_useOnce yX12_useOnce [.ref (ad 0), .int (mI a0), .int (mI a1)] m (F_X12_useOnce n a0 a1 m) := by
  refine zCT_of (lv := [(0, .ref (ad 0)), (1, .int (mI a0)), (2, .int (mI a1))]) (by decide) rfl (Nat.le_of_ble_eq_true rfl) rfl ?_
  unfold F_X12_useOnce
  refine z_bipush dX12_useOnce_0 (x := 99) (by decide +kernel) ?_
  refine z_istore_n dX12_useOnce_2 (lv' := [(3, .int (mI 99)), (0, .ref (ad 0)), (1, .int (mI a0)), (2, .int (mI a1))]) (by decide) rfl ?_
  exact zG_lvk (TL_X12_useOnce_3 n n a0 a1 99 m ha0 ha1 (by decide)) [1, 2, 3, 0] rfl
set_option maxRecDepth 20000 in
theorem T_X12_stead_101 {ad sc sv : Nat → Nat} (n : Nat) (r67 : Int → Int → Int → ZMem → ZR) (r101 : Int → Int → Int → Int → Int → ZMem → ZR) (hr67 : ∀ (x1 : Int) (x2 : Int) (x3 : Int) (m : ZMem), R32 x1 → R32 x2 → R32 x3 → zG LM ad sc sv M_X12_stead 67 [(0, .ref (ad 0)), (1, .int (mI x1)), (2, .int (mI x2)), (3, .int (mI x3))] [] m (r67 x1 x2 x3 m)) (hr101 : ∀ (x1 : Int) (x2 : Int) (x3 : Int) (x4 : Int) (x5 : Int) (m : ZMem), R32 x1 → R32 x2 → R32 x3 → R32 x4 → R32 x5 → zG LM ad sc sv M_X12_stead 101 [(0, .ref (ad 0)), (1, .int (mI x1)), (2, .int (mI x2)), (3, .int (mI x3)), (4, .int (mI x4)), (5, .int (mI x5))] [] m (r101 x1 x2 x3 x4 x5 m)) : ∀ (x1 : Int) (x2 : Int) (x3 : Int) (x4 : Int) (x5 : Int) (m : ZMem), R32 x1 → R32 x2 → R32 x3 → R32 x4 → R32 x5 → zG LM ad sc sv M_X12_stead 101 [(0, .ref (ad 0)), (1, .int (mI x1)), (2, .int (mI x2)), (3, .int (mI x3)), (4, .int (mI x4)), (5, .int (mI x5))] [] m (B_X12_stead_101 n r67 r101 x1 x2 x3 x4 x5 m) := by
  intro x1 x2 x3 x4 x5 m hx1 hx2 hx3 hx4 hx5
  unfold B_X12_stead_101
  refine z_iload dX12_stead_101 5 rfl ?_
  refine z_iload dX12_stead_103 4 rfl ?_
  refine z_icmp_ge dX12_stead_105 hx5 hx4 (tgt := 138) rfl (fun h31 => ?_) (fun h31 => ?_)
  · refine z_iinc dX12_stead_138 (lv' := [(3, .int (mI (x3 + 1))), (0, .ref (ad 0)), (1, .int (mI x1)), (2, .int (mI x2)), (4, .int (mI x4)), (5, .int (mI x5))]) 3 rfl (by decide) rfl (fun h32 => ?_)
    refine z_goto dX12_stead_141 (tgt := 67) rfl ?_
    exact zG_lvk (hr67 x1 x2 (x3 + 1) m hx1 hx2 h32) [1, 2, 3, 0] rfl
  · refine z_aload_n dX12_stead_108 0 rfl ?_
    refine z_aload_n dX12_stead_109 0 rfl ?_
    refine z_getR dX12_stead_110 (k := 14) (j := 8) zc_X12 lm_0 rfl (by decide) k_1052 ?_
    refine z_iconst dX12_stead_113 ?_
    refine z_iload_n dX12_stead_114 3 rfl ?_
    refine z_imul dX12_stead_115 (fun h33 => ?_)
    refine z_iconst dX12_stead_116 ?_
    refine z_iadd dX12_stead_117 (fun h34 => ?_)
    refine z_iaload dX12_stead_118 h34 (fun h35 => ?_)
    refine z_aload_n dX12_stead_119 0 rfl ?_
    refine z_getR dX12_stead_120 (k := 14) (j := 8) zc_X12 lm_0 rfl (by decide) k_1052 ?_
    refine z_iconst dX12_stead_123 ?_
    refine z_iload_n dX12_stead_124 3 rfl ?_
    refine z_imul dX12_stead_125 (fun h36 => ?_)
    refine z_iconst dX12_stead_126 ?_
    refine z_iadd dX12_stead_127 (fun h37 => ?_)
    refine z_iaload dX12_stead_128 h37 (fun h38 => ?_)
    refine z_callV0 dX12_stead_129 rfl (ct_X12_useOnce n (m 8 (((5 * x3) + 3) : Int).toNat) (m 8 (((5 * x3) + 4) : Int).toNat) m h35 h38) zc_X12 lm_0 k_1436 k_1438 kp_69 k_10 k_1439 zn_X12_useOnce ⟨rfl, rfl, Nat.le_of_ble_eq_true rfl, Nat.le_of_ble_eq_true rfl⟩ (Nat.le_of_ble_eq_true rfl) rfl (fun v39 m40 ho42 => ?_)
    refine z_iinc dX12_stead_132 (lv' := [(5, .int (mI (x5 + 1))), (0, .ref (ad 0)), (1, .int (mI x1)), (2, .int (mI x2)), (3, .int (mI x3)), (4, .int (mI x4))]) 5 rfl (by decide) rfl (fun h43 => ?_)
    refine z_goto dX12_stead_135 (tgt := 101) rfl ?_
    exact zG_lvk (hr101 x1 x2 x3 x4 (x5 + 1) m40 hx1 hx2 hx3 hx4 h43) [1, 2, 3, 4, 5, 0] rfl
theorem TL_X12_stead_101 {ad sc sv : Nat → Nat} (n : Nat) (r67 : Int → Int → Int → ZMem → ZR) (hr67 : ∀ (x1 : Int) (x2 : Int) (x3 : Int) (m : ZMem), R32 x1 → R32 x2 → R32 x3 → zG LM ad sc sv M_X12_stead 67 [(0, .ref (ad 0)), (1, .int (mI x1)), (2, .int (mI x2)), (3, .int (mI x3))] [] m (r67 x1 x2 x3 m)) : ∀ q : Nat, ∀ (x1 : Int) (x2 : Int) (x3 : Int) (x4 : Int) (x5 : Int) (m : ZMem), R32 x1 → R32 x2 → R32 x3 → R32 x4 → R32 x5 → zG LM ad sc sv M_X12_stead 101 [(0, .ref (ad 0)), (1, .int (mI x1)), (2, .int (mI x2)), (3, .int (mI x3)), (4, .int (mI x4)), (5, .int (mI x5))] [] m (L_X12_stead_101 n r67 q x1 x2 x3 x4 x5 m) := by
  intro q
  induction q with
  | zero => intros; exact zG_none
  | succ q ih => exact T_X12_stead_101 n r67 (L_X12_stead_101 n r67 q) hr67 ih
set_option maxRecDepth 20000 in
theorem T_X12_stead_67 {ad sc sv : Nat → Nat} (n : Nat) (r67 : Int → Int → Int → ZMem → ZR) (hr67 : ∀ (x1 : Int) (x2 : Int) (x3 : Int) (m : ZMem), R32 x1 → R32 x2 → R32 x3 → zG LM ad sc sv M_X12_stead 67 [(0, .ref (ad 0)), (1, .int (mI x1)), (2, .int (mI x2)), (3, .int (mI x3))] [] m (r67 x1 x2 x3 m)) : ∀ (x1 : Int) (x2 : Int) (x3 : Int) (m : ZMem), R32 x1 → R32 x2 → R32 x3 → zG LM ad sc sv M_X12_stead 67 [(0, .ref (ad 0)), (1, .int (mI x1)), (2, .int (mI x2)), (3, .int (mI x3))] [] m (B_X12_stead_67 n r67 x1 x2 x3 m) := by
  intro x1 x2 x3 m hx1 hx2 hx3
  unfold B_X12_stead_67
  refine z_iload_n dX12_stead_67 3 rfl ?_
  refine z_aload_n dX12_stead_68 0 rfl ?_
  refine z_getI dX12_stead_69 (k := 4) zc_X12 lm_0 rfl (by decide) k_1042 (fun h19 => ?_)
  refine z_icmp_ge dX12_stead_72 hx3 h19 (tgt := 144) rfl (fun h20 => ?_) (fun h20 => ?_)
  · refine z_aload_n dX12_stead_144 0 rfl ?_
    refine z_getR dX12_stead_145 (k := 34) (j := 18) zc_X12 lm_0 rfl (by decide) k_1072 ?_
    refine z_iload_n dX12_stead_148 2 rfl ?_
    refine z_iaload dX12_stead_149 hx2 (fun h21 => ?_)
    refine z_ldcw dX12_stead_150 (x := 99999) k_1431 ?_
    refine z_icmp_ge dX12_stead_153 h21 (by decide) (tgt := 165) rfl (fun h22 => ?_) (fun h22 => ?_)
    · refine z_bipush dX12_stead_165 (x := (-9)) (by decide +kernel) ?_
      exact z_iret dX12_stead_167 rfl rfl (by decide)
    · refine z_aload_n dX12_stead_156 0 rfl ?_
      refine z_getR dX12_stead_157 (k := 34) (j := 18) zc_X12 lm_0 rfl (by decide) k_1072 ?_
      refine z_iload_n dX12_stead_160 2 rfl ?_
      refine z_iaload dX12_stead_161 hx2 (fun h23 => ?_)
      refine z_goto dX12_stead_162 (tgt := 167) rfl ?_
      exact z_iret dX12_stead_167 rfl rfl h23
  · refine z_aload_n dX12_stead_75 0 rfl ?_
    refine z_getR dX12_stead_76 (k := 14) (j := 8) zc_X12 lm_0 rfl (by decide) k_1052 ?_
    refine z_iconst dX12_stead_79 ?_
    refine z_iload_n dX12_stead_80 3 rfl ?_
    refine z_imul dX12_stead_81 (fun h24 => ?_)
    refine z_iaload dX12_stead_82 h24 (fun h25 => ?_)
    refine z_iload_n dX12_stead_83 1 rfl ?_
    refine z_icmp_ne dX12_stead_84 h25 hx1 (tgt := 95) rfl (fun h26 => ?_) (fun h26 => ?_)
    · refine z_aload_n dX12_stead_87 0 rfl ?_
      refine z_iload_n dX12_stead_88 3 rfl ?_
      refine z_callV1 dX12_stead_89 rfl (ct_X12_timesOf n x3 m hx3) zc_X12 lm_0 k_1432 k_1434 kp_68 k_10 k_1435 zn_X12_timesOf ⟨rfl, rfl, Nat.le_of_ble_eq_true rfl, Nat.le_of_ble_eq_true rfl⟩ (Nat.le_of_ble_eq_true rfl) rfl (fun v27 m28 h29 ho30 => ?_)
      refine z_goto dX12_stead_92 (tgt := 96) rfl ?_
      refine z_istore dX12_stead_96 (lv' := [(4, .int (mI v27)), (0, .ref (ad 0)), (1, .int (mI x1)), (2, .int (mI x2)), (3, .int (mI x3))]) (by decide) rfl ?_
      refine z_iconst dX12_stead_98 ?_
      refine z_istore dX12_stead_99 (lv' := [(5, .int (mI 0)), (4, .int (mI v27)), (0, .ref (ad 0)), (1, .int (mI x1)), (2, .int (mI x2)), (3, .int (mI x3))]) (by decide) rfl ?_
      exact zG_lvk (TL_X12_stead_101 n r67 hr67 n x1 x2 x3 v27 0 m28 hx1 hx2 hx3 h29 (by decide)) [2, 3, 4, 5, 1, 0] rfl
    · refine z_iconst dX12_stead_95 ?_
      refine z_istore dX12_stead_96 (lv' := [(4, .int (mI 0)), (0, .ref (ad 0)), (1, .int (mI x1)), (2, .int (mI x2)), (3, .int (mI x3))]) (by decide) rfl ?_
      refine z_iconst dX12_stead_98 ?_
      refine z_istore dX12_stead_99 (lv' := [(5, .int (mI 0)), (4, .int (mI 0)), (0, .ref (ad 0)), (1, .int (mI x1)), (2, .int (mI x2)), (3, .int (mI x3))]) (by decide) rfl ?_
      exact zG_lvk (TL_X12_stead_101 n r67 hr67 n x1 x2 x3 0 0 m hx1 hx2 hx3 (by decide) (by decide)) [2, 3, 4, 5, 1, 0] rfl
theorem TL_X12_stead_67 {ad sc sv : Nat → Nat} (n : Nat) : ∀ q : Nat, ∀ (x1 : Int) (x2 : Int) (x3 : Int) (m : ZMem), R32 x1 → R32 x2 → R32 x3 → zG LM ad sc sv M_X12_stead 67 [(0, .ref (ad 0)), (1, .int (mI x1)), (2, .int (mI x2)), (3, .int (mI x3))] [] m (L_X12_stead_67 n q x1 x2 x3 m) := by
  intro q
  induction q with
  | zero => intros; exact zG_none
  | succ q ih => exact T_X12_stead_67 n (L_X12_stead_67 n q) ih
set_option maxRecDepth 20000 in
theorem T_X12_stead_36 {ad sc sv : Nat → Nat} (n : Nat) (r36 : Int → Int → Int → ZMem → ZR) (hr36 : ∀ (x1 : Int) (x2 : Int) (x3 : Int) (m : ZMem), R32 x1 → R32 x2 → R32 x3 → zG LM ad sc sv M_X12_stead 36 [(0, .ref (ad 0)), (1, .int (mI x1)), (2, .int (mI x2)), (3, .int (mI x3))] [] m (r36 x1 x2 x3 m)) : ∀ (x1 : Int) (x2 : Int) (x3 : Int) (m : ZMem), R32 x1 → R32 x2 → R32 x3 → zG LM ad sc sv M_X12_stead 36 [(0, .ref (ad 0)), (1, .int (mI x1)), (2, .int (mI x2)), (3, .int (mI x3))] [] m (B_X12_stead_36 n r36 x1 x2 x3 m) := by
  intro x1 x2 x3 m hx1 hx2 hx3
  unfold B_X12_stead_36
  refine z_iload_n dX12_stead_36 3 rfl ?_
  refine z_bipush dX12_stead_37 (x := 100) (by decide +kernel) ?_
  refine z_icmp_ge dX12_stead_39 hx3 (by decide) (tgt := 65) rfl (fun h15 => ?_) (fun h15 => ?_)
  · refine z_iconst dX12_stead_65 ?_
    refine z_istore_n dX12_stead_66 (lv' := [(3, .int (mI 0)), (0, .ref (ad 0)), (1, .int (mI x1)), (2, .int (mI x2))]) (by decide) rfl ?_
    exact zG_lvk (TL_X12_stead_67 n n x1 x2 0 m hx1 hx2 (by decide)) [1, 2, 3, 0] rfl
  · refine z_aload_n dX12_stead_42 0 rfl ?_
    refine z_getR dX12_stead_43 (k := 34) (j := 18) zc_X12 lm_0 rfl (by decide) k_1072 ?_
    refine z_iload_n dX12_stead_46 3 rfl ?_
    refine z_iload_n dX12_stead_47 3 rfl ?_
    refine z_if_ne dX12_stead_48 hx3 (tgt := 55) rfl (fun h16 => ?_) (fun h16 => ?_)
    · refine z_iconst dX12_stead_51 ?_
      refine z_goto dX12_stead_52 (tgt := 58) rfl ?_
      refine z_iastore dX12_stead_58 hx3 (by decide) ?_
      refine z_iinc dX12_stead_59 (lv' := [(3, .int (mI (x3 + 1))), (0, .ref (ad 0)), (1, .int (mI x1)), (2, .int (mI x2))]) 3 rfl (by decide) rfl (fun h17 => ?_)
      refine z_goto dX12_stead_62 (tgt := 36) rfl ?_
      exact zG_lvk (hr36 x1 x2 (x3 + 1) (wr m 18 (x3 : Int).toNat 0) hx1 hx2 h17) [1, 2, 3, 0] rfl
    · refine z_ldcw dX12_stead_55 (x := 99999) k_1431 ?_
      refine z_iastore dX12_stead_58 hx3 (by decide) ?_
      refine z_iinc dX12_stead_59 (lv' := [(3, .int (mI (x3 + 1))), (0, .ref (ad 0)), (1, .int (mI x1)), (2, .int (mI x2))]) 3 rfl (by decide) rfl (fun h18 => ?_)
      refine z_goto dX12_stead_62 (tgt := 36) rfl ?_
      exact zG_lvk (hr36 x1 x2 (x3 + 1) (wr m 18 (x3 : Int).toNat 99999) hx1 hx2 h18) [1, 2, 3, 0] rfl
theorem TL_X12_stead_36 {ad sc sv : Nat → Nat} (n : Nat) : ∀ q : Nat, ∀ (x1 : Int) (x2 : Int) (x3 : Int) (m : ZMem), R32 x1 → R32 x2 → R32 x3 → zG LM ad sc sv M_X12_stead 36 [(0, .ref (ad 0)), (1, .int (mI x1)), (2, .int (mI x2)), (3, .int (mI x3))] [] m (L_X12_stead_36 n q x1 x2 x3 m) := by
  intro q
  induction q with
  | zero => intros; exact zG_none
  | succ q ih => exact T_X12_stead_36 n (L_X12_stead_36 n q) ih
set_option maxRecDepth 20000 in
theorem ct_X12_stead {ad sc sv : Nat → Nat} (n : Nat) (a0 : Int) (m : ZMem) (ha0 : R32 a0) : zCT LM ad sc sv M_X12_stead yX12_stead [.ref (ad 0), .int (mI a0)] m (F_X12_stead n a0 m) := by
  refine zCT_of (lv := [(0, .ref (ad 0)), (1, .int (mI a0))]) (by decide) rfl (Nat.le_of_ble_eq_true rfl) rfl ?_
  unfold F_X12_stead
  refine z_aload_n dX12_stead_0 0 rfl ?_
  refine z_iconst dX12_stead_1 ?_
  refine z_putI dX12_stead_2 (k := 16) zc_X12 lm_0 rfl (by decide) rfl rfl (by decide) k_1054 ?_
  refine z_aload_n dX12_stead_5 0 rfl ?_
  refine z_iload_n dX12_stead_6 1 rfl ?_
  refine z_callV4 dX12_stead_7 rfl (ct_X12_isPart n a0 (wr m 0 16 0) ha0) zc_X12 lm_0 k_1256 k_1258 kp_50 k_10 k_1259 zn_X12_isPart ⟨rfl, rfl, Nat.le_of_ble_eq_true rfl, Nat.le_of_ble_eq_true rfl⟩ (Nat.le_of_ble_eq_true rfl) rfl (fun v1 m2 h3 ho4 => ?_)
  refine z_if_ne dX12_stead_10 (zb01 h3) (tgt := 19) rfl (fun h5 => ?_) (fun h5 => ?_)
  · refine z_aload_n dX12_stead_13 0 rfl ?_
    refine z_iconst dX12_stead_14 ?_
    refine z_callV1 dX12_stead_15 rfl (ct_X12_refuse n (-1) m2 (by decide)) zc_X12 lm_0 k_1194 k_1196 kp_37 k_10 k_1197 zn_X12_refuse ⟨rfl, rfl, Nat.le_of_ble_eq_true rfl, Nat.le_of_ble_eq_true rfl⟩ (Nat.le_of_ble_eq_true rfl) rfl (fun v6 m7 h8 ho9 => ?_)
    exact z_iret dX12_stead_18 rfl rfl h8
  · refine z_aload_n dX12_stead_19 0 rfl ?_
    refine z_iload_n dX12_stead_20 1 rfl ?_
    refine z_callV1 dX12_stead_21 rfl (ct_X12_lackOf n a0 m2 ha0) zc_X12 lm_0 k_1418 k_1420 kp_67 k_10 k_1421 zn_X12_lackOf ⟨rfl, rfl, Nat.le_of_ble_eq_true rfl, Nat.le_of_ble_eq_true rfl⟩ (Nat.le_of_ble_eq_true rfl) rfl (fun v10 m11 h12 ho13 => ?_)
    refine z_istore_n dX12_stead_24 (lv' := [(2, .int (mI v10)), (0, .ref (ad 0)), (1, .int (mI a0))]) (by decide) rfl ?_
    refine z_iload_n dX12_stead_25 0 rfl ?_
    refine z_bipush dX12_stead_26 (x := 99) (by decide +kernel) ?_
    refine z_icmp_le dX12_stead_28 h12 (by decide) (tgt := 34) rfl (fun h14 => ?_) (fun h14 => ?_)
    · refine z_iconst dX12_stead_34 ?_
      refine z_istore_n dX12_stead_35 (lv' := [(3, .int (mI 0)), (2, .int (mI v10)), (0, .ref (ad 0)), (1, .int (mI a0))]) (by decide) rfl ?_
      exact zG_lvk (TL_X12_stead_36 n n a0 v10 0 m11 ha0 h12 (by decide)) [2, 3, 1, 0] rfl
    · refine z_bipush dX12_stead_31 (x := (-9)) (by decide +kernel) ?_
      exact z_iret dX12_stead_33 rfl rfl (by decide)
set_option maxRecDepth 20000 in
theorem ct_X12_cup {ad sc sv : Nat → Nat} (n : Nat) (a0 : Int) (a1 : Int) (m : ZMem) (ha0 : R32 a0) (ha1 : R32 a1) : zCT LM ad sc sv M_X12_cup yX12_cup [.ref (ad 0), .int (mI a0), .int (mI a1)] m (F_X12_cup n a0 a1 m) := by
  refine zCT_of (lv := [(0, .ref (ad 0)), (1, .int (mI a0)), (2, .int (mI a1))]) (by decide) rfl (Nat.le_of_ble_eq_true rfl) rfl ?_
  unfold F_X12_cup
  refine z_aload_n dX12_cup_0 0 rfl ?_
  refine z_iconst dX12_cup_1 ?_
  refine z_putI dX12_cup_2 (k := 16) zc_X12 lm_0 rfl (by decide) rfl rfl (by decide) k_1054 ?_
  refine z_iload_n dX12_cup_5 1 rfl ?_
  refine z_i2l dX12_cup_6 ha0 (fun h1 => ?_)
  refine z_lconst dX12_cup_7 (x := 0) (by decide +kernel) ?_
  refine z_ldc2 dX12_cup_8 (x := 2) k_1376 ?_
  refine z_callS4 dX12_cup_11 rfl (ct_X12_in n a0 0 2 (wr m 0 16 0) h1 (by decide) (by decide)) k_1220 k_1221 k_10 k_1222 zn_X12_in ⟨rfl, rfl, Nat.le_of_ble_eq_true rfl, Nat.le_of_ble_eq_true rfl⟩ (Nat.le_of_ble_eq_true rfl) rfl (fun v2 m3 h4 ho5 => ?_)
  refine z_if_eq dX12_cup_14 (zb01 h4) (tgt := 27) rfl (fun h6 => ?_) (fun h6 => ?_)
  · refine z_iconst dX12_cup_27 ?_
    refine z_istore_n dX12_cup_28 (lv' := [(3, .int (mI (-1))), (0, .ref (ad 0)), (1, .int (mI a0)), (2, .int (mI a1))]) (by decide) rfl ?_
    refine z_iload_n dX12_cup_29 0 rfl ?_
    refine z_if_ge_f dX12_cup_30 (by decide) (by decide) (tgt := 39) rfl ?_
    refine z_aload_n dX12_cup_33 1 rfl ?_
    refine z_iload_n dX12_cup_34 0 rfl ?_
    refine z_callV1 dX12_cup_35 rfl (ct_X12_refuse n (-1) m3 (by decide)) zc_X12 lm_0 k_1194 k_1196 kp_37 k_10 k_1197 zn_X12_refuse ⟨rfl, rfl, Nat.le_of_ble_eq_true rfl, Nat.le_of_ble_eq_true rfl⟩ (Nat.le_of_ble_eq_true rfl) rfl (fun v7 m8 h9 ho10 => ?_)
    exact z_iret dX12_cup_38 rfl rfl h9
  · refine z_iload_n dX12_cup_17 2 rfl ?_
    refine z_iconst dX12_cup_18 ?_
    refine z_bipush dX12_cup_19 (x := 12) (by decide +kernel) ?_
    refine z_callS1 dX12_cup_21 rfl (ct_X12_wrongNumber n a1 0 12 m3 ha1 (by decide) (by decide)) k_1318 k_1319 k_10 k_1320 zn_X12_wrongNumber ⟨rfl, rfl, Nat.le_of_ble_eq_true rfl, Nat.le_of_ble_eq_true rfl⟩ (Nat.le_of_ble_eq_true rfl) rfl (fun v11 m12 h13 ho14 => ?_)
    refine z_goto dX12_cup_24 (tgt := 28) rfl ?_
    refine z_istore_n dX12_cup_28 (lv' := [(3, .int (mI v11)), (0, .ref (ad 0)), (1, .int (mI a0)), (2, .int (mI a1))]) (by decide) rfl ?_
    refine z_iload_n dX12_cup_29 0 rfl ?_
    refine z_if_ge dX12_cup_30 h13 (tgt := 39) rfl (fun h15 => ?_) (fun h15 => ?_)
    · refine z_aload_n dX12_cup_39 1 rfl ?_
      refine z_getR dX12_cup_40 (k := 15) (j := 9) zc_X12 lm_0 rfl (by decide) k_1053 ?_
      refine z_iload_n dX12_cup_43 2 rfl ?_
      refine z_iaload dX12_cup_44 ha0 (fun h16 => ?_)
      refine z_istore dX12_cup_45 (lv' := [(4, .int (mI (m12 9 (a0 : Int).toNat))), (3, .int (mI v11)), (0, .ref (ad 0)), (1, .int (mI a0)), (2, .int (mI a1))]) (by decide) rfl ?_
      refine z_aload_n dX12_cup_47 2 rfl ?_
      refine z_getR dX12_cup_48 (k := 15) (j := 9) zc_X12 lm_0 rfl (by decide) k_1053 ?_
      refine z_iload_n dX12_cup_51 3 rfl ?_
      refine z_iload_n dX12_cup_52 4 rfl ?_
      refine z_iastore dX12_cup_53 ha0 ha1 ?_
      refine z_iload dX12_cup_54 0 rfl ?_
      exact z_iret dX12_cup_56 rfl rfl h16
    · refine z_aload_n dX12_cup_33 1 rfl ?_
      refine z_iload_n dX12_cup_34 0 rfl ?_
      refine z_callV1 dX12_cup_35 rfl (ct_X12_refuse n v11 m12 h13) zc_X12 lm_0 k_1194 k_1196 kp_37 k_10 k_1197 zn_X12_refuse ⟨rfl, rfl, Nat.le_of_ble_eq_true rfl, Nat.le_of_ble_eq_true rfl⟩ (Nat.le_of_ble_eq_true rfl) rfl (fun v17 m18 h19 ho20 => ?_)
      exact z_iret dX12_cup_38 rfl rfl h19
set_option maxRecDepth 20000 in
theorem ct_X12_inCup {ad sc sv : Nat → Nat} (n : Nat) (a0 : Int) (a1 : Int) (m : ZMem) (ha0 : R32 a0) (ha1 : R32 a1) : zCT LM ad sc sv M_X12_inCup yX12_inCup [.int (mI a0), .int (mI a1)] m (F_X12_inCup n a0 a1 m) := by
  refine zCT_of (lv := [(0, .int (mI a0)), (1, .int (mI a1))]) (by decide) rfl (Nat.le_of_ble_eq_true rfl) rfl ?_
  unfold F_X12_inCup
  refine z_iload_n dX12_inCup_0 1 rfl ?_
  refine z_if_ne dX12_inCup_1 ha1 (tgt := 11) rfl (fun h1 => ?_) (fun h1 => ?_)
  · refine z_iload_n dX12_inCup_4 0 rfl ?_
    refine z_bipush dX12_inCup_5 (x := 13) (by decide +kernel) ?_
    refine z_irem dX12_inCup_7 ha0 (by decide) (fun h2 => ?_)
    refine z_goto dX12_inCup_8 (tgt := 31) rfl ?_
    exact z_iret dX12_inCup_31 rfl rfl h2
  · refine z_iload_n dX12_inCup_11 1 rfl ?_
    refine z_iconst dX12_inCup_12 ?_
    refine z_icmp_ne dX12_inCup_13 ha1 (by decide) (tgt := 26) rfl (fun h3 => ?_) (fun h3 => ?_)
    · refine z_iload_n dX12_inCup_16 0 rfl ?_
      refine z_bipush dX12_inCup_17 (x := 13) (by decide +kernel) ?_
      refine z_idiv dX12_inCup_19 ha0 (by decide) (fun h4 => ?_)
      refine z_bipush dX12_inCup_20 (x := 13) (by decide +kernel) ?_
      refine z_irem dX12_inCup_22 h4 (by decide) (fun h5 => ?_)
      refine z_goto dX12_inCup_23 (tgt := 31) rfl ?_
      exact z_iret dX12_inCup_31 rfl rfl h5
    · refine z_iload_n dX12_inCup_26 0 rfl ?_
      refine z_sipush dX12_inCup_27 (x := 169) (by decide +kernel) ?_
      refine z_idiv dX12_inCup_30 ha0 (by decide) (fun h6 => ?_)
      exact z_iret dX12_inCup_31 rfl rfl h6
set_option maxRecDepth 20000 in
theorem ct_X12_weightOf {ad sc sv : Nat → Nat} (n : Nat) (a0 : Int) (m : ZMem) (ha0 : R32 a0) : zCT LM ad sc sv M_X12_weightOf yX12_weightOf [.int (mI a0)] m (F_X12_weightOf n a0 m) := by
  refine zCT_of (lv := [(0, .int (mI a0))]) (by decide) rfl (Nat.le_of_ble_eq_true rfl) rfl ?_
  unfold F_X12_weightOf
  refine z_iload_n dX12_weightOf_0 0 rfl ?_
  refine z_if_ne dX12_weightOf_1 ha0 (tgt := 8) rfl (fun h1 => ?_) (fun h1 => ?_)
  · refine z_iconst dX12_weightOf_4 ?_
    refine z_goto dX12_weightOf_5 (tgt := 21) rfl ?_
    exact z_iret dX12_weightOf_21 rfl rfl (by decide)
  · refine z_iload_n dX12_weightOf_8 0 rfl ?_
    refine z_iconst dX12_weightOf_9 ?_
    refine z_icmp_ne dX12_weightOf_10 ha0 (by decide) (tgt := 18) rfl (fun h2 => ?_) (fun h2 => ?_)
    · refine z_bipush dX12_weightOf_13 (x := 13) (by decide +kernel) ?_
      refine z_goto dX12_weightOf_15 (tgt := 21) rfl ?_
      exact z_iret dX12_weightOf_21 rfl rfl (by decide)
    · refine z_sipush dX12_weightOf_18 (x := 169) (by decide +kernel) ?_
      exact z_iret dX12_weightOf_21 rfl rfl (by decide)
set_option maxRecDepth 20000 in
theorem ct_X12_reach {ad sc sv : Nat → Nat} (n : Nat) (a0 : Int) (a1 : Int) (m : ZMem) (ha0 : R32 a0) (ha1 : R32 a1) : zCT LM ad sc sv M_X12_reach yX12_reach [.ref (ad 0), .int (mI a0), .int (mI a1)] m (F_X12_reach n a0 a1 m) := by
  refine zCT_of (lv := [(0, .ref (ad 0)), (1, .int (mI a0)), (2, .int (mI a1))]) (by decide) rfl (Nat.le_of_ble_eq_true rfl) rfl ?_
  unfold F_X12_reach
  refine z_aload_n dX12_reach_0 0 rfl ?_
  refine z_getR dX12_reach_1 (k := 35) (j := 19) zc_X12 lm_0 rfl (by decide) k_1073 ?_
  refine z_iload_n dX12_reach_4 1 rfl ?_
  refine z_iaload dX12_reach_5 ha0 (fun h1 => ?_)
  refine z_if_ge dX12_reach_6 h1 (tgt := 36) rfl (fun h2 => ?_) (fun h2 => ?_)
  · exact z_vret dX12_reach_36 rfl rfl
  · refine z_aload_n dX12_reach_9 0 rfl ?_
    refine z_getR dX12_reach_10 (k := 35) (j := 19) zc_X12 lm_0 rfl (by decide) k_1073 ?_
    refine z_iload_n dX12_reach_13 1 rfl ?_
    refine z_iload_n dX12_reach_14 2 rfl ?_
    refine z_iastore dX12_reach_15 ha0 ha1 ?_
    refine z_aload_n dX12_reach_16 0 rfl ?_
    refine z_getR dX12_reach_17 (k := 36) (j := 20) zc_X12 lm_0 rfl (by decide) k_1074 ?_
    refine z_aload_n dX12_reach_20 0 rfl ?_
    refine z_getI dX12_reach_21 (k := 37) zc_X12 lm_0 rfl (by decide) k_1075 (fun h3 => ?_)
    refine z_iload_n dX12_reach_24 1 rfl ?_
    refine z_iastore dX12_reach_25 h3 ha0 ?_
    refine z_aload_n dX12_reach_26 0 rfl ?_
    refine z_dup dX12_reach_27 rfl ?_
    refine z_getI dX12_reach_28 (k := 37) zc_X12 lm_0 rfl (by decide) k_1075 (fun h4 => ?_)
    refine z_iconst dX12_reach_31 ?_
    refine z_iadd dX12_reach_32 (fun h5 => ?_)
    refine z_putI dX12_reach_33 (k := 37) zc_X12 lm_0 rfl (by decide) rfl rfl h5 k_1075 ?_
    exact z_vret dX12_reach_36 rfl rfl
set_option maxRecDepth 20000 in
theorem T_X12_stepsFrom_61 {ad sc sv : Nat → Nat} (n : Nat) (r11 : Int → Int → Int → ZMem → ZR) (r61 : Int → Int → Int → Int → Int → ZMem → ZR) (hr11 : ∀ (x1 : Int) (x2 : Int) (x3 : Int) (m : ZMem), R32 x1 → R32 x2 → R32 x3 → zG LM ad sc sv M_X12_stepsFrom 11 [(0, .ref (ad 0)), (1, .int (mI x1)), (2, .int (mI x2)), (3, .int (mI x3))] [] m (r11 x1 x2 x3 m)) (hr61 : ∀ (x1 : Int) (x2 : Int) (x3 : Int) (x4 : Int) (x5 : Int) (m : ZMem), R32 x1 → R32 x2 → R32 x3 → R32 x4 → R32 x5 → zG LM ad sc sv M_X12_stepsFrom 61 [(0, .ref (ad 0)), (1, .int (mI x1)), (2, .int (mI x2)), (3, .int (mI x3)), (4, .int (mI x4)), (5, .int (mI x5))] [] m (r61 x1 x2 x3 x4 x5 m)) : ∀ (x1 : Int) (x2 : Int) (x3 : Int) (x4 : Int) (x5 : Int) (m : ZMem), R32 x1 → R32 x2 → R32 x3 → R32 x4 → R32 x5 → zG LM ad sc sv M_X12_stepsFrom 61 [(0, .ref (ad 0)), (1, .int (mI x1)), (2, .int (mI x2)), (3, .int (mI x3)), (4, .int (mI x4)), (5, .int (mI x5))] [] m (B_X12_stepsFrom_61 n r11 r61 x1 x2 x3 x4 x5 m) := by
  intro x1 x2 x3 x4 x5 m hx1 hx2 hx3 hx4 hx5
  unfold B_X12_stepsFrom_61
  refine z_iload dX12_stepsFrom_61 5 rfl ?_
  refine z_iconst dX12_stepsFrom_63 ?_
  refine z_icmp_ge dX12_stepsFrom_64 hx5 (by decide) (tgt := 134) rfl (fun h30 => ?_) (fun h30 => ?_)
  · refine z_iinc dX12_stepsFrom_134 (lv' := [(3, .int (mI (x3 + 1))), (0, .ref (ad 0)), (1, .int (mI x1)), (2, .int (mI x2)), (4, .int (mI x4)), (5, .int (mI x5))]) 3 rfl (by decide) rfl (fun h31 => ?_)
    refine z_goto dX12_stepsFrom_137 (tgt := 11) rfl ?_
    exact zG_lvk (hr11 x1 x2 (x3 + 1) m hx1 hx2 h31) [1, 2, 3, 0] rfl
  · refine z_aload_n dX12_stepsFrom_67 0 rfl ?_
    refine z_getR dX12_stepsFrom_68 (k := 15) (j := 9) zc_X12 lm_0 rfl (by decide) k_1053 ?_
    refine z_iload dX12_stepsFrom_71 5 rfl ?_
    refine z_iaload dX12_stepsFrom_73 hx5 (fun h32 => ?_)
    refine z_iload_n dX12_stepsFrom_74 1 rfl ?_
    refine z_iload dX12_stepsFrom_75 5 rfl ?_
    refine z_callS1 dX12_stepsFrom_77 rfl (ct_X12_inCup n x1 x5 m hx1 hx5) k_1460 k_1461 k_10 k_1462 zn_X12_inCup ⟨rfl, rfl, Nat.le_of_ble_eq_true rfl, Nat.le_of_ble_eq_true rfl⟩ (Nat.le_of_ble_eq_true rfl) rfl (fun v33 m34 h35 ho36 => ?_)
    refine z_isub dX12_stepsFrom_80 (fun h37 => ?_)
    refine z_istore dX12_stepsFrom_81 (lv' := [(6, .int (mI ((m 9 (x5 : Int).toNat) - v33))), (0, .ref (ad 0)), (1, .int (mI x1)), (2, .int (mI x2)), (3, .int (mI x3)), (4, .int (mI x4)), (5, .int (mI x5))]) (by decide) rfl ?_
    refine z_iload dX12_stepsFrom_83 5 rfl ?_
    refine z_iload dX12_stepsFrom_85 0 rfl ?_
    refine z_icmp_ge dX12_stepsFrom_87 hx4 h37 (tgt := 95) rfl (fun h38 => ?_) (fun h38 => ?_)
    · refine z_iload dX12_stepsFrom_95 0 rfl ?_
      refine z_istore dX12_stepsFrom_97 (lv' := [(7, .int (mI ((m 9 (x5 : Int).toNat) - v33))), (6, .int (mI ((m 9 (x5 : Int).toNat) - v33))), (0, .ref (ad 0)), (1, .int (mI x1)), (2, .int (mI x2)), (3, .int (mI x3)), (4, .int (mI x4)), (5, .int (mI x5))]) (by decide) rfl ?_
      refine z_iload dX12_stepsFrom_99 7 rfl ?_
      refine z_iload_n dX12_stepsFrom_101 5 rfl ?_
      refine z_icmp_eq dX12_stepsFrom_102 hx5 hx3 (tgt := 128) rfl (fun h39 => ?_) (fun h39 => ?_)
      · refine z_iinc dX12_stepsFrom_128 (lv' := [(5, .int (mI (x5 + 1))), (7, .int (mI ((m 9 (x5 : Int).toNat) - v33))), (6, .int (mI ((m 9 (x5 : Int).toNat) - v33))), (0, .ref (ad 0)), (1, .int (mI x1)), (2, .int (mI x2)), (3, .int (mI x3)), (4, .int (mI x4))]) 7 rfl (by decide) rfl (fun h40 => ?_)
        refine z_goto dX12_stepsFrom_131 (tgt := 61) rfl ?_
        exact zG_lvk (hr61 x1 x2 x3 x4 (x5 + 1) m34 hx1 hx2 hx3 hx4 h40) [3, 4, 5, 6, 7, 0] rfl
      · refine z_aload_n dX12_stepsFrom_105 2 rfl ?_
        refine z_iload_n dX12_stepsFrom_106 3 rfl ?_
        refine z_iload dX12_stepsFrom_107 0 rfl ?_
        refine z_iload_n dX12_stepsFrom_109 5 rfl ?_
        refine z_callS1 dX12_stepsFrom_110 rfl (ct_X12_weightOf n x3 m34 hx3) k_1463 k_1464 k_10 k_1465 zn_X12_weightOf ⟨rfl, rfl, Nat.le_of_ble_eq_true rfl, Nat.le_of_ble_eq_true rfl⟩ (Nat.le_of_ble_eq_true rfl) rfl (fun v41 m42 h43 ho44 => ?_)
        refine z_imul dX12_stepsFrom_113 (fun h45 => ?_)
        refine z_isub dX12_stepsFrom_114 (fun h46 => ?_)
        refine z_iload dX12_stepsFrom_115 0 rfl ?_
        refine z_iload dX12_stepsFrom_117 7 rfl ?_
        refine z_callS1 dX12_stepsFrom_119 rfl (ct_X12_weightOf n x5 m42 hx5) k_1463 k_1464 k_10 k_1465 zn_X12_weightOf ⟨rfl, rfl, Nat.le_of_ble_eq_true rfl, Nat.le_of_ble_eq_true rfl⟩ (Nat.le_of_ble_eq_true rfl) rfl (fun v47 m48 h49 ho50 => ?_)
        refine z_imul dX12_stepsFrom_122 (fun h51 => ?_)
        refine z_iadd dX12_stepsFrom_123 (fun h52 => ?_)
        refine z_iload_n dX12_stepsFrom_124 4 rfl ?_
        refine z_callV0 dX12_stepsFrom_125 rfl (ct_X12_reach n ((x1 - (((m 9 (x5 : Int).toNat) - v33) * v41)) + (((m 9 (x5 : Int).toNat) - v33) * v47)) x2 m48 h52 hx2) zc_X12 lm_0 k_1452 k_1454 kp_71 k_10 k_1455 zn_X12_reach ⟨rfl, rfl, Nat.le_of_ble_eq_true rfl, Nat.le_of_ble_eq_true rfl⟩ (Nat.le_of_ble_eq_true rfl) rfl (fun v53 m54 ho56 => ?_)
        refine z_iinc dX12_stepsFrom_128 (lv' := [(5, .int (mI (x5 + 1))), (7, .int (mI ((m 9 (x5 : Int).toNat) - v33))), (6, .int (mI ((m 9 (x5 : Int).toNat) - v33))), (0, .ref (ad 0)), (1, .int (mI x1)), (2, .int (mI x2)), (3, .int (mI x3)), (4, .int (mI x4))]) 7 rfl (by decide) rfl (fun h57 => ?_)
        refine z_goto dX12_stepsFrom_131 (tgt := 61) rfl ?_
        exact zG_lvk (hr61 x1 x2 x3 x4 (x5 + 1) m54 hx1 hx2 hx3 hx4 h57) [3, 4, 5, 6, 7, 0] rfl
    · refine z_iload dX12_stepsFrom_90 5 rfl ?_
      refine z_goto dX12_stepsFrom_92 (tgt := 97) rfl ?_
      refine z_istore dX12_stepsFrom_97 (lv' := [(7, .int (mI x4)), (6, .int (mI ((m 9 (x5 : Int).toNat) - v33))), (0, .ref (ad 0)), (1, .int (mI x1)), (2, .int (mI x2)), (3, .int (mI x3)), (4, .int (mI x4)), (5, .int (mI x5))]) (by decide) rfl ?_
      refine z_iload dX12_stepsFrom_99 7 rfl ?_
      refine z_iload_n dX12_stepsFrom_101 5 rfl ?_
      refine z_icmp_eq dX12_stepsFrom_102 hx5 hx3 (tgt := 128) rfl (fun h58 => ?_) (fun h58 => ?_)
      · refine z_iinc dX12_stepsFrom_128 (lv' := [(5, .int (mI (x5 + 1))), (7, .int (mI x4)), (6, .int (mI ((m 9 (x5 : Int).toNat) - v33))), (0, .ref (ad 0)), (1, .int (mI x1)), (2, .int (mI x2)), (3, .int (mI x3)), (4, .int (mI x4))]) 7 rfl (by decide) rfl (fun h59 => ?_)
        refine z_goto dX12_stepsFrom_131 (tgt := 61) rfl ?_
        exact zG_lvk (hr61 x1 x2 x3 x4 (x5 + 1) m34 hx1 hx2 hx3 hx4 h59) [3, 4, 5, 6, 7, 0] rfl
      · refine z_aload_n dX12_stepsFrom_105 2 rfl ?_
        refine z_iload_n dX12_stepsFrom_106 3 rfl ?_
        refine z_iload dX12_stepsFrom_107 0 rfl ?_
        refine z_iload_n dX12_stepsFrom_109 5 rfl ?_
        refine z_callS1 dX12_stepsFrom_110 rfl (ct_X12_weightOf n x3 m34 hx3) k_1463 k_1464 k_10 k_1465 zn_X12_weightOf ⟨rfl, rfl, Nat.le_of_ble_eq_true rfl, Nat.le_of_ble_eq_true rfl⟩ (Nat.le_of_ble_eq_true rfl) rfl (fun v60 m61 h62 ho63 => ?_)
        refine z_imul dX12_stepsFrom_113 (fun h64 => ?_)
        refine z_isub dX12_stepsFrom_114 (fun h65 => ?_)
        refine z_iload dX12_stepsFrom_115 0 rfl ?_
        refine z_iload dX12_stepsFrom_117 7 rfl ?_
        refine z_callS1 dX12_stepsFrom_119 rfl (ct_X12_weightOf n x5 m61 hx5) k_1463 k_1464 k_10 k_1465 zn_X12_weightOf ⟨rfl, rfl, Nat.le_of_ble_eq_true rfl, Nat.le_of_ble_eq_true rfl⟩ (Nat.le_of_ble_eq_true rfl) rfl (fun v66 m67 h68 ho69 => ?_)
        refine z_imul dX12_stepsFrom_122 (fun h70 => ?_)
        refine z_iadd dX12_stepsFrom_123 (fun h71 => ?_)
        refine z_iload_n dX12_stepsFrom_124 4 rfl ?_
        refine z_callV0 dX12_stepsFrom_125 rfl (ct_X12_reach n ((x1 - (x4 * v60)) + (x4 * v66)) x2 m67 h71 hx2) zc_X12 lm_0 k_1452 k_1454 kp_71 k_10 k_1455 zn_X12_reach ⟨rfl, rfl, Nat.le_of_ble_eq_true rfl, Nat.le_of_ble_eq_true rfl⟩ (Nat.le_of_ble_eq_true rfl) rfl (fun v72 m73 ho75 => ?_)
        refine z_iinc dX12_stepsFrom_128 (lv' := [(5, .int (mI (x5 + 1))), (7, .int (mI x4)), (6, .int (mI ((m 9 (x5 : Int).toNat) - v33))), (0, .ref (ad 0)), (1, .int (mI x1)), (2, .int (mI x2)), (3, .int (mI x3)), (4, .int (mI x4))]) 7 rfl (by decide) rfl (fun h76 => ?_)
        refine z_goto dX12_stepsFrom_131 (tgt := 61) rfl ?_
        exact zG_lvk (hr61 x1 x2 x3 x4 (x5 + 1) m73 hx1 hx2 hx3 hx4 h76) [3, 4, 5, 6, 7, 0] rfl
theorem TL_X12_stepsFrom_61 {ad sc sv : Nat → Nat} (n : Nat) (r11 : Int → Int → Int → ZMem → ZR) (hr11 : ∀ (x1 : Int) (x2 : Int) (x3 : Int) (m : ZMem), R32 x1 → R32 x2 → R32 x3 → zG LM ad sc sv M_X12_stepsFrom 11 [(0, .ref (ad 0)), (1, .int (mI x1)), (2, .int (mI x2)), (3, .int (mI x3))] [] m (r11 x1 x2 x3 m)) : ∀ q : Nat, ∀ (x1 : Int) (x2 : Int) (x3 : Int) (x4 : Int) (x5 : Int) (m : ZMem), R32 x1 → R32 x2 → R32 x3 → R32 x4 → R32 x5 → zG LM ad sc sv M_X12_stepsFrom 61 [(0, .ref (ad 0)), (1, .int (mI x1)), (2, .int (mI x2)), (3, .int (mI x3)), (4, .int (mI x4)), (5, .int (mI x5))] [] m (L_X12_stepsFrom_61 n r11 q x1 x2 x3 x4 x5 m) := by
  intro q
  induction q with
  | zero => intros; exact zG_none
  | succ q ih => exact T_X12_stepsFrom_61 n r11 (L_X12_stepsFrom_61 n r11 q) hr11 ih
set_option maxRecDepth 20000 in
theorem T_X12_stepsFrom_11 {ad sc sv : Nat → Nat} (n : Nat) (r11 : Int → Int → Int → ZMem → ZR) (hr11 : ∀ (x1 : Int) (x2 : Int) (x3 : Int) (m : ZMem), R32 x1 → R32 x2 → R32 x3 → zG LM ad sc sv M_X12_stepsFrom 11 [(0, .ref (ad 0)), (1, .int (mI x1)), (2, .int (mI x2)), (3, .int (mI x3))] [] m (r11 x1 x2 x3 m)) : ∀ (x1 : Int) (x2 : Int) (x3 : Int) (m : ZMem), R32 x1 → R32 x2 → R32 x3 → zG LM ad sc sv M_X12_stepsFrom 11 [(0, .ref (ad 0)), (1, .int (mI x1)), (2, .int (mI x2)), (3, .int (mI x3))] [] m (B_X12_stepsFrom_11 n r11 x1 x2 x3 m) := by
  intro x1 x2 x3 m hx1 hx2 hx3
  unfold B_X12_stepsFrom_11
  refine z_iload_n dX12_stepsFrom_11 3 rfl ?_
  refine z_iconst dX12_stepsFrom_12 ?_
  refine z_icmp_ge dX12_stepsFrom_13 hx3 (by decide) (tgt := 140) rfl (fun h3 => ?_) (fun h3 => ?_)
  · exact z_vret dX12_stepsFrom_140 rfl rfl
  · refine z_iload_n dX12_stepsFrom_16 1 rfl ?_
    refine z_iload_n dX12_stepsFrom_17 3 rfl ?_
    refine z_callS1 dX12_stepsFrom_18 rfl (ct_X12_inCup n x1 x3 m hx1 hx3) k_1460 k_1461 k_10 k_1462 zn_X12_inCup ⟨rfl, rfl, Nat.le_of_ble_eq_true rfl, Nat.le_of_ble_eq_true rfl⟩ (Nat.le_of_ble_eq_true rfl) rfl (fun v4 m5 h6 ho7 => ?_)
    refine z_istore dX12_stepsFrom_21 (lv' := [(4, .int (mI v4)), (0, .ref (ad 0)), (1, .int (mI x1)), (2, .int (mI x2)), (3, .int (mI x3))]) (by decide) rfl ?_
    refine z_aload_n dX12_stepsFrom_23 1 rfl ?_
    refine z_iload_n dX12_stepsFrom_24 2 rfl ?_
    refine z_aload_n dX12_stepsFrom_25 1 rfl ?_
    refine z_getR dX12_stepsFrom_26 (k := 15) (j := 9) zc_X12 lm_0 rfl (by decide) k_1053 ?_
    refine z_iload_n dX12_stepsFrom_29 4 rfl ?_
    refine z_iaload dX12_stepsFrom_30 hx3 (fun h8 => ?_)
    refine z_iload dX12_stepsFrom_31 0 rfl ?_
    refine z_isub dX12_stepsFrom_33 (fun h9 => ?_)
    refine z_iload_n dX12_stepsFrom_34 4 rfl ?_
    refine z_callS1 dX12_stepsFrom_35 rfl (ct_X12_weightOf n x3 m5 hx3) k_1463 k_1464 k_10 k_1465 zn_X12_weightOf ⟨rfl, rfl, Nat.le_of_ble_eq_true rfl, Nat.le_of_ble_eq_true rfl⟩ (Nat.le_of_ble_eq_true rfl) rfl (fun v10 m11 h12 ho13 => ?_)
    refine z_imul dX12_stepsFrom_38 (fun h14 => ?_)
    refine z_iadd dX12_stepsFrom_39 (fun h15 => ?_)
    refine z_iload_n dX12_stepsFrom_40 3 rfl ?_
    refine z_callV0 dX12_stepsFrom_41 rfl (ct_X12_reach n (x1 + (((m5 9 (x3 : Int).toNat) - v4) * v10)) x2 m11 h15 hx2) zc_X12 lm_0 k_1452 k_1454 kp_71 k_10 k_1455 zn_X12_reach ⟨rfl, rfl, Nat.le_of_ble_eq_true rfl, Nat.le_of_ble_eq_true rfl⟩ (Nat.le_of_ble_eq_true rfl) rfl (fun v16 m17 ho19 => ?_)
    refine z_aload_n dX12_stepsFrom_44 1 rfl ?_
    refine z_iload_n dX12_stepsFrom_45 2 rfl ?_
    refine z_iload dX12_stepsFrom_46 0 rfl ?_
    refine z_iload_n dX12_stepsFrom_48 4 rfl ?_
    refine z_callS1 dX12_stepsFrom_49 rfl (ct_X12_weightOf n x3 m17 hx3) k_1463 k_1464 k_10 k_1465 zn_X12_weightOf ⟨rfl, rfl, Nat.le_of_ble_eq_true rfl, Nat.le_of_ble_eq_true rfl⟩ (Nat.le_of_ble_eq_true rfl) rfl (fun v20 m21 h22 ho23 => ?_)
    refine z_imul dX12_stepsFrom_52 (fun h24 => ?_)
    refine z_isub dX12_stepsFrom_53 (fun h25 => ?_)
    refine z_iload_n dX12_stepsFrom_54 3 rfl ?_
    refine z_callV0 dX12_stepsFrom_55 rfl (ct_X12_reach n (x1 - (v4 * v20)) x2 m21 h25 hx2) zc_X12 lm_0 k_1452 k_1454 kp_71 k_10 k_1455 zn_X12_reach ⟨rfl, rfl, Nat.le_of_ble_eq_true rfl, Nat.le_of_ble_eq_true rfl⟩ (Nat.le_of_ble_eq_true rfl) rfl (fun v26 m27 ho29 => ?_)
    refine z_iconst dX12_stepsFrom_58 ?_
    refine z_istore dX12_stepsFrom_59 (lv' := [(5, .int (mI 0)), (4, .int (mI v4)), (0, .ref (ad 0)), (1, .int (mI x1)), (2, .int (mI x2)), (3, .int (mI x3))]) (by decide) rfl ?_
    exact zG_lvk (TL_X12_stepsFrom_61 n r11 hr11 n x1 x2 x3 v4 0 m27 hx1 hx2 hx3 h6 (by decide)) [2, 3, 4, 5, 1, 0] rfl
theorem TL_X12_stepsFrom_11 {ad sc sv : Nat → Nat} (n : Nat) : ∀ q : Nat, ∀ (x1 : Int) (x2 : Int) (x3 : Int) (m : ZMem), R32 x1 → R32 x2 → R32 x3 → zG LM ad sc sv M_X12_stepsFrom 11 [(0, .ref (ad 0)), (1, .int (mI x1)), (2, .int (mI x2)), (3, .int (mI x3))] [] m (L_X12_stepsFrom_11 n q x1 x2 x3 m) := by
  intro q
  induction q with
  | zero => intros; exact zG_none
  | succ q ih => exact T_X12_stepsFrom_11 n (L_X12_stepsFrom_11 n q) ih
set_option maxRecDepth 20000 in
theorem ct_X12_stepsFrom {ad sc sv : Nat → Nat} (n : Nat) (a0 : Int) (m : ZMem) (ha0 : R32 a0) : zCT LM ad sc sv M_X12_stepsFrom yX12_stepsFrom [.ref (ad 0), .int (mI a0)] m (F_X12_stepsFrom n a0 m) := by
  refine zCT_of (lv := [(0, .ref (ad 0)), (1, .int (mI a0))]) (by decide) rfl (Nat.le_of_ble_eq_true rfl) rfl ?_
  unfold F_X12_stepsFrom
  refine z_aload_n dX12_stepsFrom_0 0 rfl ?_
  refine z_getR dX12_stepsFrom_1 (k := 35) (j := 19) zc_X12 lm_0 rfl (by decide) k_1073 ?_
  refine z_iload_n dX12_stepsFrom_4 1 rfl ?_
  refine z_iaload dX12_stepsFrom_5 ha0 (fun h1 => ?_)
  refine z_iconst dX12_stepsFrom_6 ?_
  refine z_iadd dX12_stepsFrom_7 (fun h2 => ?_)
  refine z_istore_n dX12_stepsFrom_8 (lv' := [(2, .int (mI ((m 19 (a0 : Int).toNat) + 1))), (0, .ref (ad 0)), (1, .int (mI a0))]) (by decide) rfl ?_
  refine z_iconst dX12_stepsFrom_9 ?_
  refine z_istore_n dX12_stepsFrom_10 (lv' := [(3, .int (mI 0)), (2, .int (mI ((m 19 (a0 : Int).toNat) + 1))), (0, .ref (ad 0)), (1, .int (mI a0))]) (by decide) rfl ?_
  exact zG_lvk (TL_X12_stepsFrom_11 n n a0 ((m 19 (a0 : Int).toNat) + 1) 0 m ha0 h2 (by decide)) [2, 3, 1, 0] rfl
set_option maxRecDepth 20000 in
theorem T_X12_pourAll_36 {ad sc sv : Nat → Nat} (n : Nat) (r36 : Int → ZMem → ZR) (hr36 : ∀ (x1 : Int) (m : ZMem), R32 x1 → zG LM ad sc sv M_X12_pourAll 36 [(0, .ref (ad 0)), (1, .int (mI x1))] [] m (r36 x1 m)) : ∀ (x1 : Int) (m : ZMem), R32 x1 → zG LM ad sc sv M_X12_pourAll 36 [(0, .ref (ad 0)), (1, .int (mI x1))] [] m (B_X12_pourAll_36 n r36 x1 m) := by
  intro x1 m hx1
  unfold B_X12_pourAll_36
  refine z_iload_n dX12_pourAll_36 1 rfl ?_
  refine z_aload_n dX12_pourAll_37 0 rfl ?_
  refine z_getI dX12_pourAll_38 (k := 37) zc_X12 lm_0 rfl (by decide) k_1075 (fun h7 => ?_)
  refine z_icmp_ge dX12_pourAll_41 hx1 h7 (tgt := 60) rfl (fun h8 => ?_) (fun h8 => ?_)
  · exact z_vret dX12_pourAll_60 rfl rfl
  · refine z_aload_n dX12_pourAll_44 0 rfl ?_
    refine z_aload_n dX12_pourAll_45 0 rfl ?_
    refine z_getR dX12_pourAll_46 (k := 36) (j := 20) zc_X12 lm_0 rfl (by decide) k_1074 ?_
    refine z_iload_n dX12_pourAll_49 1 rfl ?_
    refine z_iaload dX12_pourAll_50 hx1 (fun h9 => ?_)
    refine z_callV0 dX12_pourAll_51 rfl (ct_X12_stepsFrom n (m 20 (x1 : Int).toNat) m h9) zc_X12 lm_0 k_1456 k_1458 kp_72 k_10 k_1459 zn_X12_stepsFrom ⟨rfl, rfl, Nat.le_of_ble_eq_true rfl, Nat.le_of_ble_eq_true rfl⟩ (Nat.le_of_ble_eq_true rfl) rfl (fun v10 m11 ho13 => ?_)
    refine z_iinc dX12_pourAll_54 (lv' := [(1, .int (mI (x1 + 1))), (0, .ref (ad 0))]) 1 rfl (by decide) rfl (fun h14 => ?_)
    refine z_goto dX12_pourAll_57 (tgt := 36) rfl ?_
    exact zG_lvk (hr36 (x1 + 1) m11 h14) [1, 0] rfl
theorem TL_X12_pourAll_36 {ad sc sv : Nat → Nat} (n : Nat) : ∀ q : Nat, ∀ (x1 : Int) (m : ZMem), R32 x1 → zG LM ad sc sv M_X12_pourAll 36 [(0, .ref (ad 0)), (1, .int (mI x1))] [] m (L_X12_pourAll_36 n q x1 m) := by
  intro q
  induction q with
  | zero => intros; exact zG_none
  | succ q ih => exact T_X12_pourAll_36 n (L_X12_pourAll_36 n q) ih
set_option maxRecDepth 20000 in
theorem T_X12_pourAll_2 {ad sc sv : Nat → Nat} (n : Nat) (r2 : Int → ZMem → ZR) (hr2 : ∀ (x1 : Int) (m : ZMem), R32 x1 → zG LM ad sc sv M_X12_pourAll 2 [(0, .ref (ad 0)), (1, .int (mI x1))] [] m (r2 x1 m)) : ∀ (x1 : Int) (m : ZMem), R32 x1 → zG LM ad sc sv M_X12_pourAll 2 [(0, .ref (ad 0)), (1, .int (mI x1))] [] m (B_X12_pourAll_2 n r2 x1 m) := by
  intro x1 m hx1
  unfold B_X12_pourAll_2
  refine z_iload_n dX12_pourAll_2 1 rfl ?_
  refine z_sipush dX12_pourAll_3 (x := 2197) (by decide +kernel) ?_
  refine z_icmp_ge dX12_pourAll_6 hx1 (by decide) (tgt := 23) rfl (fun h1 => ?_) (fun h1 => ?_)
  · refine z_aload_n dX12_pourAll_23 0 rfl ?_
    refine z_iconst dX12_pourAll_24 ?_
    refine z_putI dX12_pourAll_25 (k := 37) zc_X12 lm_0 rfl (by decide) rfl rfl (by decide) k_1075 ?_
    refine z_aload_n dX12_pourAll_28 0 rfl ?_
    refine z_iconst dX12_pourAll_29 ?_
    refine z_iconst dX12_pourAll_30 ?_
    refine z_callV0 dX12_pourAll_31 rfl (ct_X12_reach n 0 0 (wr m 0 37 0) (by decide) (by decide)) zc_X12 lm_0 k_1452 k_1454 kp_71 k_10 k_1455 zn_X12_reach ⟨rfl, rfl, Nat.le_of_ble_eq_true rfl, Nat.le_of_ble_eq_true rfl⟩ (Nat.le_of_ble_eq_true rfl) rfl (fun v2 m3 ho5 => ?_)
    refine z_iconst dX12_pourAll_34 ?_
    refine z_istore_n dX12_pourAll_35 (lv' := [(1, .int (mI 0)), (0, .ref (ad 0))]) (by decide) rfl ?_
    exact zG_lvk (TL_X12_pourAll_36 n n 0 m3 (by decide)) [1, 0] rfl
  · refine z_aload_n dX12_pourAll_9 0 rfl ?_
    refine z_getR dX12_pourAll_10 (k := 35) (j := 19) zc_X12 lm_0 rfl (by decide) k_1073 ?_
    refine z_iload_n dX12_pourAll_13 1 rfl ?_
    refine z_bipush dX12_pourAll_14 (x := (-9)) (by decide +kernel) ?_
    refine z_iastore dX12_pourAll_16 hx1 (by decide) ?_
    refine z_iinc dX12_pourAll_17 (lv' := [(1, .int (mI (x1 + 1))), (0, .ref (ad 0))]) 1 rfl (by decide) rfl (fun h6 => ?_)
    refine z_goto dX12_pourAll_20 (tgt := 2) rfl ?_
    exact zG_lvk (hr2 (x1 + 1) (wr m 19 (x1 : Int).toNat (-9)) h6) [1, 0] rfl
theorem TL_X12_pourAll_2 {ad sc sv : Nat → Nat} (n : Nat) : ∀ q : Nat, ∀ (x1 : Int) (m : ZMem), R32 x1 → zG LM ad sc sv M_X12_pourAll 2 [(0, .ref (ad 0)), (1, .int (mI x1))] [] m (L_X12_pourAll_2 n q x1 m) := by
  intro q
  induction q with
  | zero => intros; exact zG_none
  | succ q ih => exact T_X12_pourAll_2 n (L_X12_pourAll_2 n q) ih
set_option maxRecDepth 20000 in
theorem ct_X12_pourAll {ad sc sv : Nat → Nat} (n : Nat) (m : ZMem) : zCT LM ad sc sv M_X12_pourAll yX12_pourAll [.ref (ad 0)] m (F_X12_pourAll n m) := by
  refine zCT_of (lv := [(0, .ref (ad 0))]) (by decide) rfl (Nat.le_of_ble_eq_true rfl) rfl ?_
  unfold F_X12_pourAll
  refine z_iconst dX12_pourAll_0 ?_
  refine z_istore_n dX12_pourAll_1 (lv' := [(1, .int (mI 0)), (0, .ref (ad 0))]) (by decide) rfl ?_
  exact zG_lvk (TL_X12_pourAll_2 n n 0 m (by decide)) [1, 0] rfl
set_option maxRecDepth 20000 in
theorem T_X12_pours_33 {ad sc sv : Nat → Nat} (n : Nat) (r33 : Int → Int → ZMem → ZR) (hr33 : ∀ (x1 : Int) (x2 : Int) (m : ZMem), R32 x1 → R32 x2 → zG LM ad sc sv M_X12_pours 33 [(0, .ref (ad 0)), (1, .int (mI x1)), (2, .int (mI x2))] [] m (r33 x1 x2 m)) : ∀ (x1 : Int) (x2 : Int) (m : ZMem), R32 x1 → R32 x2 → zG LM ad sc sv M_X12_pours 33 [(0, .ref (ad 0)), (1, .int (mI x1)), (2, .int (mI x2))] [] m (B_X12_pours_33 n r33 x1 x2 m) := by
  intro x1 x2 m hx1 hx2
  unfold B_X12_pours_33
  refine z_iload_n dX12_pours_33 2 rfl ?_
  refine z_aload_n dX12_pours_34 0 rfl ?_
  refine z_getI dX12_pours_35 (k := 37) zc_X12 lm_0 rfl (by decide) k_1075 (fun h18 => ?_)
  refine z_icmp_ge dX12_pours_38 hx2 h18 (tgt := 88) rfl (fun h19 => ?_) (fun h19 => ?_)
  · refine z_bipush dX12_pours_88 (x := (-9)) (by decide +kernel) ?_
    exact z_iret dX12_pours_90 rfl rfl (by decide)
  · refine z_aload_n dX12_pours_41 0 rfl ?_
    refine z_getR dX12_pours_42 (k := 36) (j := 20) zc_X12 lm_0 rfl (by decide) k_1074 ?_
    refine z_iload_n dX12_pours_45 2 rfl ?_
    refine z_iaload dX12_pours_46 hx2 (fun h20 => ?_)
    refine z_istore_n dX12_pours_47 (lv' := [(3, .int (mI (m 20 (x2 : Int).toNat))), (0, .ref (ad 0)), (1, .int (mI x1)), (2, .int (mI x2))]) (by decide) rfl ?_
    refine z_iload_n dX12_pours_48 0 rfl ?_
    refine z_iconst dX12_pours_49 ?_
    refine z_callS1 dX12_pours_50 rfl (ct_X12_inCup n (m 20 (x2 : Int).toNat) 0 m h20 (by decide)) k_1460 k_1461 k_10 k_1462 zn_X12_inCup ⟨rfl, rfl, Nat.le_of_ble_eq_true rfl, Nat.le_of_ble_eq_true rfl⟩ (Nat.le_of_ble_eq_true rfl) rfl (fun v21 m22 h23 ho24 => ?_)
    refine z_iload_n dX12_pours_53 2 rfl ?_
    refine z_icmp_eq dX12_pours_54 h23 hx1 (tgt := 75) rfl (fun h25 => ?_) (fun h25 => ?_)
    · refine z_aload_n dX12_pours_75 1 rfl ?_
      refine z_getR dX12_pours_76 (k := 35) (j := 19) zc_X12 lm_0 rfl (by decide) k_1073 ?_
      refine z_iload_n dX12_pours_79 0 rfl ?_
      refine z_iaload dX12_pours_80 h20 (fun h26 => ?_)
      exact z_iret dX12_pours_81 rfl rfl h26
    · refine z_iload_n dX12_pours_57 0 rfl ?_
      refine z_iconst dX12_pours_58 ?_
      refine z_callS1 dX12_pours_59 rfl (ct_X12_inCup n (m 20 (x2 : Int).toNat) 1 m22 h20 (by decide)) k_1460 k_1461 k_10 k_1462 zn_X12_inCup ⟨rfl, rfl, Nat.le_of_ble_eq_true rfl, Nat.le_of_ble_eq_true rfl⟩ (Nat.le_of_ble_eq_true rfl) rfl (fun v27 m28 h29 ho30 => ?_)
      refine z_iload_n dX12_pours_62 2 rfl ?_
      refine z_icmp_eq dX12_pours_63 h29 hx1 (tgt := 75) rfl (fun h31 => ?_) (fun h31 => ?_)
      · refine z_aload_n dX12_pours_75 1 rfl ?_
        refine z_getR dX12_pours_76 (k := 35) (j := 19) zc_X12 lm_0 rfl (by decide) k_1073 ?_
        refine z_iload_n dX12_pours_79 0 rfl ?_
        refine z_iaload dX12_pours_80 h20 (fun h32 => ?_)
        exact z_iret dX12_pours_81 rfl rfl h32
      · refine z_iload_n dX12_pours_66 0 rfl ?_
        refine z_iconst dX12_pours_67 ?_
        refine z_callS1 dX12_pours_68 rfl (ct_X12_inCup n (m 20 (x2 : Int).toNat) 2 m28 h20 (by decide)) k_1460 k_1461 k_10 k_1462 zn_X12_inCup ⟨rfl, rfl, Nat.le_of_ble_eq_true rfl, Nat.le_of_ble_eq_true rfl⟩ (Nat.le_of_ble_eq_true rfl) rfl (fun v33 m34 h35 ho36 => ?_)
        refine z_iload_n dX12_pours_71 2 rfl ?_
        refine z_icmp_ne dX12_pours_72 h35 hx1 (tgt := 82) rfl (fun h37 => ?_) (fun h37 => ?_)
        · refine z_aload_n dX12_pours_75 1 rfl ?_
          refine z_getR dX12_pours_76 (k := 35) (j := 19) zc_X12 lm_0 rfl (by decide) k_1073 ?_
          refine z_iload_n dX12_pours_79 0 rfl ?_
          refine z_iaload dX12_pours_80 h20 (fun h38 => ?_)
          exact z_iret dX12_pours_81 rfl rfl h38
        · refine z_iinc dX12_pours_82 (lv' := [(2, .int (mI (x2 + 1))), (3, .int (mI (m 20 (x2 : Int).toNat))), (0, .ref (ad 0)), (1, .int (mI x1))]) 3 rfl (by decide) rfl (fun h39 => ?_)
          refine z_goto dX12_pours_85 (tgt := 33) rfl ?_
          exact zG_lvk (hr33 x1 (x2 + 1) m34 hx1 h39) [2, 3, 0] rfl
theorem TL_X12_pours_33 {ad sc sv : Nat → Nat} (n : Nat) : ∀ q : Nat, ∀ (x1 : Int) (x2 : Int) (m : ZMem), R32 x1 → R32 x2 → zG LM ad sc sv M_X12_pours 33 [(0, .ref (ad 0)), (1, .int (mI x1)), (2, .int (mI x2))] [] m (L_X12_pours_33 n q x1 x2 m) := by
  intro q
  induction q with
  | zero => intros; exact zG_none
  | succ q ih => exact T_X12_pours_33 n (L_X12_pours_33 n q) ih
set_option maxRecDepth 20000 in
theorem ct_X12_pours {ad sc sv : Nat → Nat} (n : Nat) (a0 : Int) (m : ZMem) (ha0 : R32 a0) : zCT LM ad sc sv M_X12_pours yX12_pours [.ref (ad 0), .int (mI a0)] m (F_X12_pours n a0 m) := by
  refine zCT_of (lv := [(0, .ref (ad 0)), (1, .int (mI a0))]) (by decide) rfl (Nat.le_of_ble_eq_true rfl) rfl ?_
  unfold F_X12_pours
  refine z_aload_n dX12_pours_0 0 rfl ?_
  refine z_iconst dX12_pours_1 ?_
  refine z_putI dX12_pours_2 (k := 16) zc_X12 lm_0 rfl (by decide) rfl rfl (by decide) k_1054 ?_
  refine z_iload_n dX12_pours_5 1 rfl ?_
  refine z_iconst dX12_pours_6 ?_
  refine z_bipush dX12_pours_7 (x := 12) (by decide +kernel) ?_
  refine z_callS1 dX12_pours_9 rfl (ct_X12_wrongNumber n a0 1 12 (wr m 0 16 0) ha0 (by decide) (by decide)) k_1318 k_1319 k_10 k_1320 zn_X12_wrongNumber ⟨rfl, rfl, Nat.le_of_ble_eq_true rfl, Nat.le_of_ble_eq_true rfl⟩ (Nat.le_of_ble_eq_true rfl) rfl (fun v1 m2 h3 ho4 => ?_)
  refine z_if_ge dX12_pours_12 h3 (tgt := 27) rfl (fun h5 => ?_) (fun h5 => ?_)
  · refine z_aload_n dX12_pours_27 0 rfl ?_
    refine z_callV0 dX12_pours_28 rfl (ct_X12_pourAll n m2) zc_X12 lm_0 k_1448 k_1450 kp_70 k_10 k_1451 zn_X12_pourAll ⟨rfl, rfl, Nat.le_of_ble_eq_true rfl, Nat.le_of_ble_eq_true rfl⟩ (Nat.le_of_ble_eq_true rfl) rfl (fun v6 m7 ho9 => ?_)
    refine z_iconst dX12_pours_31 ?_
    refine z_istore_n dX12_pours_32 (lv' := [(2, .int (mI 0)), (0, .ref (ad 0)), (1, .int (mI a0))]) (by decide) rfl ?_
    exact zG_lvk (TL_X12_pours_33 n n a0 0 m7 ha0 (by decide)) [1, 2, 0] rfl
  · refine z_aload_n dX12_pours_15 0 rfl ?_
    refine z_iload_n dX12_pours_16 1 rfl ?_
    refine z_iconst dX12_pours_17 ?_
    refine z_bipush dX12_pours_18 (x := 12) (by decide +kernel) ?_
    refine z_callS1 dX12_pours_20 rfl (ct_X12_wrongNumber n a0 1 12 m2 ha0 (by decide) (by decide)) k_1318 k_1319 k_10 k_1320 zn_X12_wrongNumber ⟨rfl, rfl, Nat.le_of_ble_eq_true rfl, Nat.le_of_ble_eq_true rfl⟩ (Nat.le_of_ble_eq_true rfl) rfl (fun v10 m11 h12 ho13 => ?_)
    refine z_callV1 dX12_pours_23 rfl (ct_X12_refuse n v10 m11 h12) zc_X12 lm_0 k_1194 k_1196 kp_37 k_10 k_1197 zn_X12_refuse ⟨rfl, rfl, Nat.le_of_ble_eq_true rfl, Nat.le_of_ble_eq_true rfl⟩ (Nat.le_of_ble_eq_true rfl) rfl (fun v14 m15 h16 ho17 => ?_)
    exact z_iret dX12_pours_26 rfl rfl h16
