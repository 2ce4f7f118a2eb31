set_option maxRecDepth 20000 in
theorem ct_X12_steps {ad sc sv : Nat → Nat} (n : Nat) (a0 : Int) (a1 : Int) (a2 : Int) (m : ZMem) (ha0 : R32 a0) (ha1 : R32 a1) (ha2 : R32 a2) : zCT LM ad sc sv M_X12_steps yX12_steps [.ref (ad 0), .int (mI a0), .int (mI a1), .int (mI a2)] m (F_X12_steps n a0 a1 a2 m) := by
  refine zCT_of (lv := [(0, .ref (ad 0)), (1, .int (mI a0)), (2, .int (mI a1)), (3, .int (mI a2))]) (by decide) rfl (Nat.le_of_ble_eq_true rfl) rfl ?_
  unfold F_X12_steps
  refine z_aload_n dX12_steps_0 0 rfl ?_
  refine z_iconst dX12_steps_1 ?_
  refine z_putI dX12_steps_2 (k := 16) zc_X12 lm_0 rfl (by decide) rfl rfl (by decide) k_1054 ?_
  refine z_iload_n dX12_steps_5 1 rfl ?_
  refine z_if_lt dX12_steps_6 ha0 (tgt := 17) rfl (fun h1 => ?_) (fun h1 => ?_)
  · refine z_aload_n dX12_steps_17 0 rfl ?_
    refine z_bipush dX12_steps_18 (x := (-4)) (by decide +kernel) ?_
    refine z_callV1 dX12_steps_20 rfl (ct_X12_refuse n (-4) (wr m 0 16 0) (by decide)) zc_X12 lm_0 k_1194 k_1196 kp_37 k_10 k_1197 zn_X12_refuse ⟨rfl, rfl, Nat.le_of_ble_eq_true rfl, Nat.le_of_ble_eq_true rfl⟩ (Nat.le_of_ble_eq_true rfl) rfl (fun v2 m3 h4 ho5 => ?_)
    exact z_iret dX12_steps_23 rfl rfl h4
  · refine z_iload_n dX12_steps_9 2 rfl ?_
    refine z_if_lt dX12_steps_10 ha1 (tgt := 17) rfl (fun h6 => ?_) (fun h6 => ?_)
    · refine z_aload_n dX12_steps_17 0 rfl ?_
      refine z_bipush dX12_steps_18 (x := (-4)) (by decide +kernel) ?_
      refine z_callV1 dX12_steps_20 rfl (ct_X12_refuse n (-4) (wr m 0 16 0) (by decide)) zc_X12 lm_0 k_1194 k_1196 kp_37 k_10 k_1197 zn_X12_refuse ⟨rfl, rfl, Nat.le_of_ble_eq_true rfl, Nat.le_of_ble_eq_true rfl⟩ (Nat.le_of_ble_eq_true rfl) rfl (fun v7 m8 h9 ho10 => ?_)
      exact z_iret dX12_steps_23 rfl rfl h9
    · refine z_iload_n dX12_steps_13 3 rfl ?_
      refine z_if_ge dX12_steps_14 ha2 (tgt := 24) rfl (fun h11 => ?_) (fun h11 => ?_)
      · refine z_iload_n dX12_steps_24 1 rfl ?_
        refine z_bipush dX12_steps_25 (x := 12) (by decide +kernel) ?_
        refine z_icmp_gt dX12_steps_27 ha0 (by decide) (tgt := 42) rfl (fun h12 => ?_) (fun h12 => ?_)
        · refine z_aload_n dX12_steps_42 0 rfl ?_
          refine z_bipush dX12_steps_43 (x := (-6)) (by decide +kernel) ?_
          refine z_callV1 dX12_steps_45 rfl (ct_X12_refuse n (-6) (wr m 0 16 0) (by decide)) zc_X12 lm_0 k_1194 k_1196 kp_37 k_10 k_1197 zn_X12_refuse ⟨rfl, rfl, Nat.le_of_ble_eq_true rfl, Nat.le_of_ble_eq_true rfl⟩ (Nat.le_of_ble_eq_true rfl) rfl (fun v13 m14 h15 ho16 => ?_)
          exact z_iret dX12_steps_48 rfl rfl h15
        · refine z_iload_n dX12_steps_30 2 rfl ?_
          refine z_bipush dX12_steps_31 (x := 12) (by decide +kernel) ?_
          refine z_icmp_gt dX12_steps_33 ha1 (by decide) (tgt := 42) rfl (fun h17 => ?_) (fun h17 => ?_)
          · refine z_aload_n dX12_steps_42 0 rfl ?_
            refine z_bipush dX12_steps_43 (x := (-6)) (by decide +kernel) ?_
            refine z_callV1 dX12_steps_45 rfl (ct_X12_refuse n (-6) (wr m 0 16 0) (by decide)) zc_X12 lm_0 k_1194 k_1196 kp_37 k_10 k_1197 zn_X12_refuse ⟨rfl, rfl, Nat.le_of_ble_eq_true rfl, Nat.le_of_ble_eq_true rfl⟩ (Nat.le_of_ble_eq_true rfl) rfl (fun v18 m19 h20 ho21 => ?_)
            exact z_iret dX12_steps_48 rfl rfl h20
          · refine z_iload_n dX12_steps_36 3 rfl ?_
            refine z_bipush dX12_steps_37 (x := 12) (by decide +kernel) ?_
            refine z_icmp_le dX12_steps_39 ha2 (by decide) (tgt := 49) rfl (fun h22 => ?_) (fun h22 => ?_)
            · refine z_aload_n dX12_steps_49 0 rfl ?_
              refine z_callV0 dX12_steps_50 rfl (ct_X12_pourAll n (wr m 0 16 0)) zc_X12 lm_0 k_1448 k_1450 kp_70 k_10 k_1451 zn_X12_pourAll ⟨rfl, rfl, Nat.le_of_ble_eq_true rfl, Nat.le_of_ble_eq_true rfl⟩ (Nat.le_of_ble_eq_true rfl) rfl (fun v23 m24 ho26 => ?_)
              refine z_aload_n dX12_steps_53 0 rfl ?_
              refine z_getR dX12_steps_54 (k := 35) (j := 19) zc_X12 lm_0 rfl (by decide) k_1073 ?_
              refine z_iload_n dX12_steps_57 1 rfl ?_
              refine z_bipush dX12_steps_58 (x := 13) (by decide +kernel) ?_
              refine z_iload_n dX12_steps_60 2 rfl ?_
              refine z_imul dX12_steps_61 (fun h27 => ?_)
              refine z_iadd dX12_steps_62 (fun h28 => ?_)
              refine z_sipush dX12_steps_63 (x := 169) (by decide +kernel) ?_
              refine z_iload_n dX12_steps_66 3 rfl ?_
              refine z_imul dX12_steps_67 (fun h29 => ?_)
              refine z_iadd dX12_steps_68 (fun h30 => ?_)
              refine z_iaload dX12_steps_69 h30 (fun h31 => ?_)
              exact z_iret dX12_steps_70 rfl rfl h31
            · refine z_aload_n dX12_steps_42 0 rfl ?_
              refine z_bipush dX12_steps_43 (x := (-6)) (by decide +kernel) ?_
              refine z_callV1 dX12_steps_45 rfl (ct_X12_refuse n (-6) (wr m 0 16 0) (by decide)) zc_X12 lm_0 k_1194 k_1196 kp_37 k_10 k_1197 zn_X12_refuse ⟨rfl, rfl, Nat.le_of_ble_eq_true rfl, Nat.le_of_ble_eq_true rfl⟩ (Nat.le_of_ble_eq_true rfl) rfl (fun v32 m33 h34 ho35 => ?_)
              exact z_iret dX12_steps_48 rfl rfl h34
      · refine z_aload_n dX12_steps_17 0 rfl ?_
        refine z_bipush dX12_steps_18 (x := (-4)) (by decide +kernel) ?_
        refine z_callV1 dX12_steps_20 rfl (ct_X12_refuse n (-4) (wr m 0 16 0) (by decide)) zc_X12 lm_0 k_1194 k_1196 kp_37 k_10 k_1197 zn_X12_refuse ⟨rfl, rfl, Nat.le_of_ble_eq_true rfl, Nat.le_of_ble_eq_true rfl⟩ (Nat.le_of_ble_eq_true rfl) rfl (fun v36 m37 h38 ho39 => ?_)
        exact z_iret dX12_steps_23 rfl rfl h38
set_option maxRecDepth 20000 in
theorem ct_X12_mistakeBy {ad sc sv : Nat → Nat} (n : Nat) (a0 : Int) (a1 : Int) (m : ZMem) (ha0 : R32 a0) (ha1 : R32 a1) : zCT LM ad sc sv M_X12_mistakeBy yX12_mistakeBy [.ref (ad 0), .int (mI a0), .int (mI a1)] m (F_X12_mistakeBy n a0 a1 m) := by
  refine zCT_of (lv := [(0, .ref (ad 0)), (1, .int (mI a0)), (2, .int (mI a1))]) (by decide) rfl (Nat.le_of_ble_eq_true rfl) rfl ?_
  unfold F_X12_mistakeBy
  refine z_iload_n dX12_mistakeBy_0 2 rfl ?_
  refine z_aload_n dX12_mistakeBy_1 0 rfl ?_
  refine z_getI dX12_mistakeBy_2 (k := 0) zc_X12 lm_0 rfl (by decide) k_1038 (fun h1 => ?_)
  refine z_imul dX12_mistakeBy_5 (fun h2 => ?_)
  refine z_aload_n dX12_mistakeBy_6 0 rfl ?_
  refine z_getR dX12_mistakeBy_7 (k := 10) (j := 4) zc_X12 lm_0 rfl (by decide) k_1048 ?_
  refine z_iload_n dX12_mistakeBy_10 1 rfl ?_
  refine z_iaload dX12_mistakeBy_11 ha0 (fun h3 => ?_)
  refine z_callS1 dX12_mistakeBy_12 rfl (ct_X12_up n (a1 * (m 0 0)) (m 4 (a0 : Int).toNat) m h2 h3) k_1304 k_1305 k_10 k_1306 zn_X12_up ⟨rfl, rfl, Nat.le_of_ble_eq_true rfl, Nat.le_of_ble_eq_true rfl⟩ (Nat.le_of_ble_eq_true rfl) rfl (fun v4 m5 h6 ho7 => ?_)
  refine z_istore_n dX12_mistakeBy_15 (lv' := [(3, .int (mI v4)), (0, .ref (ad 0)), (1, .int (mI a0)), (2, .int (mI a1))]) (by decide) rfl ?_
  refine z_iload_n dX12_mistakeBy_16 0 rfl ?_
  refine z_iconst dX12_mistakeBy_17 ?_
  refine z_icmp_ge dX12_mistakeBy_18 h6 (by decide) (tgt := 25) rfl (fun h8 => ?_) (fun h8 => ?_)
  · refine z_iload_n dX12_mistakeBy_25 0 rfl ?_
    refine z_sipush dX12_mistakeBy_26 (x := 999) (by decide +kernel) ?_
    refine z_icmp_le dX12_mistakeBy_29 h6 (by decide) (tgt := 37) rfl (fun h9 => ?_) (fun h9 => ?_)
    · refine z_iload_n dX12_mistakeBy_37 0 rfl ?_
      exact z_iret dX12_mistakeBy_38 rfl rfl h6
    · refine z_bipush dX12_mistakeBy_32 (x := (-9)) (by decide +kernel) ?_
      refine z_goto dX12_mistakeBy_34 (tgt := 38) rfl ?_
      exact z_iret dX12_mistakeBy_38 rfl rfl (by decide)
  · refine z_iconst dX12_mistakeBy_21 ?_
    refine z_goto dX12_mistakeBy_22 (tgt := 38) rfl ?_
    exact z_iret dX12_mistakeBy_38 rfl rfl (by decide)
set_option maxRecDepth 20000 in
theorem ct_X12_wrongMistake {ad sc sv : Nat → Nat} (n : Nat) (a0 : Int) (a1 : Int) (m : ZMem) (ha0 : R32 a0) (ha1 : R32 a1) : zCT LM ad sc sv M_X12_wrongMistake yX12_wrongMistake [.ref (ad 0), .int (mI a0), .int (mI a1)] m (F_X12_wrongMistake n a0 a1 m) := by
  refine zCT_of (lv := [(0, .ref (ad 0)), (1, .int (mI a0)), (2, .int (mI a1))]) (by decide) rfl (Nat.le_of_ble_eq_true rfl) rfl ?_
  unfold F_X12_wrongMistake
  refine z_aload_n dX12_wrongMistake_0 0 rfl ?_
  refine z_iload_n dX12_wrongMistake_1 1 rfl ?_
  refine z_callV4 dX12_wrongMistake_2 rfl (ct_X12_isPart n a0 m ha0) zc_X12 lm_0 k_1256 k_1258 kp_50 k_10 k_1259 zn_X12_isPart ⟨rfl, rfl, Nat.le_of_ble_eq_true rfl, Nat.le_of_ble_eq_true rfl⟩ (Nat.le_of_ble_eq_true rfl) rfl (fun v1 m2 h3 ho4 => ?_)
  refine z_if_eq dX12_wrongMistake_5 (zb01 h3) (tgt := 19) rfl (fun h5 => ?_) (fun h5 => ?_)
  · refine z_iconst dX12_wrongMistake_19 ?_
    exact z_iret dX12_wrongMistake_20 rfl rfl (by decide)
  · refine z_iload_n dX12_wrongMistake_8 2 rfl ?_
    refine z_iconst dX12_wrongMistake_9 ?_
    refine z_sipush dX12_wrongMistake_10 (x := 999) (by decide +kernel) ?_
    refine z_callS1 dX12_wrongMistake_13 rfl (ct_X12_wrongNumber n a1 0 999 m2 ha1 (by decide) (by decide)) k_1318 k_1319 k_10 k_1320 zn_X12_wrongNumber ⟨rfl, rfl, Nat.le_of_ble_eq_true rfl, Nat.le_of_ble_eq_true rfl⟩ (Nat.le_of_ble_eq_true rfl) rfl (fun v6 m7 h8 ho9 => ?_)
    refine z_goto dX12_wrongMistake_16 (tgt := 20) rfl ?_
    exact z_iret dX12_wrongMistake_20 rfl rfl h8
set_option maxRecDepth 20000 in
theorem ct_X12_mistake {ad sc sv : Nat → Nat} (n : Nat) (a0 : Int) (a1 : Int) (m : ZMem) (ha0 : R32 a0) (ha1 : R32 a1) : zCT LM ad sc sv M_X12_mistake yX12_mistake [.ref (ad 0), .int (mI a0), .int (mI a1)] m (F_X12_mistake n a0 a1 m) := by
  refine zCT_of (lv := [(0, .ref (ad 0)), (1, .int (mI a0)), (2, .int (mI a1))]) (by decide) rfl (Nat.le_of_ble_eq_true rfl) rfl ?_
  unfold F_X12_mistake
  refine z_aload_n dX12_mistake_0 0 rfl ?_
  refine z_iconst dX12_mistake_1 ?_
  refine z_putI dX12_mistake_2 (k := 16) zc_X12 lm_0 rfl (by decide) rfl rfl (by decide) k_1054 ?_
  refine z_aload_n dX12_mistake_5 0 rfl ?_
  refine z_iload_n dX12_mistake_6 1 rfl ?_
  refine z_iload_n dX12_mistake_7 2 rfl ?_
  refine z_callV1 dX12_mistake_8 rfl (ct_X12_wrongMistake n a0 a1 (wr m 0 16 0) ha0 ha1) zc_X12 lm_0 k_1474 k_1476 kp_73 k_10 k_1477 zn_X12_wrongMistake ⟨rfl, rfl, Nat.le_of_ble_eq_true rfl, Nat.le_of_ble_eq_true rfl⟩ (Nat.le_of_ble_eq_true rfl) rfl (fun v1 m2 h3 ho4 => ?_)
  refine z_if_ge dX12_mistake_11 h3 (tgt := 27) rfl (fun h5 => ?_) (fun h5 => ?_)
  · refine z_aload_n dX12_mistake_27 0 rfl ?_
    refine z_iload_n dX12_mistake_28 1 rfl ?_
    refine z_iload_n dX12_mistake_29 2 rfl ?_
    refine z_callV1 dX12_mistake_30 rfl (ct_X12_mistakeBy n a0 a1 m2 ha0 ha1) zc_X12 lm_0 k_1478 k_1480 kp_74 k_10 k_1481 zn_X12_mistakeBy ⟨rfl, rfl, Nat.le_of_ble_eq_true rfl, Nat.le_of_ble_eq_true rfl⟩ (Nat.le_of_ble_eq_true rfl) rfl (fun v6 m7 h8 ho9 => ?_)
    exact z_iret dX12_mistake_33 rfl rfl h8
  · refine z_aload_n dX12_mistake_14 0 rfl ?_
    refine z_aload_n dX12_mistake_15 0 rfl ?_
    refine z_iload_n dX12_mistake_16 1 rfl ?_
    refine z_iload_n dX12_mistake_17 2 rfl ?_
    refine z_callV1 dX12_mistake_18 rfl (ct_X12_wrongMistake n a0 a1 m2 ha0 ha1) zc_X12 lm_0 k_1474 k_1476 kp_73 k_10 k_1477 zn_X12_wrongMistake ⟨rfl, rfl, Nat.le_of_ble_eq_true rfl, Nat.le_of_ble_eq_true rfl⟩ (Nat.le_of_ble_eq_true rfl) rfl (fun v10 m11 h12 ho13 => ?_)
    refine z_callV1 dX12_mistake_21 rfl (ct_X12_refuse n v10 m11 h12) zc_X12 lm_0 k_1194 k_1196 kp_37 k_10 k_1197 zn_X12_refuse ⟨rfl, rfl, Nat.le_of_ble_eq_true rfl, Nat.le_of_ble_eq_true rfl⟩ (Nat.le_of_ble_eq_true rfl) rfl (fun v14 m15 h16 ho17 => ?_)
    refine z_goto dX12_mistake_24 (tgt := 33) rfl ?_
    exact z_iret dX12_mistake_33 rfl rfl h16
set_option maxRecDepth 20000 in
theorem T_X12_more_23 {ad sc sv : Nat → Nat} (n : Nat) : ∀ (x1 : Int) (x2 : Int) (x3 : Int) (s0 : Int) (m : ZMem), R32 x1 → R32 x2 → R32 x3 → R32 s0 → zG LM ad sc sv M_X12_more 23 [(0, .ref (ad 0)), (1, .int (mI x1)), (2, .int (mI x2)), (3, .int (mI x3))] [.int (mI s0)] m (B_X12_more_23 n x1 x2 x3 s0 m) := by
  intro x1 x2 x3 s0 m hx1 hx2 hx3 hs0
  unfold B_X12_more_23
  refine z_istore dX12_more_23 (lv' := [(4, .int (mI s0)), (0, .ref (ad 0)), (1, .int (mI x1)), (2, .int (mI x2)), (3, .int (mI x3))]) (by decide) rfl ?_
  refine z_iload dX12_more_25 0 rfl ?_
  refine z_if_ge dX12_more_27 hs0 (tgt := 37) rfl (fun h10 => ?_) (fun h10 => ?_)
  · refine z_aload_n dX12_more_37 1 rfl ?_
    refine z_iload_n dX12_more_38 2 rfl ?_
    refine z_iload_n dX12_more_39 3 rfl ?_
    refine z_callV1 dX12_more_40 rfl (ct_X12_mistakeBy n x1 x2 m hx1 hx2) zc_X12 lm_0 k_1478 k_1480 kp_74 k_10 k_1481 zn_X12_mistakeBy ⟨rfl, rfl, Nat.le_of_ble_eq_true rfl, Nat.le_of_ble_eq_true rfl⟩ (Nat.le_of_ble_eq_true rfl) rfl (fun v11 m12 h13 ho14 => ?_)
    refine z_istore dX12_more_43 (lv' := [(5, .int (mI v11)), (4, .int (mI s0)), (0, .ref (ad 0)), (1, .int (mI x1)), (2, .int (mI x2)), (3, .int (mI x3))]) (by decide) rfl ?_
    refine z_iload dX12_more_45 0 rfl ?_
    refine z_if_ge dX12_more_47 h13 (tgt := 53) rfl (fun h15 => ?_) (fun h15 => ?_)
    · refine z_bipush dX12_more_53 (x := 12) (by decide +kernel) ?_
      refine z_aload_n dX12_more_55 2 rfl ?_
      refine z_getR dX12_more_56 (k := 10) (j := 4) zc_X12 lm_0 rfl (by decide) k_1048 ?_
      refine z_iload_n dX12_more_59 5 rfl ?_
      refine z_iaload dX12_more_60 hx3 (fun h16 => ?_)
      refine z_imul dX12_more_61 (fun h17 => ?_)
      refine z_iload dX12_more_62 0 rfl ?_
      refine z_imul dX12_more_64 (fun h18 => ?_)
      refine z_aload_n dX12_more_65 2 rfl ?_
      refine z_iload_n dX12_more_66 5 rfl ?_
      refine z_aload_n dX12_more_67 2 rfl ?_
      refine z_getI dX12_more_68 (k := 1) zc_X12 lm_0 rfl (by decide) k_1039 (fun h19 => ?_)
      refine z_callV1 dX12_more_71 rfl (ct_X12_takenFor n x3 (m12 0 1) m12 hx3 h19) zc_X12 lm_0 k_1290 k_1292 kp_55 k_10 k_1293 zn_X12_takenFor ⟨rfl, rfl, Nat.le_of_ble_eq_true rfl, Nat.le_of_ble_eq_true rfl⟩ (Nat.le_of_ble_eq_true rfl) rfl (fun v20 m21 h22 ho23 => ?_)
      refine z_aload_n dX12_more_74 2 rfl ?_
      refine z_getI dX12_more_75 (k := 0) zc_X12 lm_0 rfl (by decide) k_1038 (fun h24 => ?_)
      refine z_imul dX12_more_78 (fun h25 => ?_)
      refine z_isub dX12_more_79 (fun h26 => ?_)
      refine z_istore dX12_more_80 (lv' := [(6, .int (mI (((12 * (m12 4 (x3 : Int).toNat)) * v11) - (v20 * (m21 0 0))))), (5, .int (mI v11)), (4, .int (mI s0)), (0, .ref (ad 0)), (1, .int (mI x1)), (2, .int (mI x2)), (3, .int (mI x3))]) (by decide) rfl ?_
      refine z_iload dX12_more_82 0 rfl ?_
      refine z_if_le dX12_more_84 h26 (tgt := 102) rfl (fun h27 => ?_) (fun h27 => ?_)
      · refine z_iconst dX12_more_102 ?_
        exact z_iret dX12_more_103 rfl rfl (by decide)
      · refine z_iload dX12_more_87 0 rfl ?_
        refine z_bipush dX12_more_89 (x := 12) (by decide +kernel) ?_
        refine z_aload_n dX12_more_91 3 rfl ?_
        refine z_getI dX12_more_92 (k := 0) zc_X12 lm_0 rfl (by decide) k_1038 (fun h28 => ?_)
        refine z_imul dX12_more_95 (fun h29 => ?_)
        refine z_callS1 dX12_more_96 rfl (ct_X12_up n (((12 * (m12 4 (x3 : Int).toNat)) * v11) - (v20 * (m21 0 0))) (12 * (m21 0 0)) m21 h26 h29) k_1304 k_1305 k_10 k_1306 zn_X12_up ⟨rfl, rfl, Nat.le_of_ble_eq_true rfl, Nat.le_of_ble_eq_true rfl⟩ (Nat.le_of_ble_eq_true rfl) rfl (fun v30 m31 h32 ho33 => ?_)
        refine z_goto dX12_more_99 (tgt := 103) rfl ?_
        exact z_iret dX12_more_103 rfl rfl h32
    · refine z_bipush dX12_more_50 (x := (-9)) (by decide +kernel) ?_
      exact z_iret dX12_more_52 rfl rfl (by decide)
  · refine z_aload_n dX12_more_30 1 rfl ?_
    refine z_iload dX12_more_31 0 rfl ?_
    refine z_callV1 dX12_more_33 rfl (ct_X12_refuse n s0 m hs0) zc_X12 lm_0 k_1194 k_1196 kp_37 k_10 k_1197 zn_X12_refuse ⟨rfl, rfl, Nat.le_of_ble_eq_true rfl, Nat.le_of_ble_eq_true rfl⟩ (Nat.le_of_ble_eq_true rfl) rfl (fun v34 m35 h36 ho37 => ?_)
    exact z_iret dX12_more_36 rfl rfl h36
set_option maxRecDepth 20000 in
theorem ct_X12_more {ad sc sv : Nat → Nat} (n : Nat) (a0 : Int) (a1 : Int) (a2 : Int) (m : ZMem) (ha0 : R32 a0) (ha1 : R32 a1) (ha2 : R32 a2) : zCT LM ad sc sv M_X12_more yX12_more [.ref (ad 0), .int (mI a0), .int (mI a1), .int (mI a2)] m (F_X12_more n a0 a1 a2 m) := by
  refine zCT_of (lv := [(0, .ref (ad 0)), (1, .int (mI a0)), (2, .int (mI a1)), (3, .int (mI a2))]) (by decide) rfl (Nat.le_of_ble_eq_true rfl) rfl ?_
  unfold F_X12_more
  refine z_aload_n dX12_more_0 0 rfl ?_
  refine z_iconst dX12_more_1 ?_
  refine z_putI dX12_more_2 (k := 16) zc_X12 lm_0 rfl (by decide) rfl rfl (by decide) k_1054 ?_
  refine z_aload_n dX12_more_5 0 rfl ?_
  refine z_iload_n dX12_more_6 3 rfl ?_
  refine z_callV4 dX12_more_7 rfl (ct_X12_isPart n a2 (wr m 0 16 0) ha2) zc_X12 lm_0 k_1256 k_1258 kp_50 k_10 k_1259 zn_X12_isPart ⟨rfl, rfl, Nat.le_of_ble_eq_true rfl, Nat.le_of_ble_eq_true rfl⟩ (Nat.le_of_ble_eq_true rfl) rfl (fun v1 m2 h3 ho4 => ?_)
  refine z_if_eq dX12_more_10 (zb01 h3) (tgt := 22) rfl (fun h5 => ?_) (fun h5 => ?_)
  · refine z_iconst dX12_more_22 ?_
    exact zG_lvk (T_X12_more_23 n a0 a1 a2 (-1) m2 ha0 ha1 ha2 (by decide)) [0, 1, 2, 3] rfl
  · refine z_aload_n dX12_more_13 0 rfl ?_
    refine z_iload_n dX12_more_14 1 rfl ?_
    refine z_iload_n dX12_more_15 2 rfl ?_
    refine z_callV1 dX12_more_16 rfl (ct_X12_wrongMistake n a0 a1 m2 ha0 ha1) zc_X12 lm_0 k_1474 k_1476 kp_73 k_10 k_1477 zn_X12_wrongMistake ⟨rfl, rfl, Nat.le_of_ble_eq_true rfl, Nat.le_of_ble_eq_true rfl⟩ (Nat.le_of_ble_eq_true rfl) rfl (fun v6 m7 h8 ho9 => ?_)
    refine z_goto dX12_more_19 (tgt := 23) rfl ?_
    exact zG_lvk (T_X12_more_23 n a0 a1 a2 v6 m7 ha0 ha1 ha2 h8) [0, 1, 2, 3] rfl
set_option maxRecDepth 20000 in
theorem T_X12_lots_127 {ad sc sv : Nat → Nat} (n : Nat) (r58 : Int → Int → Int → Int → Int → ZMem → ZR) (r68 : Int → Int → Int → Int → Int → Int → ZMem → ZR) (hr58 : ∀ (x1 : Int) (x2 : Int) (x4 : Int) (x5 : Int) (x6 : Int) (m : ZMem), R32 x1 → R32 x2 → R32 x4 → R32 x5 → R32 x6 → zG LM ad sc sv M_X12_lots 58 [(0, .ref (ad 0)), (1, .int (mI x1)), (2, .int (mI x2)), (4, .int (mI x4)), (5, .int (mI x5)), (6, .int (mI x6))] [] m (r58 x1 x2 x4 x5 x6 m)) (hr68 : ∀ (x1 : Int) (x2 : Int) (x4 : Int) (x5 : Int) (x6 : Int) (x7 : Int) (m : ZMem), R32 x1 → R32 x2 → R32 x4 → R32 x5 → R32 x6 → R32 x7 → zG LM ad sc sv M_X12_lots 68 [(0, .ref (ad 0)), (1, .int (mI x1)), (2, .int (mI x2)), (4, .int (mI x4)), (5, .int (mI x5)), (6, .int (mI x6)), (7, .int (mI x7))] [] m (r68 x1 x2 x4 x5 x6 x7 m)) : ∀ (x1 : Int) (x2 : Int) (x4 : Int) (x5 : Int) (x6 : Int) (x7 : Int) (x9 : Int) (s0 : Int) (m : ZMem), R32 x1 → R32 x2 → R32 x4 → R32 x5 → R32 x6 → R32 x7 → R32 x9 → R32 s0 → zG LM ad sc sv M_X12_lots 127 [(0, .ref (ad 0)), (1, .int (mI x1)), (2, .int (mI x2)), (4, .int (mI x4)), (5, .int (mI x5)), (6, .int (mI x6)), (7, .int (mI x7)), (9, .int (mI x9))] [.int (mI s0)] m (B_X12_lots_127 n r58 r68 x1 x2 x4 x5 x6 x7 x9 s0 m) := by
  intro x1 x2 x4 x5 x6 x7 x9 s0 m hx1 hx2 hx4 hx5 hx6 hx7 hx9 hs0
  unfold B_X12_lots_127
  refine z_istore dX12_lots_127 (lv' := [(10, .int (mI s0)), (0, .ref (ad 0)), (1, .int (mI x1)), (2, .int (mI x2)), (4, .int (mI x4)), (5, .int (mI x5)), (6, .int (mI x6)), (7, .int (mI x7)), (9, .int (mI x9))]) (by decide) rfl ?_
  refine z_iload dX12_lots_129 0 rfl ?_
  refine z_if_eq dX12_lots_131 hs0 (tgt := 145) rfl (fun h35 => ?_) (fun h35 => ?_)
  · refine z_iload dX12_lots_145 4 rfl ?_
    refine z_istore dX12_lots_147 (lv' := [(4, .int (mI x4)), (10, .int (mI s0)), (0, .ref (ad 0)), (1, .int (mI x1)), (2, .int (mI x2)), (5, .int (mI x5)), (6, .int (mI x6)), (7, .int (mI x7)), (9, .int (mI x9))]) (by decide) rfl ?_
    refine z_iload dX12_lots_149 1 rfl ?_
    refine z_if_eq dX12_lots_151 hs0 (tgt := 159) rfl (fun h36 => ?_) (fun h36 => ?_)
    · refine z_iload dX12_lots_159 5 rfl ?_
      refine z_istore dX12_lots_161 (lv' := [(5, .int (mI x5)), (4, .int (mI x4)), (10, .int (mI s0)), (0, .ref (ad 0)), (1, .int (mI x1)), (2, .int (mI x2)), (6, .int (mI x6)), (7, .int (mI x7)), (9, .int (mI x9))]) (by decide) rfl ?_
      refine z_iinc dX12_lots_163 (lv' := [(7, .int (mI (x7 + 1))), (5, .int (mI x5)), (4, .int (mI x4)), (10, .int (mI s0)), (0, .ref (ad 0)), (1, .int (mI x1)), (2, .int (mI x2)), (6, .int (mI x6)), (9, .int (mI x9))]) 7 rfl (by decide) rfl (fun h37 => ?_)
      refine z_goto dX12_lots_166 (tgt := 68) rfl ?_
      exact zG_lvk (hr68 x1 x2 x4 x5 x6 (x7 + 1) m hx1 hx2 hx4 hx5 hx6 h37) [4, 5, 6, 2, 1, 7, 0] rfl
    · refine z_iload dX12_lots_154 8 rfl ?_
      refine z_goto dX12_lots_156 (tgt := 161) rfl ?_
      refine z_istore dX12_lots_161 (lv' := [(5, .int (mI x9)), (4, .int (mI x4)), (10, .int (mI s0)), (0, .ref (ad 0)), (1, .int (mI x1)), (2, .int (mI x2)), (6, .int (mI x6)), (7, .int (mI x7)), (9, .int (mI x9))]) (by decide) rfl ?_
      refine z_iinc dX12_lots_163 (lv' := [(7, .int (mI (x7 + 1))), (5, .int (mI x9)), (4, .int (mI x4)), (10, .int (mI s0)), (0, .ref (ad 0)), (1, .int (mI x1)), (2, .int (mI x2)), (6, .int (mI x6)), (9, .int (mI x9))]) 7 rfl (by decide) rfl (fun h38 => ?_)
      refine z_goto dX12_lots_166 (tgt := 68) rfl ?_
      exact zG_lvk (hr68 x1 x2 x4 x9 x6 (x7 + 1) m hx1 hx2 hx4 hx9 hx6 h38) [4, 5, 6, 2, 1, 7, 0] rfl
  · refine z_bipush dX12_lots_134 (x := 100) (by decide +kernel) ?_
    refine z_iload dX12_lots_136 6 rfl ?_
    refine z_imul dX12_lots_138 (fun h39 => ?_)
    refine z_iload dX12_lots_139 7 rfl ?_
    refine z_iadd dX12_lots_141 (fun h40 => ?_)
    refine z_goto dX12_lots_142 (tgt := 147) rfl ?_
    refine z_istore dX12_lots_147 (lv' := [(4, .int (mI ((100 * x6) + x7))), (10, .int (mI s0)), (0, .ref (ad 0)), (1, .int (mI x1)), (2, .int (mI x2)), (5, .int (mI x5)), (6, .int (mI x6)), (7, .int (mI x7)), (9, .int (mI x9))]) (by decide) rfl ?_
    refine z_iload dX12_lots_149 1 rfl ?_
    refine z_if_eq dX12_lots_151 hs0 (tgt := 159) rfl (fun h41 => ?_) (fun h41 => ?_)
    · refine z_iload dX12_lots_159 5 rfl ?_
      refine z_istore dX12_lots_161 (lv' := [(5, .int (mI x5)), (4, .int (mI ((100 * x6) + x7))), (10, .int (mI s0)), (0, .ref (ad 0)), (1, .int (mI x1)), (2, .int (mI x2)), (6, .int (mI x6)), (7, .int (mI x7)), (9, .int (mI x9))]) (by decide) rfl ?_
      refine z_iinc dX12_lots_163 (lv' := [(7, .int (mI (x7 + 1))), (5, .int (mI x5)), (4, .int (mI ((100 * x6) + x7))), (10, .int (mI s0)), (0, .ref (ad 0)), (1, .int (mI x1)), (2, .int (mI x2)), (6, .int (mI x6)), (9, .int (mI x9))]) 7 rfl (by decide) rfl (fun h42 => ?_)
      refine z_goto dX12_lots_166 (tgt := 68) rfl ?_
      exact zG_lvk (hr68 x1 x2 ((100 * x6) + x7) x5 x6 (x7 + 1) m hx1 hx2 h40 hx5 hx6 h42) [4, 5, 6, 2, 1, 7, 0] rfl
    · refine z_iload dX12_lots_154 8 rfl ?_
      refine z_goto dX12_lots_156 (tgt := 161) rfl ?_
      refine z_istore dX12_lots_161 (lv' := [(5, .int (mI x9)), (4, .int (mI ((100 * x6) + x7))), (10, .int (mI s0)), (0, .ref (ad 0)), (1, .int (mI x1)), (2, .int (mI x2)), (6, .int (mI x6)), (7, .int (mI x7)), (9, .int (mI x9))]) (by decide) rfl ?_
      refine z_iinc dX12_lots_163 (lv' := [(7, .int (mI (x7 + 1))), (5, .int (mI x9)), (4, .int (mI ((100 * x6) + x7))), (10, .int (mI s0)), (0, .ref (ad 0)), (1, .int (mI x1)), (2, .int (mI x2)), (6, .int (mI x6)), (9, .int (mI x9))]) 7 rfl (by decide) rfl (fun h43 => ?_)
      refine z_goto dX12_lots_166 (tgt := 68) rfl ?_
      exact zG_lvk (hr68 x1 x2 ((100 * x6) + x7) x9 x6 (x7 + 1) m hx1 hx2 h40 hx9 hx6 h43) [4, 5, 6, 2, 1, 7, 0] rfl
set_option maxRecDepth 20000 in
theorem T_X12_lots_68 {ad sc sv : Nat → Nat} (n : Nat) (r58 : Int → Int → Int → Int → Int → ZMem → ZR) (r68 : Int → Int → Int → Int → Int → Int → ZMem → ZR) (hr58 : ∀ (x1 : Int) (x2 : Int) (x4 : Int) (x5 : Int) (x6 : Int) (m : ZMem), R32 x1 → R32 x2 → R32 x4 → R32 x5 → R32 x6 → zG LM ad sc sv M_X12_lots 58 [(0, .ref (ad 0)), (1, .int (mI x1)), (2, .int (mI x2)), (4, .int (mI x4)), (5, .int (mI x5)), (6, .int (mI x6))] [] m (r58 x1 x2 x4 x5 x6 m)) (hr68 : ∀ (x1 : Int) (x2 : Int) (x4 : Int) (x5 : Int) (x6 : Int) (x7 : Int) (m : ZMem), R32 x1 → R32 x2 → R32 x4 → R32 x5 → R32 x6 → R32 x7 → zG LM ad sc sv M_X12_lots 68 [(0, .ref (ad 0)), (1, .int (mI x1)), (2, .int (mI x2)), (4, .int (mI x4)), (5, .int (mI x5)), (6, .int (mI x6)), (7, .int (mI x7))] [] m (r68 x1 x2 x4 x5 x6 x7 m)) : ∀ (x1 : Int) (x2 : Int) (x4 : Int) (x5 : Int) (x6 : Int) (x7 : Int) (m : ZMem), R32 x1 → R32 x2 → R32 x4 → R32 x5 → R32 x6 → R32 x7 → zG LM ad sc sv M_X12_lots 68 [(0, .ref (ad 0)), (1, .int (mI x1)), (2, .int (mI x2)), (4, .int (mI x4)), (5, .int (mI x5)), (6, .int (mI x6)), (7, .int (mI x7))] [] m (B_X12_lots_68 n r58 r68 x1 x2 x4 x5 x6 x7 m) := by
  intro x1 x2 x4 x5 x6 x7 m hx1 hx2 hx4 hx5 hx6 hx7
  unfold B_X12_lots_68
  refine z_iload dX12_lots_68 6 rfl ?_
  refine z_bipush dX12_lots_70 (x := 24) (by decide +kernel) ?_
  refine z_icmp_gt dX12_lots_72 hx7 (by decide) (tgt := 169) rfl (fun h22 => ?_) (fun h22 => ?_)
  · refine z_iinc dX12_lots_169 (lv' := [(6, .int (mI (x6 + 1))), (0, .ref (ad 0)), (1, .int (mI x1)), (2, .int (mI x2)), (4, .int (mI x4)), (5, .int (mI x5)), (7, .int (mI x7))]) 5 rfl (by decide) rfl (fun h23 => ?_)
    refine z_goto dX12_lots_172 (tgt := 58) rfl ?_
    exact zG_lvk (hr58 x1 x2 x4 x5 (x6 + 1) m hx1 hx2 hx4 hx5 h23) [1, 2, 3, 4, 5, 0] rfl
  · refine z_iload dX12_lots_75 5 rfl ?_
    refine z_iload_n dX12_lots_77 1 rfl ?_
    refine z_imul dX12_lots_78 (fun h24 => ?_)
    refine z_iload dX12_lots_79 6 rfl ?_
    refine z_iload_n dX12_lots_81 2 rfl ?_
    refine z_imul dX12_lots_82 (fun h25 => ?_)
    refine z_iadd dX12_lots_83 (fun h26 => ?_)
    refine z_aload_n dX12_lots_84 0 rfl ?_
    refine z_getI dX12_lots_85 (k := 1) zc_X12 lm_0 rfl (by decide) k_1039 (fun h27 => ?_)
    refine z_isub dX12_lots_88 (fun h28 => ?_)
    refine z_istore dX12_lots_89 (lv' := [(8, .int (mI (((x6 * x1) + (x7 * x2)) - (m 0 1)))), (0, .ref (ad 0)), (1, .int (mI x1)), (2, .int (mI x2)), (4, .int (mI x4)), (5, .int (mI x5)), (6, .int (mI x6)), (7, .int (mI x7))]) (by decide) rfl ?_
    refine z_sipush dX12_lots_91 (x := 1000) (by decide +kernel) ?_
    refine z_iload dX12_lots_94 0 rfl ?_
    refine z_imul dX12_lots_96 (fun h29 => ?_)
    refine z_iload dX12_lots_97 6 rfl ?_
    refine z_iadd dX12_lots_99 (fun h30 => ?_)
    refine z_iload dX12_lots_100 7 rfl ?_
    refine z_iadd dX12_lots_102 (fun h31 => ?_)
    refine z_istore dX12_lots_103 (lv' := [(9, .int (mI (((1000 * (((x6 * x1) + (x7 * x2)) - (m 0 1))) + x6) + x7))), (8, .int (mI (((x6 * x1) + (x7 * x2)) - (m 0 1)))), (0, .ref (ad 0)), (1, .int (mI x1)), (2, .int (mI x2)), (4, .int (mI x4)), (5, .int (mI x5)), (6, .int (mI x6)), (7, .int (mI x7))]) (by decide) rfl ?_
    refine z_iload dX12_lots_105 1 rfl ?_
    refine z_if_lt dX12_lots_107 h28 (tgt := 126) rfl (fun h32 => ?_) (fun h32 => ?_)
    · refine z_iconst dX12_lots_126 ?_
      exact zG_lvk (T_X12_lots_127 n r58 r68 hr58 hr68 x1 x2 x4 x5 x6 x7 (((1000 * (((x6 * x1) + (x7 * x2)) - (m 0 1))) + x6) + x7) 0 m hx1 hx2 hx4 hx5 hx6 hx7 h31 (by decide)) [2, 3, 4, 5, 6, 7, 8, 0] rfl
    · refine z_iload dX12_lots_110 5 rfl ?_
      refine z_if_lt dX12_lots_112 hx4 (tgt := 122) rfl (fun h33 => ?_) (fun h33 => ?_)
      · refine z_iconst dX12_lots_122 ?_
        refine z_goto dX12_lots_123 (tgt := 127) rfl ?_
        exact zG_lvk (T_X12_lots_127 n r58 r68 hr58 hr68 x1 x2 x4 x5 x6 x7 (((1000 * (((x6 * x1) + (x7 * x2)) - (m 0 1))) + x6) + x7) 1 m hx1 hx2 hx4 hx5 hx6 hx7 h31 (by decide)) [2, 3, 4, 5, 6, 7, 8, 0] rfl
      · refine z_iload dX12_lots_115 0 rfl ?_
        refine z_iload dX12_lots_117 6 rfl ?_
        refine z_icmp_ge dX12_lots_119 h31 hx5 (tgt := 126) rfl (fun h34 => ?_) (fun h34 => ?_)
        · refine z_iconst dX12_lots_126 ?_
          exact zG_lvk (T_X12_lots_127 n r58 r68 hr58 hr68 x1 x2 x4 x5 x6 x7 (((1000 * (((x6 * x1) + (x7 * x2)) - (m 0 1))) + x6) + x7) 0 m hx1 hx2 hx4 hx5 hx6 hx7 h31 (by decide)) [2, 3, 4, 5, 6, 7, 8, 0] rfl
        · refine z_iconst dX12_lots_122 ?_
          refine z_goto dX12_lots_123 (tgt := 127) rfl ?_
          exact zG_lvk (T_X12_lots_127 n r58 r68 hr58 hr68 x1 x2 x4 x5 x6 x7 (((1000 * (((x6 * x1) + (x7 * x2)) - (m 0 1))) + x6) + x7) 1 m hx1 hx2 hx4 hx5 hx6 hx7 h31 (by decide)) [2, 3, 4, 5, 6, 7, 8, 0] rfl
theorem TL_X12_lots_68 {ad sc sv : Nat → Nat} (n : Nat) (r58 : Int → Int → Int → Int → Int → ZMem → ZR) (hr58 : ∀ (x1 : Int) (x2 : Int) (x4 : Int) (x5 : Int) (x6 : Int) (m : ZMem), R32 x1 → R32 x2 → R32 x4 → R32 x5 → R32 x6 → zG LM ad sc sv M_X12_lots 58 [(0, .ref (ad 0)), (1, .int (mI x1)), (2, .int (mI x2)), (4, .int (mI x4)), (5, .int (mI x5)), (6, .int (mI x6))] [] m (r58 x1 x2 x4 x5 x6 m)) : ∀ q : Nat, ∀ (x1 : Int) (x2 : Int) (x4 : Int) (x5 : Int) (x6 : Int) (x7 : Int) (m : ZMem), R32 x1 → R32 x2 → R32 x4 → R32 x5 → R32 x6 → R32 x7 → zG LM ad sc sv M_X12_lots 68 [(0, .ref (ad 0)), (1, .int (mI x1)), (2, .int (mI x2)), (4, .int (mI x4)), (5, .int (mI x5)), (6, .int (mI x6)), (7, .int (mI x7))] [] m (L_X12_lots_68 n r58 q x1 x2 x4 x5 x6 x7 m) := by
  intro q
  induction q with
  | zero => intros; exact zG_none
  | succ q ih => exact T_X12_lots_68 n r58 (L_X12_lots_68 n r58 q) hr58 ih
set_option maxRecDepth 20000 in
theorem T_X12_lots_58 {ad sc sv : Nat → Nat} (n : Nat) (r58 : Int → Int → Int → Int → Int → ZMem → ZR) (hr58 : ∀ (x1 : Int) (x2 : Int) (x4 : Int) (x5 : Int) (x6 : Int) (m : ZMem), R32 x1 → R32 x2 → R32 x4 → R32 x5 → R32 x6 → zG LM ad sc sv M_X12_lots 58 [(0, .ref (ad 0)), (1, .int (mI x1)), (2, .int (mI x2)), (4, .int (mI x4)), (5, .int (mI x5)), (6, .int (mI x6))] [] m (r58 x1 x2 x4 x5 x6 m)) : ∀ (x1 : Int) (x2 : Int) (x4 : Int) (x5 : Int) (x6 : Int) (m : ZMem), R32 x1 → R32 x2 → R32 x4 → R32 x5 → R32 x6 → zG LM ad sc sv M_X12_lots 58 [(0, .ref (ad 0)), (1, .int (mI x1)), (2, .int (mI x2)), (4, .int (mI x4)), (5, .int (mI x5)), (6, .int (mI x6))] [] m (B_X12_lots_58 n r58 x1 x2 x4 x5 x6 m) := by
  intro x1 x2 x4 x5 x6 m hx1 hx2 hx4 hx5 hx6
  unfold B_X12_lots_58
  refine z_iload dX12_lots_58 5 rfl ?_
  refine z_bipush dX12_lots_60 (x := 24) (by decide +kernel) ?_
  refine z_icmp_gt dX12_lots_62 hx6 (by decide) (tgt := 175) rfl (fun h21 => ?_) (fun h21 => ?_)
  · refine z_iload dX12_lots_175 3 rfl ?_
    exact z_iret dX12_lots_177 rfl rfl hx4
  · refine z_iconst dX12_lots_65 ?_
    refine z_istore dX12_lots_66 (lv' := [(7, .int (mI 0)), (0, .ref (ad 0)), (1, .int (mI x1)), (2, .int (mI x2)), (4, .int (mI x4)), (5, .int (mI x5)), (6, .int (mI x6))]) (by decide) rfl ?_
    exact zG_lvk (TL_X12_lots_68 n r58 hr58 n x1 x2 x4 x5 x6 0 m hx1 hx2 hx4 hx5 hx6 (by decide)) [1, 2, 3, 4, 5, 6, 0] rfl
theorem TL_X12_lots_58 {ad sc sv : Nat → Nat} (n : Nat) : ∀ q : Nat, ∀ (x1 : Int) (x2 : Int) (x4 : Int) (x5 : Int) (x6 : Int) (m : ZMem), R32 x1 → R32 x2 → R32 x4 → R32 x5 → R32 x6 → zG LM ad sc sv M_X12_lots 58 [(0, .ref (ad 0)), (1, .int (mI x1)), (2, .int (mI x2)), (4, .int (mI x4)), (5, .int (mI x5)), (6, .int (mI x6))] [] m (L_X12_lots_58 n q x1 x2 x4 x5 x6 m) := by
  intro q
  induction q with
  | zero => intros; exact zG_none
  | succ q ih => exact T_X12_lots_58 n (L_X12_lots_58 n q) ih
set_option maxRecDepth 20000 in
theorem ct_X12_lots {ad sc sv : Nat → Nat} (n : Nat) (a0 : Int) (a1 : Int) (m : ZMem) (ha0 : R32 a0) (ha1 : R32 a1) : zCT LM ad sc sv M_X12_lots yX12_lots [.ref (ad 0), .int (mI a0), .int (mI a1)] m (F_X12_lots n a0 a1 m) := by
  refine zCT_of (lv := [(0, .ref (ad 0)), (1, .int (mI a0)), (2, .int (mI a1))]) (by decide) rfl (Nat.le_of_ble_eq_true rfl) rfl ?_
  unfold F_X12_lots
  refine z_aload_n dX12_lots_0 0 rfl ?_
  refine z_iconst dX12_lots_1 ?_
  refine z_putI dX12_lots_2 (k := 16) zc_X12 lm_0 rfl (by decide) rfl rfl (by decide) k_1054 ?_
  refine z_iload_n dX12_lots_5 1 rfl ?_
  refine z_iconst dX12_lots_6 ?_
  refine z_icmp_lt dX12_lots_7 ha0 (by decide) (tgt := 15) rfl (fun h1 => ?_) (fun h1 => ?_)
  · refine z_bipush dX12_lots_15 (x := (-4)) (by decide +kernel) ?_
    refine z_goto dX12_lots_17 (tgt := 38) rfl ?_
    refine z_istore_n dX12_lots_38 (lv' := [(3, .int (mI (-4))), (0, .ref (ad 0)), (1, .int (mI a0)), (2, .int (mI a1))]) (by decide) rfl ?_
    refine z_iload_n dX12_lots_39 0 rfl ?_
    refine z_if_ge_f dX12_lots_40 (by decide) (by decide) (tgt := 49) rfl ?_
    refine z_aload_n dX12_lots_43 1 rfl ?_
    refine z_iload_n dX12_lots_44 0 rfl ?_
    refine z_callV1 dX12_lots_45 rfl (ct_X12_refuse n (-4) (wr m 0 16 0) (by decide)) zc_X12 lm_0 k_1194 k_1196 kp_37 k_10 k_1197 zn_X12_refuse ⟨rfl, rfl, Nat.le_of_ble_eq_true rfl, Nat.le_of_ble_eq_true rfl⟩ (Nat.le_of_ble_eq_true rfl) rfl (fun v2 m3 h4 ho5 => ?_)
    exact z_iret dX12_lots_48 rfl rfl h4
  · refine z_iload_n dX12_lots_10 2 rfl ?_
    refine z_iconst dX12_lots_11 ?_
    refine z_icmp_ge dX12_lots_12 ha1 (by decide) (tgt := 20) rfl (fun h6 => ?_) (fun h6 => ?_)
    · refine z_iload_n dX12_lots_20 1 rfl ?_
      refine z_bipush dX12_lots_21 (x := 24) (by decide +kernel) ?_
      refine z_icmp_gt dX12_lots_23 ha0 (by decide) (tgt := 32) rfl (fun h7 => ?_) (fun h7 => ?_)
      · refine z_bipush dX12_lots_32 (x := (-6)) (by decide +kernel) ?_
        refine z_goto dX12_lots_34 (tgt := 38) rfl ?_
        refine z_istore_n dX12_lots_38 (lv' := [(3, .int (mI (-6))), (0, .ref (ad 0)), (1, .int (mI a0)), (2, .int (mI a1))]) (by decide) rfl ?_
        refine z_iload_n dX12_lots_39 0 rfl ?_
        refine z_if_ge_f dX12_lots_40 (by decide) (by decide) (tgt := 49) rfl ?_
        refine z_aload_n dX12_lots_43 1 rfl ?_
        refine z_iload_n dX12_lots_44 0 rfl ?_
        refine z_callV1 dX12_lots_45 rfl (ct_X12_refuse n (-6) (wr m 0 16 0) (by decide)) zc_X12 lm_0 k_1194 k_1196 kp_37 k_10 k_1197 zn_X12_refuse ⟨rfl, rfl, Nat.le_of_ble_eq_true rfl, Nat.le_of_ble_eq_true rfl⟩ (Nat.le_of_ble_eq_true rfl) rfl (fun v8 m9 h10 ho11 => ?_)
        exact z_iret dX12_lots_48 rfl rfl h10
      · refine z_iload_n dX12_lots_26 2 rfl ?_
        refine z_bipush dX12_lots_27 (x := 24) (by decide +kernel) ?_
        refine z_icmp_le dX12_lots_29 ha1 (by decide) (tgt := 37) rfl (fun h12 => ?_) (fun h12 => ?_)
        · refine z_iconst dX12_lots_37 ?_
          refine z_istore_n dX12_lots_38 (lv' := [(3, .int (mI 0)), (0, .ref (ad 0)), (1, .int (mI a0)), (2, .int (mI a1))]) (by decide) rfl ?_
          refine z_iload_n dX12_lots_39 0 rfl ?_
          refine z_if_ge_t dX12_lots_40 (by decide) (by decide) (tgt := 49) rfl ?_
          refine z_iconst dX12_lots_49 ?_
          refine z_istore dX12_lots_50 (lv' := [(4, .int (mI (-1))), (3, .int (mI 0)), (0, .ref (ad 0)), (1, .int (mI a0)), (2, .int (mI a1))]) (by decide) rfl ?_
          refine z_iconst dX12_lots_52 ?_
          refine z_istore dX12_lots_53 (lv' := [(5, .int (mI 0)), (4, .int (mI (-1))), (3, .int (mI 0)), (0, .ref (ad 0)), (1, .int (mI a0)), (2, .int (mI a1))]) (by decide) rfl ?_
          refine z_iconst dX12_lots_55 ?_
          refine z_istore dX12_lots_56 (lv' := [(6, .int (mI 0)), (5, .int (mI 0)), (4, .int (mI (-1))), (3, .int (mI 0)), (0, .ref (ad 0)), (1, .int (mI a0)), (2, .int (mI a1))]) (by decide) rfl ?_
          exact zG_lvk (TL_X12_lots_58 n n a0 a1 (-1) 0 0 (wr m 0 16 0) ha0 ha1 (by decide) (by decide) (by decide)) [4, 5, 6, 2, 1, 0] rfl
        · refine z_bipush dX12_lots_32 (x := (-6)) (by decide +kernel) ?_
          refine z_goto dX12_lots_34 (tgt := 38) rfl ?_
          refine z_istore_n dX12_lots_38 (lv' := [(3, .int (mI (-6))), (0, .ref (ad 0)), (1, .int (mI a0)), (2, .int (mI a1))]) (by decide) rfl ?_
          refine z_iload_n dX12_lots_39 0 rfl ?_
          refine z_if_ge_f dX12_lots_40 (by decide) (by decide) (tgt := 49) rfl ?_
          refine z_aload_n dX12_lots_43 1 rfl ?_
          refine z_iload_n dX12_lots_44 0 rfl ?_
          refine z_callV1 dX12_lots_45 rfl (ct_X12_refuse n (-6) (wr m 0 16 0) (by decide)) zc_X12 lm_0 k_1194 k_1196 kp_37 k_10 k_1197 zn_X12_refuse ⟨rfl, rfl, Nat.le_of_ble_eq_true rfl, Nat.le_of_ble_eq_true rfl⟩ (Nat.le_of_ble_eq_true rfl) rfl (fun v13 m14 h15 ho16 => ?_)
          exact z_iret dX12_lots_48 rfl rfl h15
    · refine z_bipush dX12_lots_15 (x := (-4)) (by decide +kernel) ?_
      refine z_goto dX12_lots_17 (tgt := 38) rfl ?_
      refine z_istore_n dX12_lots_38 (lv' := [(3, .int (mI (-4))), (0, .ref (ad 0)), (1, .int (mI a0)), (2, .int (mI a1))]) (by decide) rfl ?_
      refine z_iload_n dX12_lots_39 0 rfl ?_
      refine z_if_ge_f dX12_lots_40 (by decide) (by decide) (tgt := 49) rfl ?_
      refine z_aload_n dX12_lots_43 1 rfl ?_
      refine z_iload_n dX12_lots_44 0 rfl ?_
      refine z_callV1 dX12_lots_45 rfl (ct_X12_refuse n (-4) (wr m 0 16 0) (by decide)) zc_X12 lm_0 k_1194 k_1196 kp_37 k_10 k_1197 zn_X12_refuse ⟨rfl, rfl, Nat.le_of_ble_eq_true rfl, Nat.le_of_ble_eq_true rfl⟩ (Nat.le_of_ble_eq_true rfl) rfl (fun v17 m18 h19 ho20 => ?_)
      exact z_iret dX12_lots_48 rfl rfl h19
set_option maxRecDepth 20000 in
theorem T_X12_used_18 {ad sc sv : Nat → Nat} (n : Nat) (r10 : Int → Int → ZMem → ZR) (r18 : Int → Int → Int → ZMem → ZR) (hr10 : ∀ (x1 : Int) (x2 : Int) (m : ZMem), R32 x1 → R32 x2 → zG LM ad sc sv M_X12_used 10 [(0, .ref (ad 0)), (1, .int (mI x1)), (2, .int (mI x2))] [] m (r10 x1 x2 m)) (hr18 : ∀ (x1 : Int) (x2 : Int) (x3 : Int) (m : ZMem), R32 x1 → R32 x2 → R32 x3 → zG LM ad sc sv M_X12_used 18 [(0, .ref (ad 0)), (1, .int (mI x1)), (2, .int (mI x2)), (3, .int (mI x3))] [] m (r18 x1 x2 x3 m)) : ∀ (x1 : Int) (x2 : Int) (x3 : Int) (m : ZMem), R32 x1 → R32 x2 → R32 x3 → zG LM ad sc sv M_X12_used 18 [(0, .ref (ad 0)), (1, .int (mI x1)), (2, .int (mI x2)), (3, .int (mI x3))] [] m (B_X12_used_18 n r10 r18 x1 x2 x3 m) := by
  intro x1 x2 x3 m hx1 hx2 hx3
  unfold B_X12_used_18
  refine z_iload_n dX12_used_18 3 rfl ?_
  refine z_aload_n dX12_used_19 0 rfl ?_
  refine z_getI dX12_used_20 (k := 2) zc_X12 lm_0 rfl (by decide) k_1040 (fun h2 => ?_)
  refine z_icmp_ge dX12_used_23 hx3 h2 (tgt := 66) rfl (fun h3 => ?_) (fun h3 => ?_)
  · refine z_iload_n dX12_used_66 1 rfl ?_
    refine z_iload_n dX12_used_67 2 rfl ?_
    refine z_if_eq dX12_used_68 hx2 (tgt := 75) rfl (fun h4 => ?_) (fun h4 => ?_)
    · refine z_iconst dX12_used_75 ?_
      refine z_isub dX12_used_76 (fun h5 => ?_)
      refine z_istore_n dX12_used_77 (lv' := [(1, .int (mI (x1 - 1))), (0, .ref (ad 0)), (2, .int (mI x2)), (3, .int (mI x3))]) (by decide) rfl ?_
      refine z_goto dX12_used_78 (tgt := 10) rfl ?_
      exact zG_lvk (hr10 (x1 - 1) x2 m h5 hx2) [1, 0, 2] rfl
    · refine z_iconst dX12_used_71 ?_
      refine z_goto dX12_used_72 (tgt := 76) rfl ?_
      refine z_isub dX12_used_76 (fun h6 => ?_)
      refine z_istore_n dX12_used_77 (lv' := [(1, .int (mI (x1 - 0))), (0, .ref (ad 0)), (2, .int (mI x2)), (3, .int (mI x3))]) (by decide) rfl ?_
      refine z_goto dX12_used_78 (tgt := 10) rfl ?_
      exact zG_lvk (hr10 (x1 - 0) x2 m h6 hx2) [1, 0, 2] rfl
  · refine z_iload_n dX12_used_26 2 rfl ?_
    refine z_if_eq dX12_used_27 hx2 (tgt := 58) rfl (fun h7 => ?_) (fun h7 => ?_)
    · refine z_iconst dX12_used_58 ?_
      refine z_istore_n dX12_used_59 (lv' := [(2, .int (mI 0)), (0, .ref (ad 0)), (1, .int (mI x1)), (3, .int (mI x3))]) (by decide) rfl ?_
      refine z_iinc dX12_used_60 (lv' := [(3, .int (mI (x3 + 1))), (2, .int (mI 0)), (0, .ref (ad 0)), (1, .int (mI x1))]) 3 rfl (by decide) rfl (fun h8 => ?_)
      refine z_goto dX12_used_63 (tgt := 18) rfl ?_
      exact zG_lvk (hr18 x1 0 (x3 + 1) m hx1 (by decide) h8) [2, 3, 1, 0] rfl
    · refine z_bipush dX12_used_30 (x := 12) (by decide +kernel) ?_
      refine z_aload_n dX12_used_32 0 rfl ?_
      refine z_getR dX12_used_33 (k := 10) (j := 4) zc_X12 lm_0 rfl (by decide) k_1048 ?_
      refine z_iload_n dX12_used_36 3 rfl ?_
      refine z_iaload dX12_used_37 hx3 (fun h9 => ?_)
      refine z_imul dX12_used_38 (fun h10 => ?_)
      refine z_iload_n dX12_used_39 1 rfl ?_
      refine z_imul dX12_used_40 (fun h11 => ?_)
      refine z_aload_n dX12_used_41 0 rfl ?_
      refine z_iload_n dX12_used_42 3 rfl ?_
      refine z_callV1 dX12_used_43 rfl (ct_X12_leftOf n x3 m hx3) zc_X12 lm_0 k_1310 k_1312 kp_57 k_10 k_1313 zn_X12_leftOf ⟨rfl, rfl, Nat.le_of_ble_eq_true rfl, Nat.le_of_ble_eq_true rfl⟩ (Nat.le_of_ble_eq_true rfl) rfl (fun v12 m13 h14 ho15 => ?_)
      refine z_aload_n dX12_used_46 0 rfl ?_
      refine z_getI dX12_used_47 (k := 0) zc_X12 lm_0 rfl (by decide) k_1038 (fun h16 => ?_)
      refine z_imul dX12_used_50 (fun h17 => ?_)
      refine z_icmp_gt dX12_used_51 h11 h17 (tgt := 58) rfl (fun h18 => ?_) (fun h18 => ?_)
      · refine z_iconst dX12_used_58 ?_
        refine z_istore_n dX12_used_59 (lv' := [(2, .int (mI 0)), (0, .ref (ad 0)), (1, .int (mI x1)), (3, .int (mI x3))]) (by decide) rfl ?_
        refine z_iinc dX12_used_60 (lv' := [(3, .int (mI (x3 + 1))), (2, .int (mI 0)), (0, .ref (ad 0)), (1, .int (mI x1))]) 3 rfl (by decide) rfl (fun h19 => ?_)
        refine z_goto dX12_used_63 (tgt := 18) rfl ?_
        exact zG_lvk (hr18 x1 0 (x3 + 1) m13 hx1 (by decide) h19) [2, 3, 1, 0] rfl
      · refine z_iconst dX12_used_54 ?_
        refine z_goto dX12_used_55 (tgt := 59) rfl ?_
        refine z_istore_n dX12_used_59 (lv' := [(2, .int (mI 1)), (0, .ref (ad 0)), (1, .int (mI x1)), (3, .int (mI x3))]) (by decide) rfl ?_
        refine z_iinc dX12_used_60 (lv' := [(3, .int (mI (x3 + 1))), (2, .int (mI 1)), (0, .ref (ad 0)), (1, .int (mI x1))]) 3 rfl (by decide) rfl (fun h20 => ?_)
        refine z_goto dX12_used_63 (tgt := 18) rfl ?_
        exact zG_lvk (hr18 x1 1 (x3 + 1) m13 hx1 (by decide) h20) [2, 3, 1, 0] rfl
theorem TL_X12_used_18 {ad sc sv : Nat → Nat} (n : Nat) (r10 : Int → Int → ZMem → ZR) (hr10 : ∀ (x1 : Int) (x2 : Int) (m : ZMem), R32 x1 → R32 x2 → zG LM ad sc sv M_X12_used 10 [(0, .ref (ad 0)), (1, .int (mI x1)), (2, .int (mI x2))] [] m (r10 x1 x2 m)) : ∀ q : Nat, ∀ (x1 : Int) (x2 : Int) (x3 : Int) (m : ZMem), R32 x1 → R32 x2 → R32 x3 → zG LM ad sc sv M_X12_used 18 [(0, .ref (ad 0)), (1, .int (mI x1)), (2, .int (mI x2)), (3, .int (mI x3))] [] m (L_X12_used_18 n r10 q x1 x2 x3 m) := by
  intro q
  induction q with
  | zero => intros; exact zG_none
  | succ q ih => exact T_X12_used_18 n r10 (L_X12_used_18 n r10 q) hr10 ih
set_option maxRecDepth 20000 in
theorem T_X12_used_10 {ad sc sv : Nat → Nat} (n : Nat) (r10 : Int → Int → ZMem → ZR) (hr10 : ∀ (x1 : Int) (x2 : Int) (m : ZMem), R32 x1 → R32 x2 → zG LM ad sc sv M_X12_used 10 [(0, .ref (ad 0)), (1, .int (mI x1)), (2, .int (mI x2))] [] m (r10 x1 x2 m)) : ∀ (x1 : Int) (x2 : Int) (m : ZMem), R32 x1 → R32 x2 → zG LM ad sc sv M_X12_used 10 [(0, .ref (ad 0)), (1, .int (mI x1)), (2, .int (mI x2))] [] m (B_X12_used_10 n r10 x1 x2 m) := by
  intro x1 x2 m hx1 hx2
  unfold B_X12_used_10
  refine z_iload_n dX12_used_10 2 rfl ?_
  refine z_if_ne dX12_used_11 hx2 (tgt := 81) rfl (fun h1 => ?_) (fun h1 => ?_)
  · refine z_iconst dX12_used_14 ?_
    refine z_istore_n dX12_used_15 (lv' := [(2, .int (mI 1)), (0, .ref (ad 0)), (1, .int (mI x1))]) (by decide) rfl ?_
    refine z_iconst dX12_used_16 ?_
    refine z_istore_n dX12_used_17 (lv' := [(3, .int (mI 0)), (2, .int (mI 1)), (0, .ref (ad 0)), (1, .int (mI x1))]) (by decide) rfl ?_
    exact zG_lvk (TL_X12_used_18 n r10 hr10 n x1 1 0 m hx1 (by decide) (by decide)) [2, 3, 1, 0] rfl
  · refine z_iload_n dX12_used_81 1 rfl ?_
    exact z_iret dX12_used_82 rfl rfl hx1
theorem TL_X12_used_10 {ad sc sv : Nat → Nat} (n : Nat) : ∀ q : Nat, ∀ (x1 : Int) (x2 : Int) (m : ZMem), R32 x1 → R32 x2 → zG LM ad sc sv M_X12_used 10 [(0, .ref (ad 0)), (1, .int (mI x1)), (2, .int (mI x2))] [] m (L_X12_used_10 n q x1 x2 m) := by
  intro q
  induction q with
  | zero => intros; exact zG_none
  | succ q ih => exact T_X12_used_10 n (L_X12_used_10 n q) ih
set_option maxRecDepth 20000 in
theorem ct_X12_used {ad sc sv : Nat → Nat} (n : Nat) (m : ZMem) : zCT LM ad sc sv M_X12_used yX12_used [.ref (ad 0)] m (F_X12_used n m) := by
  refine zCT_of (lv := [(0, .ref (ad 0))]) (by decide) rfl (Nat.le_of_ble_eq_true rfl) rfl ?_
  unfold F_X12_used
  refine z_aload_n dX12_used_0 0 rfl ?_
  refine z_iconst dX12_used_1 ?_
  refine z_putI dX12_used_2 (k := 16) zc_X12 lm_0 rfl (by decide) rfl rfl (by decide) k_1054 ?_
  refine z_bipush dX12_used_5 (x := 24) (by decide +kernel) ?_
  refine z_istore_n dX12_used_7 (lv' := [(1, .int (mI 24)), (0, .ref (ad 0))]) (by decide) rfl ?_
  refine z_iconst dX12_used_8 ?_
  refine z_istore_n dX12_used_9 (lv' := [(2, .int (mI 0)), (1, .int (mI 24)), (0, .ref (ad 0))]) (by decide) rfl ?_
  exact zG_lvk (TL_X12_used_10 n n 24 0 (wr m 0 16 0) (by decide) (by decide)) [2, 1, 0] rfl
set_option maxRecDepth 20000 in
theorem ct_X12_price {ad sc sv : Nat → Nat} (n : Nat) (a0 : Int) (a1 : Int) (m : ZMem) (ha0 : R32 a0) (ha1 : R32 a1) : zCT LM ad sc sv M_X12_price yX12_price [.ref (ad 0), .int (mI a0), .int (mI a1)] m (F_X12_price n a0 a1 m) := by
  refine zCT_of (lv := [(0, .ref (ad 0)), (1, .int (mI a0)), (2, .int (mI a1))]) (by decide) rfl (Nat.le_of_ble_eq_true rfl) rfl ?_
  unfold F_X12_price
  refine z_aload_n dX12_price_0 0 rfl ?_
  refine z_iconst dX12_price_1 ?_
  refine z_putI dX12_price_2 (k := 16) zc_X12 lm_0 rfl (by decide) rfl rfl (by decide) k_1054 ?_
  refine z_aload_n dX12_price_5 0 rfl ?_
  refine z_iload_n dX12_price_6 1 rfl ?_
  refine z_callV4 dX12_price_7 rfl (ct_X12_isPart n a0 (wr m 0 16 0) ha0) zc_X12 lm_0 k_1256 k_1258 kp_50 k_10 k_1259 zn_X12_isPart ⟨rfl, rfl, Nat.le_of_ble_eq_true rfl, Nat.le_of_ble_eq_true rfl⟩ (Nat.le_of_ble_eq_true rfl) rfl (fun v1 m2 h3 ho4 => ?_)
  refine z_if_eq dX12_price_10 (zb01 h3) (tgt := 23) rfl (fun h5 => ?_) (fun h5 => ?_)
  · refine z_iconst dX12_price_23 ?_
    refine z_istore_n dX12_price_24 (lv' := [(3, .int (mI (-1))), (0, .ref (ad 0)), (1, .int (mI a0)), (2, .int (mI a1))]) (by decide) rfl ?_
    refine z_iload_n dX12_price_25 0 rfl ?_
    refine z_if_ge_f dX12_price_26 (by decide) (by decide) (tgt := 35) rfl ?_
    refine z_aload_n dX12_price_29 1 rfl ?_
    refine z_iload_n dX12_price_30 0 rfl ?_
    refine z_callV1 dX12_price_31 rfl (ct_X12_refuse n (-1) m2 (by decide)) zc_X12 lm_0 k_1194 k_1196 kp_37 k_10 k_1197 zn_X12_refuse ⟨rfl, rfl, Nat.le_of_ble_eq_true rfl, Nat.le_of_ble_eq_true rfl⟩ (Nat.le_of_ble_eq_true rfl) rfl (fun v6 m7 h8 ho9 => ?_)
    exact z_iret dX12_price_34 rfl rfl h8
  · refine z_iload_n dX12_price_13 2 rfl ?_
    refine z_iconst dX12_price_14 ?_
    refine z_bipush dX12_price_15 (x := 99) (by decide +kernel) ?_
    refine z_callS1 dX12_price_17 rfl (ct_X12_wrongNumber n a1 0 99 m2 ha1 (by decide) (by decide)) k_1318 k_1319 k_10 k_1320 zn_X12_wrongNumber ⟨rfl, rfl, Nat.le_of_ble_eq_true rfl, Nat.le_of_ble_eq_true rfl⟩ (Nat.le_of_ble_eq_true rfl) rfl (fun v10 m11 h12 ho13 => ?_)
    refine z_goto dX12_price_20 (tgt := 24) rfl ?_
    refine z_istore_n dX12_price_24 (lv' := [(3, .int (mI v10)), (0, .ref (ad 0)), (1, .int (mI a0)), (2, .int (mI a1))]) (by decide) rfl ?_
    refine z_iload_n dX12_price_25 0 rfl ?_
    refine z_if_ge dX12_price_26 h12 (tgt := 35) rfl (fun h14 => ?_) (fun h14 => ?_)
    · refine z_aload_n dX12_price_35 1 rfl ?_
      refine z_getR dX12_price_36 (k := 38) (j := 21) zc_X12 lm_0 rfl (by decide) k_1076 ?_
      refine z_iload_n dX12_price_39 2 rfl ?_
      refine z_iaload dX12_price_40 ha0 (fun h15 => ?_)
      refine z_istore dX12_price_41 (lv' := [(4, .int (mI (m11 21 (a0 : Int).toNat))), (3, .int (mI v10)), (0, .ref (ad 0)), (1, .int (mI a0)), (2, .int (mI a1))]) (by decide) rfl ?_
      refine z_aload_n dX12_price_43 2 rfl ?_
      refine z_getR dX12_price_44 (k := 38) (j := 21) zc_X12 lm_0 rfl (by decide) k_1076 ?_
      refine z_iload_n dX12_price_47 3 rfl ?_
      refine z_iload_n dX12_price_48 4 rfl ?_
      refine z_iastore dX12_price_49 ha0 ha1 ?_
      refine z_iload dX12_price_50 0 rfl ?_
      exact z_iret dX12_price_52 rfl rfl h15
    · refine z_aload_n dX12_price_29 1 rfl ?_
      refine z_iload_n dX12_price_30 0 rfl ?_
      refine z_callV1 dX12_price_31 rfl (ct_X12_refuse n v10 m11 h12) zc_X12 lm_0 k_1194 k_1196 kp_37 k_10 k_1197 zn_X12_refuse ⟨rfl, rfl, Nat.le_of_ble_eq_true rfl, Nat.le_of_ble_eq_true rfl⟩ (Nat.le_of_ble_eq_true rfl) rfl (fun v16 m17 h18 ho19 => ?_)
      exact z_iret dX12_price_34 rfl rfl h18
set_option maxRecDepth 20000 in
theorem ct_X12_also {ad sc sv : Nat → Nat} (n : Nat) (a0 : Int) (a1 : Int) (m : ZMem) (ha0 : R32 a0) (ha1 : R32 a1) : zCT LM ad sc sv M_X12_also yX12_also [.ref (ad 0), .int (mI a0), .int (mI a1)] m (F_X12_also n a0 a1 m) := by
  refine zCT_of (lv := [(0, .ref (ad 0)), (1, .int (mI a0)), (2, .int (mI a1))]) (by decide) rfl (Nat.le_of_ble_eq_true rfl) rfl ?_
  unfold F_X12_also
  refine z_aload_n dX12_also_0 0 rfl ?_
  refine z_iconst dX12_also_1 ?_
  refine z_putI dX12_also_2 (k := 16) zc_X12 lm_0 rfl (by decide) rfl rfl (by decide) k_1054 ?_
  refine z_aload_n dX12_also_5 0 rfl ?_
  refine z_iload_n dX12_also_6 1 rfl ?_
  refine z_callV4 dX12_also_7 rfl (ct_X12_isPart n a0 (wr m 0 16 0) ha0) zc_X12 lm_0 k_1256 k_1258 kp_50 k_10 k_1259 zn_X12_isPart ⟨rfl, rfl, Nat.le_of_ble_eq_true rfl, Nat.le_of_ble_eq_true rfl⟩ (Nat.le_of_ble_eq_true rfl) rfl (fun v1 m2 h3 ho4 => ?_)
  refine z_if_eq dX12_also_10 (zb01 h3) (tgt := 23) rfl (fun h5 => ?_) (fun h5 => ?_)
  · refine z_iconst dX12_also_23 ?_
    refine z_istore_n dX12_also_24 (lv' := [(3, .int (mI (-1))), (0, .ref (ad 0)), (1, .int (mI a0)), (2, .int (mI a1))]) (by decide) rfl ?_
    refine z_iload_n dX12_also_25 0 rfl ?_
    refine z_if_ge_f dX12_also_26 (by decide) (by decide) (tgt := 35) rfl ?_
    refine z_aload_n dX12_also_29 1 rfl ?_
    refine z_iload_n dX12_also_30 0 rfl ?_
    refine z_callV1 dX12_also_31 rfl (ct_X12_refuse n (-1) m2 (by decide)) zc_X12 lm_0 k_1194 k_1196 kp_37 k_10 k_1197 zn_X12_refuse ⟨rfl, rfl, Nat.le_of_ble_eq_true rfl, Nat.le_of_ble_eq_true rfl⟩ (Nat.le_of_ble_eq_true rfl) rfl (fun v6 m7 h8 ho9 => ?_)
    exact z_iret dX12_also_34 rfl rfl h8
  · refine z_iload_n dX12_also_13 2 rfl ?_
    refine z_iconst dX12_also_14 ?_
    refine z_bipush dX12_also_15 (x := 99) (by decide +kernel) ?_
    refine z_callS1 dX12_also_17 rfl (ct_X12_wrongNumber n a1 0 99 m2 ha1 (by decide) (by decide)) k_1318 k_1319 k_10 k_1320 zn_X12_wrongNumber ⟨rfl, rfl, Nat.le_of_ble_eq_true rfl, Nat.le_of_ble_eq_true rfl⟩ (Nat.le_of_ble_eq_true rfl) rfl (fun v10 m11 h12 ho13 => ?_)
    refine z_goto dX12_also_20 (tgt := 24) rfl ?_
    refine z_istore_n dX12_also_24 (lv' := [(3, .int (mI v10)), (0, .ref (ad 0)), (1, .int (mI a0)), (2, .int (mI a1))]) (by decide) rfl ?_
    refine z_iload_n dX12_also_25 0 rfl ?_
    refine z_if_ge dX12_also_26 h12 (tgt := 35) rfl (fun h14 => ?_) (fun h14 => ?_)
    · refine z_aload_n dX12_also_35 1 rfl ?_
      refine z_getR dX12_also_36 (k := 39) (j := 22) zc_X12 lm_0 rfl (by decide) k_1077 ?_
      refine z_iload_n dX12_also_39 2 rfl ?_
      refine z_iaload dX12_also_40 ha0 (fun h15 => ?_)
      refine z_istore dX12_also_41 (lv' := [(4, .int (mI (m11 22 (a0 : Int).toNat))), (3, .int (mI v10)), (0, .ref (ad 0)), (1, .int (mI a0)), (2, .int (mI a1))]) (by decide) rfl ?_
      refine z_aload_n dX12_also_43 2 rfl ?_
      refine z_getR dX12_also_44 (k := 39) (j := 22) zc_X12 lm_0 rfl (by decide) k_1077 ?_
      refine z_iload_n dX12_also_47 3 rfl ?_
      refine z_iload_n dX12_also_48 4 rfl ?_
      refine z_iastore dX12_also_49 ha0 ha1 ?_
      refine z_iload dX12_also_50 0 rfl ?_
      exact z_iret dX12_also_52 rfl rfl h15
    · refine z_aload_n dX12_also_29 1 rfl ?_
      refine z_iload_n dX12_also_30 0 rfl ?_
      refine z_callV1 dX12_also_31 rfl (ct_X12_refuse n v10 m11 h12) zc_X12 lm_0 k_1194 k_1196 kp_37 k_10 k_1197 zn_X12_refuse ⟨rfl, rfl, Nat.le_of_ble_eq_true rfl, Nat.le_of_ble_eq_true rfl⟩ (Nat.le_of_ble_eq_true rfl) rfl (fun v16 m17 h18 ho19 => ?_)
      exact z_iret dX12_also_34 rfl rfl h18
set_option maxRecDepth 20000 in
theorem T_X12_buyFor_46 {ad sc sv : Nat → Nat} (n : Nat) (r4 : Int → Int → Int → ZMem → ZR) (hr4 : ∀ (x1 : Int) (x2 : Int) (x3 : Int) (m : ZMem), R32 x1 → R32 x2 → R32 x3 → zG LM ad sc sv M_X12_buyFor 4 [(0, .ref (ad 0)), (1, .int (mI x1)), (2, .int (mI x2)), (3, .int (mI x3))] [] m (r4 x1 x2 x3 m)) : ∀ (x1 : Int) (x2 : Int) (x3 : Int) (s0 : Int) (m : ZMem), R32 x1 → R32 x2 → R32 x3 → R32 s0 → zG LM ad sc sv M_X12_buyFor 46 [(0, .ref (ad 0)), (1, .int (mI x1)), (2, .int (mI x2)), (3, .int (mI x3))] [.int (mI s0)] m (B_X12_buyFor_46 n r4 x1 x2 x3 s0 m) := by
  intro x1 x2 x3 s0 m hx1 hx2 hx3 hs0
  unfold B_X12_buyFor_46
  refine z_istore dX12_buyFor_46 (lv' := [(5, .int (mI s0)), (0, .ref (ad 0)), (1, .int (mI x1)), (2, .int (mI x2)), (3, .int (mI x3))]) (by decide) rfl ?_
  refine z_aload_n dX12_buyFor_48 1 rfl ?_
  refine z_getR dX12_buyFor_49 (k := 7) (j := 1) zc_X12 lm_0 rfl (by decide) k_1045 ?_
  refine z_iload_n dX12_buyFor_52 4 rfl ?_
  refine z_iaload dX12_buyFor_53 hx3 (fun h15 => ?_)
  refine z_iconst dX12_buyFor_54 ?_
  refine z_icmp_ne dX12_buyFor_55 h15 (by decide) (tgt := 79) rfl (fun h16 => ?_) (fun h16 => ?_)
  · refine z_aload_n dX12_buyFor_58 1 rfl ?_
    refine z_getR dX12_buyFor_59 (k := 8) (j := 2) zc_X12 lm_0 rfl (by decide) k_1046 ?_
    refine z_iload_n dX12_buyFor_62 4 rfl ?_
    refine z_iaload dX12_buyFor_63 hx3 (fun h17 => ?_)
    refine z_iload dX12_buyFor_64 0 rfl ?_
    refine z_aload_n dX12_buyFor_66 1 rfl ?_
    refine z_getR dX12_buyFor_67 (k := 8) (j := 2) zc_X12 lm_0 rfl (by decide) k_1046 ?_
    refine z_iload_n dX12_buyFor_70 4 rfl ?_
    refine z_iaload dX12_buyFor_71 hx3 (fun h18 => ?_)
    refine z_callS1 dX12_buyFor_72 rfl (ct_X12_up n s0 (m 2 (x3 : Int).toNat) m hs0 h18) k_1304 k_1305 k_10 k_1306 zn_X12_up ⟨rfl, rfl, Nat.le_of_ble_eq_true rfl, Nat.le_of_ble_eq_true rfl⟩ (Nat.le_of_ble_eq_true rfl) rfl (fun v19 m20 h21 ho22 => ?_)
    refine z_imul dX12_buyFor_75 (fun h23 => ?_)
    refine z_goto dX12_buyFor_76 (tgt := 81) rfl ?_
    refine z_istore dX12_buyFor_81 (lv' := [(5, .int (mI ((m 2 (x3 : Int).toNat) * v19))), (0, .ref (ad 0)), (1, .int (mI x1)), (2, .int (mI x2)), (3, .int (mI x3))]) (by decide) rfl ?_
    refine z_iload_n dX12_buyFor_83 3 rfl ?_
    refine z_iload dX12_buyFor_84 0 rfl ?_
    refine z_aload_n dX12_buyFor_86 1 rfl ?_
    refine z_getR dX12_buyFor_87 (k := 38) (j := 21) zc_X12 lm_0 rfl (by decide) k_1076 ?_
    refine z_iload_n dX12_buyFor_90 4 rfl ?_
    refine z_iaload dX12_buyFor_91 hx3 (fun h24 => ?_)
    refine z_imul dX12_buyFor_92 (fun h25 => ?_)
    refine z_iadd dX12_buyFor_93 (fun h26 => ?_)
    refine z_istore_n dX12_buyFor_94 (lv' := [(2, .int (mI (x2 + (((m 2 (x3 : Int).toNat) * v19) * (m20 21 (x3 : Int).toNat))))), (5, .int (mI ((m 2 (x3 : Int).toNat) * v19))), (0, .ref (ad 0)), (1, .int (mI x1)), (3, .int (mI x3))]) (by decide) rfl ?_
    refine z_iinc dX12_buyFor_95 (lv' := [(3, .int (mI (x3 + 1))), (2, .int (mI (x2 + (((m 2 (x3 : Int).toNat) * v19) * (m20 21 (x3 : Int).toNat))))), (5, .int (mI ((m 2 (x3 : Int).toNat) * v19))), (0, .ref (ad 0)), (1, .int (mI x1))]) 4 rfl (by decide) rfl (fun h27 => ?_)
    refine z_goto dX12_buyFor_98 (tgt := 4) rfl ?_
    exact zG_lvk (hr4 x1 (x2 + (((m 2 (x3 : Int).toNat) * v19) * (m20 21 (x3 : Int).toNat))) (x3 + 1) m20 hx1 h26 h27) [3, 4, 1, 0] rfl
  · refine z_iload dX12_buyFor_79 0 rfl ?_
    refine z_istore dX12_buyFor_81 (lv' := [(5, .int (mI s0)), (0, .ref (ad 0)), (1, .int (mI x1)), (2, .int (mI x2)), (3, .int (mI x3))]) (by decide) rfl ?_
    refine z_iload_n dX12_buyFor_83 3 rfl ?_
    refine z_iload dX12_buyFor_84 0 rfl ?_
    refine z_aload_n dX12_buyFor_86 1 rfl ?_
    refine z_getR dX12_buyFor_87 (k := 38) (j := 21) zc_X12 lm_0 rfl (by decide) k_1076 ?_
    refine z_iload_n dX12_buyFor_90 4 rfl ?_
    refine z_iaload dX12_buyFor_91 hx3 (fun h28 => ?_)
    refine z_imul dX12_buyFor_92 (fun h29 => ?_)
    refine z_iadd dX12_buyFor_93 (fun h30 => ?_)
    refine z_istore_n dX12_buyFor_94 (lv' := [(2, .int (mI (x2 + (s0 * (m 21 (x3 : Int).toNat))))), (5, .int (mI s0)), (0, .ref (ad 0)), (1, .int (mI x1)), (3, .int (mI x3))]) (by decide) rfl ?_
    refine z_iinc dX12_buyFor_95 (lv' := [(3, .int (mI (x3 + 1))), (2, .int (mI (x2 + (s0 * (m 21 (x3 : Int).toNat))))), (5, .int (mI s0)), (0, .ref (ad 0)), (1, .int (mI x1))]) 4 rfl (by decide) rfl (fun h31 => ?_)
    refine z_goto dX12_buyFor_98 (tgt := 4) rfl ?_
    exact zG_lvk (hr4 x1 (x2 + (s0 * (m 21 (x3 : Int).toNat))) (x3 + 1) m hx1 h30 h31) [3, 4, 1, 0] rfl
set_option maxRecDepth 20000 in
theorem T_X12_buyFor_4 {ad sc sv : Nat → Nat} (n : Nat) (r4 : Int → Int → Int → ZMem → ZR) (hr4 : ∀ (x1 : Int) (x2 : Int) (x3 : Int) (m : ZMem), R32 x1 → R32 x2 → R32 x3 → zG LM ad sc sv M_X12_buyFor 4 [(0, .ref (ad 0)), (1, .int (mI x1)), (2, .int (mI x2)), (3, .int (mI x3))] [] m (r4 x1 x2 x3 m)) : ∀ (x1 : Int) (x2 : Int) (x3 : Int) (m : ZMem), R32 x1 → R32 x2 → R32 x3 → zG LM ad sc sv M_X12_buyFor 4 [(0, .ref (ad 0)), (1, .int (mI x1)), (2, .int (mI x2)), (3, .int (mI x3))] [] m (B_X12_buyFor_4 n r4 x1 x2 x3 m) := by
  intro x1 x2 x3 m hx1 hx2 hx3
  unfold B_X12_buyFor_4
  refine z_iload_n dX12_buyFor_4 3 rfl ?_
  refine z_aload_n dX12_buyFor_5 0 rfl ?_
  refine z_getI dX12_buyFor_6 (k := 2) zc_X12 lm_0 rfl (by decide) k_1040 (fun h1 => ?_)
  refine z_icmp_ge dX12_buyFor_9 hx3 h1 (tgt := 101) rfl (fun h2 => ?_) (fun h2 => ?_)
  · refine z_iload_n dX12_buyFor_101 2 rfl ?_
    exact z_iret dX12_buyFor_102 rfl rfl hx2
  · refine z_aload_n dX12_buyFor_12 0 rfl ?_
    refine z_iload_n dX12_buyFor_13 3 rfl ?_
    refine z_iload_n dX12_buyFor_14 1 rfl ?_
    refine z_callV1 dX12_buyFor_15 rfl (ct_X12_takenFor n x3 x1 m hx3 hx1) zc_X12 lm_0 k_1290 k_1292 kp_55 k_10 k_1293 zn_X12_takenFor ⟨rfl, rfl, Nat.le_of_ble_eq_true rfl, Nat.le_of_ble_eq_true rfl⟩ (Nat.le_of_ble_eq_true rfl) rfl (fun v3 m4 h5 ho6 => ?_)
    refine z_bipush dX12_buyFor_18 (x := 12) (by decide +kernel) ?_
    refine z_aload_n dX12_buyFor_20 0 rfl ?_
    refine z_getR dX12_buyFor_21 (k := 11) (j := 5) zc_X12 lm_0 rfl (by decide) k_1049 ?_
    refine z_iload_n dX12_buyFor_24 3 rfl ?_
    refine z_iaload dX12_buyFor_25 hx3 (fun h7 => ?_)
    refine z_imul dX12_buyFor_26 (fun h8 => ?_)
    refine z_isub dX12_buyFor_27 (fun h9 => ?_)
    refine z_istore dX12_buyFor_28 (lv' := [(4, .int (mI (v3 - (12 * (m4 5 (x3 : Int).toNat))))), (0, .ref (ad 0)), (1, .int (mI x1)), (2, .int (mI x2)), (3, .int (mI x3))]) (by decide) rfl ?_
    refine z_iload dX12_buyFor_30 0 rfl ?_
    refine z_if_le dX12_buyFor_32 h9 (tgt := 45) rfl (fun h10 => ?_) (fun h10 => ?_)
    · refine z_iconst dX12_buyFor_45 ?_
      exact zG_lvk (T_X12_buyFor_46 n r4 hr4 x1 x2 x3 0 m4 hx1 hx2 hx3 (by decide)) [1, 2, 3, 4] rfl
    · refine z_iload dX12_buyFor_35 0 rfl ?_
      refine z_bipush dX12_buyFor_37 (x := 12) (by decide +kernel) ?_
      refine z_callS1 dX12_buyFor_39 rfl (ct_X12_up n (v3 - (12 * (m4 5 (x3 : Int).toNat))) 12 m4 h9 (by decide)) k_1304 k_1305 k_10 k_1306 zn_X12_up ⟨rfl, rfl, Nat.le_of_ble_eq_true rfl, Nat.le_of_ble_eq_true rfl⟩ (Nat.le_of_ble_eq_true rfl) rfl (fun v11 m12 h13 ho14 => ?_)
      refine z_goto dX12_buyFor_42 (tgt := 46) rfl ?_
      exact zG_lvk (T_X12_buyFor_46 n r4 hr4 x1 x2 x3 v11 m12 hx1 hx2 hx3 h13) [1, 2, 3, 4] rfl
theorem TL_X12_buyFor_4 {ad sc sv : Nat → Nat} (n : Nat) : ∀ q : Nat, ∀ (x1 : Int) (x2 : Int) (x3 : Int) (m : ZMem), R32 x1 → R32 x2 → R32 x3 → zG LM ad sc sv M_X12_buyFor 4 [(0, .ref (ad 0)), (1, .int (mI x1)), (2, .int (mI x2)), (3, .int (mI x3))] [] m (L_X12_buyFor_4 n q x1 x2 x3 m) := by
  intro q
  induction q with
  | zero => intros; exact zG_none
  | succ q ih => exact T_X12_buyFor_4 n (L_X12_buyFor_4 n q) ih
set_option maxRecDepth 20000 in
theorem ct_X12_buyFor {ad sc sv : Nat → Nat} (n : Nat) (a0 : Int) (m : ZMem) (ha0 : R32 a0) : zCT LM ad sc sv M_X12_buyFor yX12_buyFor [.ref (ad 0), .int (mI a0)] m (F_X12_buyFor n a0 m) := by
  refine zCT_of (lv := [(0, .ref (ad 0)), (1, .int (mI a0))]) (by decide) rfl (Nat.le_of_ble_eq_true rfl) rfl ?_
  unfold F_X12_buyFor
  refine z_iconst dX12_buyFor_0 ?_
  refine z_istore_n dX12_buyFor_1 (lv' := [(2, .int (mI 0)), (0, .ref (ad 0)), (1, .int (mI a0))]) (by decide) rfl ?_
  refine z_iconst dX12_buyFor_2 ?_
  refine z_istore_n dX12_buyFor_3 (lv' := [(3, .int (mI 0)), (2, .int (mI 0)), (0, .ref (ad 0)), (1, .int (mI a0))]) (by decide) rfl ?_
  exact zG_lvk (TL_X12_buyFor_4 n n a0 0 0 m ha0 (by decide) (by decide)) [2, 3, 1, 0] rfl
set_option maxRecDepth 20000 in
theorem ct_X12_buy {ad sc sv : Nat → Nat} (n : Nat) (a0 : Int) (m : ZMem) (ha0 : R32 a0) : zCT LM ad sc sv M_X12_buy yX12_buy [.ref (ad 0), .int (mI a0)] m (F_X12_buy n a0 m) := by
  refine zCT_of (lv := [(0, .ref (ad 0)), (1, .int (mI a0))]) (by decide) rfl (Nat.le_of_ble_eq_true rfl) rfl ?_
  unfold F_X12_buy
  refine z_aload_n dX12_buy_0 0 rfl ?_
  refine z_iconst dX12_buy_1 ?_
  refine z_putI dX12_buy_2 (k := 16) zc_X12 lm_0 rfl (by decide) rfl rfl (by decide) k_1054 ?_
  refine z_iload_n dX12_buy_5 1 rfl ?_
  refine z_iconst dX12_buy_6 ?_
  refine z_bipush dX12_buy_7 (x := 24) (by decide +kernel) ?_
  refine z_callS1 dX12_buy_9 rfl (ct_X12_wrongNumber n a0 1 24 (wr m 0 16 0) ha0 (by decide) (by decide)) k_1318 k_1319 k_10 k_1320 zn_X12_wrongNumber ⟨rfl, rfl, Nat.le_of_ble_eq_true rfl, Nat.le_of_ble_eq_true rfl⟩ (Nat.le_of_ble_eq_true rfl) rfl (fun v1 m2 h3 ho4 => ?_)
  refine z_if_ge dX12_buy_12 h3 (tgt := 29) rfl (fun h5 => ?_) (fun h5 => ?_)
  · refine z_aload_n dX12_buy_29 0 rfl ?_
    refine z_iload_n dX12_buy_30 1 rfl ?_
    refine z_callV1 dX12_buy_31 rfl (ct_X12_buyFor n a0 m2 ha0) zc_X12 lm_0 k_1506 k_1508 kp_75 k_10 k_1509 zn_X12_buyFor ⟨rfl, rfl, Nat.le_of_ble_eq_true rfl, Nat.le_of_ble_eq_true rfl⟩ (Nat.le_of_ble_eq_true rfl) rfl (fun v6 m7 h8 ho9 => ?_)
    exact z_iret dX12_buy_34 rfl rfl h8
  · refine z_aload_n dX12_buy_15 0 rfl ?_
    refine z_iload_n dX12_buy_16 1 rfl ?_
    refine z_iconst dX12_buy_17 ?_
    refine z_bipush dX12_buy_18 (x := 24) (by decide +kernel) ?_
    refine z_callS1 dX12_buy_20 rfl (ct_X12_wrongNumber n a0 1 24 m2 ha0 (by decide) (by decide)) k_1318 k_1319 k_10 k_1320 zn_X12_wrongNumber ⟨rfl, rfl, Nat.le_of_ble_eq_true rfl, Nat.le_of_ble_eq_true rfl⟩ (Nat.le_of_ble_eq_true rfl) rfl (fun v10 m11 h12 ho13 => ?_)
    refine z_callV1 dX12_buy_23 rfl (ct_X12_refuse n v10 m11 h12) zc_X12 lm_0 k_1194 k_1196 kp_37 k_10 k_1197 zn_X12_refuse ⟨rfl, rfl, Nat.le_of_ble_eq_true rfl, Nat.le_of_ble_eq_true rfl⟩ (Nat.le_of_ble_eq_true rfl) rfl (fun v14 m15 h16 ho17 => ?_)
    refine z_goto dX12_buy_26 (tgt := 34) rfl ?_
    exact z_iret dX12_buy_34 rfl rfl h16
set_option maxRecDepth 20000 in
theorem T_X12_cheapest_67 {ad sc sv : Nat → Nat} (n : Nat) (r67 : Int → Int → Int → ZMem → ZR) (hr67 : ∀ (x2 : Int) (x4 : Int) (x5 : Int) (m : ZMem), R32 x2 → R32 x4 → R32 x5 → zG LM ad sc sv M_X12_cheapest 67 [(0, .ref (ad 0)), (2, .int (mI x2)), (4, .int (mI x4)), (5, .int (mI x5))] [] m (r67 x2 x4 x5 m)) : ∀ (x2 : Int) (x4 : Int) (x5 : Int) (m : ZMem), R32 x2 → R32 x4 → R32 x5 → zG LM ad sc sv M_X12_cheapest 67 [(0, .ref (ad 0)), (2, .int (mI x2)), (4, .int (mI x4)), (5, .int (mI x5))] [] m (B_X12_cheapest_67 n r67 x2 x4 x5 m) := by
  intro x2 x4 x5 m hx2 hx4 hx5
  unfold B_X12_cheapest_67
  refine z_iload dX12_cheapest_67 3 rfl ?_
  refine z_iload_n dX12_cheapest_69 1 rfl ?_
  refine z_icmp_gt dX12_cheapest_70 hx5 hx2 (tgt := 114) rfl (fun h27 => ?_) (fun h27 => ?_)
  · refine z_iload dX12_cheapest_114 2 rfl ?_
    exact z_iret dX12_cheapest_116 rfl rfl hx4
  · refine z_aload_n dX12_cheapest_73 0 rfl ?_
    refine z_iload dX12_cheapest_74 3 rfl ?_
    refine z_callV1 dX12_cheapest_76 rfl (ct_X12_buyFor n x5 m hx5) zc_X12 lm_0 k_1506 k_1508 kp_75 k_10 k_1509 zn_X12_buyFor ⟨rfl, rfl, Nat.le_of_ble_eq_true rfl, Nat.le_of_ble_eq_true rfl⟩ (Nat.le_of_ble_eq_true rfl) rfl (fun v28 m29 h30 ho31 => ?_)
    refine z_i2l dX12_cheapest_79 h30 (fun h32 => ?_)
    refine z_iload dX12_cheapest_80 2 rfl ?_
    refine z_i2l dX12_cheapest_82 hx4 (fun h33 => ?_)
    refine z_lmul dX12_cheapest_83 (fun h34 => ?_)
    refine z_aload_n dX12_cheapest_84 0 rfl ?_
    refine z_iload dX12_cheapest_85 2 rfl ?_
    refine z_callV1 dX12_cheapest_87 rfl (ct_X12_buyFor n x4 m29 hx4) zc_X12 lm_0 k_1506 k_1508 kp_75 k_10 k_1509 zn_X12_buyFor ⟨rfl, rfl, Nat.le_of_ble_eq_true rfl, Nat.le_of_ble_eq_true rfl⟩ (Nat.le_of_ble_eq_true rfl) rfl (fun v35 m36 h37 ho38 => ?_)
    refine z_i2l dX12_cheapest_90 h37 (fun h39 => ?_)
    refine z_iload dX12_cheapest_91 3 rfl ?_
    refine z_i2l dX12_cheapest_93 hx5 (fun h40 => ?_)
    refine z_lmul dX12_cheapest_94 (fun h41 => ?_)
    refine z_lcmp dX12_cheapest_95 h34 h41 (fun h42 => ?_)
    refine z_if_ge dX12_cheapest_96 h42 (tgt := 104) rfl (fun h43 => ?_) (fun h43 => ?_)
    · refine z_iload dX12_cheapest_104 2 rfl ?_
      refine z_istore dX12_cheapest_106 (lv' := [(4, .int (mI x4)), (0, .ref (ad 0)), (2, .int (mI x2)), (5, .int (mI x5))]) (by decide) rfl ?_
      refine z_iinc dX12_cheapest_108 (lv' := [(5, .int (mI (x5 + 1))), (4, .int (mI x4)), (0, .ref (ad 0)), (2, .int (mI x2))]) 3 rfl (by decide) rfl (fun h44 => ?_)
      refine z_goto dX12_cheapest_111 (tgt := 67) rfl ?_
      exact zG_lvk (hr67 x2 x4 (x5 + 1) m36 hx2 hx4 h44) [2, 3, 1, 0] rfl
    · refine z_iload dX12_cheapest_99 3 rfl ?_
      refine z_goto dX12_cheapest_101 (tgt := 106) rfl ?_
      refine z_istore dX12_cheapest_106 (lv' := [(4, .int (mI x5)), (0, .ref (ad 0)), (2, .int (mI x2)), (5, .int (mI x5))]) (by decide) rfl ?_
      refine z_iinc dX12_cheapest_108 (lv' := [(5, .int (mI (x5 + 1))), (4, .int (mI x5)), (0, .ref (ad 0)), (2, .int (mI x2))]) 3 rfl (by decide) rfl (fun h45 => ?_)
      refine z_goto dX12_cheapest_111 (tgt := 67) rfl ?_
      exact zG_lvk (hr67 x2 x5 (x5 + 1) m36 hx2 hx5 h45) [2, 3, 1, 0] rfl
theorem TL_X12_cheapest_67 {ad sc sv : Nat → Nat} (n : Nat) : ∀ q : Nat, ∀ (x2 : Int) (x4 : Int) (x5 : Int) (m : ZMem), R32 x2 → R32 x4 → R32 x5 → zG LM ad sc sv M_X12_cheapest 67 [(0, .ref (ad 0)), (2, .int (mI x2)), (4, .int (mI x4)), (5, .int (mI x5))] [] m (L_X12_cheapest_67 n q x2 x4 x5 m) := by
  intro q
  induction q with
  | zero => intros; exact zG_none
  | succ q ih => exact T_X12_cheapest_67 n (L_X12_cheapest_67 n q) ih
set_option maxRecDepth 20000 in
theorem ct_X12_cheapest {ad sc sv : Nat → Nat} (n : Nat) (a0 : Int) (a1 : Int) (m : ZMem) (ha0 : R32 a0) (ha1 : R32 a1) : zCT LM ad sc sv M_X12_cheapest yX12_cheapest [.ref (ad 0), .int (mI a0), .int (mI a1)] m (F_X12_cheapest n a0 a1 m) := by
  refine zCT_of (lv := [(0, .ref (ad 0)), (1, .int (mI a0)), (2, .int (mI a1))]) (by decide) rfl (Nat.le_of_ble_eq_true rfl) rfl ?_
  unfold F_X12_cheapest
  refine z_aload_n dX12_cheapest_0 0 rfl ?_
  refine z_iconst dX12_cheapest_1 ?_
  refine z_putI dX12_cheapest_2 (k := 16) zc_X12 lm_0 rfl (by decide) rfl rfl (by decide) k_1054 ?_
  refine z_iload_n dX12_cheapest_5 1 rfl ?_
  refine z_iconst dX12_cheapest_6 ?_
  refine z_icmp_lt dX12_cheapest_7 ha0 (by decide) (tgt := 15) rfl (fun h1 => ?_) (fun h1 => ?_)
  · refine z_bipush dX12_cheapest_15 (x := (-4)) (by decide +kernel) ?_
    refine z_goto dX12_cheapest_17 (tgt := 48) rfl ?_
    refine z_istore_n dX12_cheapest_48 (lv' := [(3, .int (mI (-4))), (0, .ref (ad 0)), (1, .int (mI a0)), (2, .int (mI a1))]) (by decide) rfl ?_
    refine z_iload_n dX12_cheapest_49 0 rfl ?_
    refine z_if_ge_f dX12_cheapest_50 (by decide) (by decide) (tgt := 59) rfl ?_
    refine z_aload_n dX12_cheapest_53 1 rfl ?_
    refine z_iload_n dX12_cheapest_54 0 rfl ?_
    refine z_callV1 dX12_cheapest_55 rfl (ct_X12_refuse n (-4) (wr m 0 16 0) (by decide)) zc_X12 lm_0 k_1194 k_1196 kp_37 k_10 k_1197 zn_X12_refuse ⟨rfl, rfl, Nat.le_of_ble_eq_true rfl, Nat.le_of_ble_eq_true rfl⟩ (Nat.le_of_ble_eq_true rfl) rfl (fun v2 m3 h4 ho5 => ?_)
    exact z_iret dX12_cheapest_58 rfl rfl h4
  · refine z_iload_n dX12_cheapest_10 2 rfl ?_
    refine z_iconst dX12_cheapest_11 ?_
    refine z_icmp_ge dX12_cheapest_12 ha1 (by decide) (tgt := 20) rfl (fun h6 => ?_) (fun h6 => ?_)
    · refine z_iload_n dX12_cheapest_20 1 rfl ?_
      refine z_bipush dX12_cheapest_21 (x := 24) (by decide +kernel) ?_
      refine z_icmp_gt dX12_cheapest_23 ha0 (by decide) (tgt := 32) rfl (fun h7 => ?_) (fun h7 => ?_)
      · refine z_bipush dX12_cheapest_32 (x := (-6)) (by decide +kernel) ?_
        refine z_goto dX12_cheapest_34 (tgt := 48) rfl ?_
        refine z_istore_n dX12_cheapest_48 (lv' := [(3, .int (mI (-6))), (0, .ref (ad 0)), (1, .int (mI a0)), (2, .int (mI a1))]) (by decide) rfl ?_
        refine z_iload_n dX12_cheapest_49 0 rfl ?_
        refine z_if_ge_f dX12_cheapest_50 (by decide) (by decide) (tgt := 59) rfl ?_
        refine z_aload_n dX12_cheapest_53 1 rfl ?_
        refine z_iload_n dX12_cheapest_54 0 rfl ?_
        refine z_callV1 dX12_cheapest_55 rfl (ct_X12_refuse n (-6) (wr m 0 16 0) (by decide)) zc_X12 lm_0 k_1194 k_1196 kp_37 k_10 k_1197 zn_X12_refuse ⟨rfl, rfl, Nat.le_of_ble_eq_true rfl, Nat.le_of_ble_eq_true rfl⟩ (Nat.le_of_ble_eq_true rfl) rfl (fun v8 m9 h10 ho11 => ?_)
        exact z_iret dX12_cheapest_58 rfl rfl h10
      · refine z_iload_n dX12_cheapest_26 2 rfl ?_
        refine z_bipush dX12_cheapest_27 (x := 24) (by decide +kernel) ?_
        refine z_icmp_le dX12_cheapest_29 ha1 (by decide) (tgt := 37) rfl (fun h12 => ?_) (fun h12 => ?_)
        · refine z_iload_n dX12_cheapest_37 1 rfl ?_
          refine z_iload_n dX12_cheapest_38 2 rfl ?_
          refine z_icmp_le dX12_cheapest_39 ha0 ha1 (tgt := 47) rfl (fun h13 => ?_) (fun h13 => ?_)
          · refine z_iconst dX12_cheapest_47 ?_
            refine z_istore_n dX12_cheapest_48 (lv' := [(3, .int (mI 0)), (0, .ref (ad 0)), (1, .int (mI a0)), (2, .int (mI a1))]) (by decide) rfl ?_
            refine z_iload_n dX12_cheapest_49 0 rfl ?_
            refine z_if_ge_t dX12_cheapest_50 (by decide) (by decide) (tgt := 59) rfl ?_
            refine z_iload_n dX12_cheapest_59 2 rfl ?_
            refine z_istore dX12_cheapest_60 (lv' := [(4, .int (mI a0)), (3, .int (mI 0)), (0, .ref (ad 0)), (1, .int (mI a0)), (2, .int (mI a1))]) (by decide) rfl ?_
            refine z_iload_n dX12_cheapest_62 3 rfl ?_
            refine z_iconst dX12_cheapest_63 ?_
            refine z_iadd dX12_cheapest_64 (fun h14 => ?_)
            refine z_istore dX12_cheapest_65 (lv' := [(5, .int (mI (a0 + 1))), (4, .int (mI a0)), (3, .int (mI 0)), (0, .ref (ad 0)), (1, .int (mI a0)), (2, .int (mI a1))]) (by decide) rfl ?_
            exact zG_lvk (TL_X12_cheapest_67 n n a1 a0 (a0 + 1) (wr m 0 16 0) ha1 ha0 h14) [3, 5, 1, 0] rfl
          · refine z_bipush dX12_cheapest_42 (x := (-3)) (by decide +kernel) ?_
            refine z_goto dX12_cheapest_44 (tgt := 48) rfl ?_
            refine z_istore_n dX12_cheapest_48 (lv' := [(3, .int (mI (-3))), (0, .ref (ad 0)), (1, .int (mI a0)), (2, .int (mI a1))]) (by decide) rfl ?_
            refine z_iload_n dX12_cheapest_49 0 rfl ?_
            refine z_if_ge_f dX12_cheapest_50 (by decide) (by decide) (tgt := 59) rfl ?_
            refine z_aload_n dX12_cheapest_53 1 rfl ?_
            refine z_iload_n dX12_cheapest_54 0 rfl ?_
            refine z_callV1 dX12_cheapest_55 rfl (ct_X12_refuse n (-3) (wr m 0 16 0) (by decide)) zc_X12 lm_0 k_1194 k_1196 kp_37 k_10 k_1197 zn_X12_refuse ⟨rfl, rfl, Nat.le_of_ble_eq_true rfl, Nat.le_of_ble_eq_true rfl⟩ (Nat.le_of_ble_eq_true rfl) rfl (fun v15 m16 h17 ho18 => ?_)
            exact z_iret dX12_cheapest_58 rfl rfl h17
        · refine z_bipush dX12_cheapest_32 (x := (-6)) (by decide +kernel) ?_
          refine z_goto dX12_cheapest_34 (tgt := 48) rfl ?_
          refine z_istore_n dX12_cheapest_48 (lv' := [(3, .int (mI (-6))), (0, .ref (ad 0)), (1, .int (mI a0)), (2, .int (mI a1))]) (by decide) rfl ?_
          refine z_iload_n dX12_cheapest_49 0 rfl ?_
          refine z_if_ge_f dX12_cheapest_50 (by decide) (by decide) (tgt := 59) rfl ?_
          refine z_aload_n dX12_cheapest_53 1 rfl ?_
          refine z_iload_n dX12_cheapest_54 0 rfl ?_
          refine z_callV1 dX12_cheapest_55 rfl (ct_X12_refuse n (-6) (wr m 0 16 0) (by decide)) zc_X12 lm_0 k_1194 k_1196 kp_37 k_10 k_1197 zn_X12_refuse ⟨rfl, rfl, Nat.le_of_ble_eq_true rfl, Nat.le_of_ble_eq_true rfl⟩ (Nat.le_of_ble_eq_true rfl) rfl (fun v19 m20 h21 ho22 => ?_)
          exact z_iret dX12_cheapest_58 rfl rfl h21
    · refine z_bipush dX12_cheapest_15 (x := (-4)) (by decide +kernel) ?_
      refine z_goto dX12_cheapest_17 (tgt := 48) rfl ?_
      refine z_istore_n dX12_cheapest_48 (lv' := [(3, .int (mI (-4))), (0, .ref (ad 0)), (1, .int (mI a0)), (2, .int (mI a1))]) (by decide) rfl ?_
      refine z_iload_n dX12_cheapest_49 0 rfl ?_
      refine z_if_ge_f dX12_cheapest_50 (by decide) (by decide) (tgt := 59) rfl ?_
      refine z_aload_n dX12_cheapest_53 1 rfl ?_
      refine z_iload_n dX12_cheapest_54 0 rfl ?_
      refine z_callV1 dX12_cheapest_55 rfl (ct_X12_refuse n (-4) (wr m 0 16 0) (by decide)) zc_X12 lm_0 k_1194 k_1196 kp_37 k_10 k_1197 zn_X12_refuse ⟨rfl, rfl, Nat.le_of_ble_eq_true rfl, Nat.le_of_ble_eq_true rfl⟩ (Nat.le_of_ble_eq_true rfl) rfl (fun v23 m24 h25 ho26 => ?_)
      exact z_iret dX12_cheapest_58 rfl rfl h25
set_option maxRecDepth 20000 in
theorem ct_X12_weight {ad sc sv : Nat → Nat} (n : Nat) (a0 : Int) (m : ZMem) (ha0 : R32 a0) : zCT LM ad sc sv M_X12_weight yX12_weight [.ref (ad 0), .int (mI a0)] m (F_X12_weight n a0 m) := by
  refine zCT_of (lv := [(0, .ref (ad 0)), (1, .int (mI a0))]) (by decide) rfl (Nat.le_of_ble_eq_true rfl) rfl ?_
  unfold F_X12_weight
  refine z_aload_n dX12_weight_0 0 rfl ?_
  refine z_iconst dX12_weight_1 ?_
  refine z_putI dX12_weight_2 (k := 16) zc_X12 lm_0 rfl (by decide) rfl rfl (by decide) k_1054 ?_
  refine z_iload_n dX12_weight_5 1 rfl ?_
  refine z_iconst dX12_weight_6 ?_
  refine z_bipush dX12_weight_7 (x := 40) (by decide +kernel) ?_
  refine z_callS1 dX12_weight_9 rfl (ct_X12_wrongNumber n a0 1 40 (wr m 0 16 0) ha0 (by decide) (by decide)) k_1318 k_1319 k_10 k_1320 zn_X12_wrongNumber ⟨rfl, rfl, Nat.le_of_ble_eq_true rfl, Nat.le_of_ble_eq_true rfl⟩ (Nat.le_of_ble_eq_true rfl) rfl (fun v1 m2 h3 ho4 => ?_)
  refine z_istore_n dX12_weight_12 (lv' := [(2, .int (mI v1)), (0, .ref (ad 0)), (1, .int (mI a0))]) (by decide) rfl ?_
  refine z_iload_n dX12_weight_13 0 rfl ?_
  refine z_if_ne dX12_weight_14 h3 (tgt := 30) rfl (fun h5 => ?_) (fun h5 => ?_)
  · refine z_aload_n dX12_weight_17 1 rfl ?_
    refine z_getI dX12_weight_18 (k := 41) zc_X12 lm_0 rfl (by decide) k_1079 (fun h6 => ?_)
    refine z_iconst dX12_weight_21 ?_
    refine z_icmp_ne dX12_weight_22 h6 (by decide) (tgt := 30) rfl (fun h7 => ?_) (fun h7 => ?_)
    · refine z_bipush dX12_weight_25 (x := (-6)) (by decide +kernel) ?_
      refine z_goto dX12_weight_27 (tgt := 31) rfl ?_
      refine z_istore_n dX12_weight_31 (lv' := [(2, .int (mI (-6))), (0, .ref (ad 0)), (1, .int (mI a0))]) (by decide) rfl ?_
      refine z_iload_n dX12_weight_32 0 rfl ?_
      refine z_if_ge_f dX12_weight_33 (by decide) (by decide) (tgt := 42) rfl ?_
      refine z_aload_n dX12_weight_36 1 rfl ?_
      refine z_iload_n dX12_weight_37 0 rfl ?_
      refine z_callV1 dX12_weight_38 rfl (ct_X12_refuse n (-6) m2 (by decide)) zc_X12 lm_0 k_1194 k_1196 kp_37 k_10 k_1197 zn_X12_refuse ⟨rfl, rfl, Nat.le_of_ble_eq_true rfl, Nat.le_of_ble_eq_true rfl⟩ (Nat.le_of_ble_eq_true rfl) rfl (fun v8 m9 h10 ho11 => ?_)
      exact z_iret dX12_weight_41 rfl rfl h10
    · refine z_iload_n dX12_weight_30 0 rfl ?_
      refine z_istore_n dX12_weight_31 (lv' := [(2, .int (mI v1)), (0, .ref (ad 0)), (1, .int (mI a0))]) (by decide) rfl ?_
      refine z_iload_n dX12_weight_32 0 rfl ?_
      refine z_if_ge dX12_weight_33 h3 (tgt := 42) rfl (fun h12 => ?_) (fun h12 => ?_)
      · refine z_aload_n dX12_weight_42 1 rfl ?_
        refine z_getR dX12_weight_43 (k := 40) (j := 23) zc_X12 lm_0 rfl (by decide) k_1078 ?_
        refine z_aload_n dX12_weight_46 1 rfl ?_
        refine z_getI dX12_weight_47 (k := 41) zc_X12 lm_0 rfl (by decide) k_1079 (fun h13 => ?_)
        refine z_iload_n dX12_weight_50 2 rfl ?_
        refine z_iastore dX12_weight_51 h13 ha0 ?_
        refine z_aload_n dX12_weight_52 1 rfl ?_
        refine z_dup dX12_weight_53 rfl ?_
        refine z_getI dX12_weight_54 (k := 41) zc_X12 lm_0 rfl (by decide) k_1079 (fun h14 => ?_)
        refine z_iconst dX12_weight_57 ?_
        refine z_iadd dX12_weight_58 (fun h15 => ?_)
        refine z_putI dX12_weight_59 (k := 41) zc_X12 lm_0 rfl (by decide) rfl rfl h15 k_1079 ?_
        refine z_aload_n dX12_weight_62 1 rfl ?_
        refine z_getI dX12_weight_63 (k := 41) zc_X12 lm_0 rfl (by decide) k_1079 (fun h16 => ?_)
        exact z_iret dX12_weight_66 rfl rfl h16
      · refine z_aload_n dX12_weight_36 1 rfl ?_
        refine z_iload_n dX12_weight_37 0 rfl ?_
        refine z_callV1 dX12_weight_38 rfl (ct_X12_refuse n v1 m2 h3) zc_X12 lm_0 k_1194 k_1196 kp_37 k_10 k_1197 zn_X12_refuse ⟨rfl, rfl, Nat.le_of_ble_eq_true rfl, Nat.le_of_ble_eq_true rfl⟩ (Nat.le_of_ble_eq_true rfl) rfl (fun v17 m18 h19 ho20 => ?_)
        exact z_iret dX12_weight_41 rfl rfl h19
  · refine z_iload_n dX12_weight_30 0 rfl ?_
    refine z_istore_n dX12_weight_31 (lv' := [(2, .int (mI v1)), (0, .ref (ad 0)), (1, .int (mI a0))]) (by decide) rfl ?_
    refine z_iload_n dX12_weight_32 0 rfl ?_
    refine z_if_ge dX12_weight_33 h3 (tgt := 42) rfl (fun h21 => ?_) (fun h21 => ?_)
    · refine z_aload_n dX12_weight_42 1 rfl ?_
      refine z_getR dX12_weight_43 (k := 40) (j := 23) zc_X12 lm_0 rfl (by decide) k_1078 ?_
      refine z_aload_n dX12_weight_46 1 rfl ?_
      refine z_getI dX12_weight_47 (k := 41) zc_X12 lm_0 rfl (by decide) k_1079 (fun h22 => ?_)
      refine z_iload_n dX12_weight_50 2 rfl ?_
      refine z_iastore dX12_weight_51 h22 ha0 ?_
      refine z_aload_n dX12_weight_52 1 rfl ?_
      refine z_dup dX12_weight_53 rfl ?_
      refine z_getI dX12_weight_54 (k := 41) zc_X12 lm_0 rfl (by decide) k_1079 (fun h23 => ?_)
      refine z_iconst dX12_weight_57 ?_
      refine z_iadd dX12_weight_58 (fun h24 => ?_)
      refine z_putI dX12_weight_59 (k := 41) zc_X12 lm_0 rfl (by decide) rfl rfl h24 k_1079 ?_
      refine z_aload_n dX12_weight_62 1 rfl ?_
      refine z_getI dX12_weight_63 (k := 41) zc_X12 lm_0 rfl (by decide) k_1079 (fun h25 => ?_)
      exact z_iret dX12_weight_66 rfl rfl h25
    · refine z_aload_n dX12_weight_36 1 rfl ?_
      refine z_iload_n dX12_weight_37 0 rfl ?_
      refine z_callV1 dX12_weight_38 rfl (ct_X12_refuse n v1 m2 h3) zc_X12 lm_0 k_1194 k_1196 kp_37 k_10 k_1197 zn_X12_refuse ⟨rfl, rfl, Nat.le_of_ble_eq_true rfl, Nat.le_of_ble_eq_true rfl⟩ (Nat.le_of_ble_eq_true rfl) rfl (fun v26 m27 h28 ho29 => ?_)
      exact z_iret dX12_weight_41 rfl rfl h28
set_option maxRecDepth 20000 in
theorem T_X12_onesOf_4 {ad sc sv : Nat → Nat} (n : Nat) (r4 : Int → Int → Int → ZMem → ZR) (hr4 : ∀ (x0 : Int) (x1 : Int) (x2 : Int) (m : ZMem), R32 x0 → R32 x1 → R32 x2 → zG LM ad sc sv M_X12_onesOf 4 [(0, .int (mI x0)), (1, .int (mI x1)), (2, .int (mI x2))] [] m (r4 x0 x1 x2 m)) : ∀ (x0 : Int) (x1 : Int) (x2 : Int) (m : ZMem), R32 x0 → R32 x1 → R32 x2 → zG LM ad sc sv M_X12_onesOf 4 [(0, .int (mI x0)), (1, .int (mI x1)), (2, .int (mI x2))] [] m (B_X12_onesOf_4 n r4 x0 x1 x2 m) := by
  intro x0 x1 x2 m hx0 hx1 hx2
  unfold B_X12_onesOf_4
  refine z_iload_n dX12_onesOf_4 2 rfl ?_
  refine z_bipush dX12_onesOf_5 (x := 10) (by decide +kernel) ?_
  refine z_icmp_ge dX12_onesOf_7 hx2 (by decide) (tgt := 24) rfl (fun h1 => ?_) (fun h1 => ?_)
  · refine z_iload_n dX12_onesOf_24 1 rfl ?_
    exact z_iret dX12_onesOf_25 rfl rfl hx1
  · refine z_iload_n dX12_onesOf_10 1 rfl ?_
    refine z_iload_n dX12_onesOf_11 0 rfl ?_
    refine z_iload_n dX12_onesOf_12 2 rfl ?_
    refine z_ishr dX12_onesOf_13 hx0 (fun h2 => ?_)
    refine z_iconst dX12_onesOf_14 ?_
    refine z_iandm dX12_onesOf_15 1 (by decide +kernel) (by decide) (fun h3 => ?_)
    refine z_iadd dX12_onesOf_16 (fun h4 => ?_)
    refine z_istore_n dX12_onesOf_17 (lv' := [(1, .int (mI (x1 + ((x0 / 2 ^ (x2 : Int).toNat) % 2 ^ 1)))), (0, .int (mI x0)), (2, .int (mI x2))]) (by decide) rfl ?_
    refine z_iinc dX12_onesOf_18 (lv' := [(2, .int (mI (x2 + 1))), (1, .int (mI (x1 + ((x0 / 2 ^ (x2 : Int).toNat) % 2 ^ 1)))), (0, .int (mI x0))]) 2 rfl (by decide) rfl (fun h5 => ?_)
    refine z_goto dX12_onesOf_21 (tgt := 4) rfl ?_
    exact zG_lvk (hr4 x0 (x1 + ((x0 / 2 ^ (x2 : Int).toNat) % 2 ^ 1)) (x2 + 1) m hx0 h4 h5) [2, 1, 0] rfl
theorem TL_X12_onesOf_4 {ad sc sv : Nat → Nat} (n : Nat) : ∀ q : Nat, ∀ (x0 : Int) (x1 : Int) (x2 : Int) (m : ZMem), R32 x0 → R32 x1 → R32 x2 → zG LM ad sc sv M_X12_onesOf 4 [(0, .int (mI x0)), (1, .int (mI x1)), (2, .int (mI x2))] [] m (L_X12_onesOf_4 n q x0 x1 x2 m) := by
  intro q
  induction q with
  | zero => intros; exact zG_none
  | succ q ih => exact T_X12_onesOf_4 n (L_X12_onesOf_4 n q) ih
set_option maxRecDepth 20000 in
theorem ct_X12_onesOf {ad sc sv : Nat → Nat} (n : Nat) (a0 : Int) (m : ZMem) (ha0 : R32 a0) : zCT LM ad sc sv M_X12_onesOf yX12_onesOf [.int (mI a0)] m (F_X12_onesOf n a0 m) := by
  refine zCT_of (lv := [(0, .int (mI a0))]) (by decide) rfl (Nat.le_of_ble_eq_true rfl) rfl ?_
  unfold F_X12_onesOf
  refine z_iconst dX12_onesOf_0 ?_
  refine z_istore_n dX12_onesOf_1 (lv' := [(1, .int (mI 0)), (0, .int (mI a0))]) (by decide) rfl ?_
  refine z_iconst dX12_onesOf_2 ?_
  refine z_istore_n dX12_onesOf_3 (lv' := [(2, .int (mI 0)), (1, .int (mI 0)), (0, .int (mI a0))]) (by decide) rfl ?_
  exact zG_lvk (TL_X12_onesOf_4 n n a0 0 0 m ha0 (by decide) (by decide)) [2, 1, 0] rfl
set_option maxRecDepth 20000 in
theorem T_X12_weighedBy_4 {ad sc sv : Nat → Nat} (n : Nat) (r4 : Int → Int → Int → ZMem → ZR) (hr4 : ∀ (x1 : Int) (x2 : Int) (x3 : Int) (m : ZMem), R32 x1 → R32 x2 → R32 x3 → zG LM ad sc sv M_X12_weighedBy 4 [(0, .ref (ad 0)), (1, .int (mI x1)), (2, .int (mI x2)), (3, .int (mI x3))] [] m (r4 x1 x2 x3 m)) : ∀ (x1 : Int) (x2 : Int) (x3 : Int) (m : ZMem), R32 x1 → R32 x2 → R32 x3 → zG LM ad sc sv M_X12_weighedBy 4 [(0, .ref (ad 0)), (1, .int (mI x1)), (2, .int (mI x2)), (3, .int (mI x3))] [] m (B_X12_weighedBy_4 n r4 x1 x2 x3 m) := by
  intro x1 x2 x3 m hx1 hx2 hx3
  unfold B_X12_weighedBy_4
  refine z_iload_n dX12_weighedBy_4 3 rfl ?_
  refine z_aload_n dX12_weighedBy_5 0 rfl ?_
  refine z_getI dX12_weighedBy_6 (k := 41) zc_X12 lm_0 rfl (by decide) k_1079 (fun h1 => ?_)
  refine z_icmp_ge dX12_weighedBy_9 hx3 h1 (tgt := 41) rfl (fun h2 => ?_) (fun h2 => ?_)
  · refine z_iload_n dX12_weighedBy_41 2 rfl ?_
    exact z_iret dX12_weighedBy_42 rfl rfl hx2
  · refine z_iload_n dX12_weighedBy_12 2 rfl ?_
    refine z_iload_n dX12_weighedBy_13 1 rfl ?_
    refine z_iload_n dX12_weighedBy_14 3 rfl ?_
    refine z_ishr dX12_weighedBy_15 hx1 (fun h3 => ?_)
    refine z_iconst dX12_weighedBy_16 ?_
    refine z_iandm dX12_weighedBy_17 1 (by decide +kernel) (by decide) (fun h4 => ?_)
    refine z_iload_n dX12_weighedBy_18 1 rfl ?_
    refine z_iload_n dX12_weighedBy_19 3 rfl ?_
    refine z_iconst dX12_weighedBy_20 ?_
    refine z_iadd dX12_weighedBy_21 (fun h5 => ?_)
    refine z_ishr dX12_weighedBy_22 hx1 (fun h6 => ?_)
    refine z_iconst dX12_weighedBy_23 ?_
    refine z_iandm dX12_weighedBy_24 1 (by decide +kernel) (by decide) (fun h7 => ?_)
    refine z_isub dX12_weighedBy_25 (fun h8 => ?_)
    refine z_aload_n dX12_weighedBy_26 0 rfl ?_
    refine z_getR dX12_weighedBy_27 (k := 40) (j := 23) zc_X12 lm_0 rfl (by decide) k_1078 ?_
    refine z_iload_n dX12_weighedBy_30 3 rfl ?_
    refine z_iaload dX12_weighedBy_31 hx3 (fun h9 => ?_)
    refine z_imul dX12_weighedBy_32 (fun h10 => ?_)
    refine z_iadd dX12_weighedBy_33 (fun h11 => ?_)
    refine z_istore_n dX12_weighedBy_34 (lv' := [(2, .int (mI (x2 + ((((x1 / 2 ^ (x3 : Int).toNat) % 2 ^ 1) - ((x1 / 2 ^ ((x3 + 5) : Int).toNat) % 2 ^ 1)) * (m 23 (x3 : Int).toNat))))), (0, .ref (ad 0)), (1, .int (mI x1)), (3, .int (mI x3))]) (by decide) rfl ?_
    refine z_iinc dX12_weighedBy_35 (lv' := [(3, .int (mI (x3 + 1))), (2, .int (mI (x2 + ((((x1 / 2 ^ (x3 : Int).toNat) % 2 ^ 1) - ((x1 / 2 ^ ((x3 + 5) : Int).toNat) % 2 ^ 1)) * (m 23 (x3 : Int).toNat))))), (0, .ref (ad 0)), (1, .int (mI x1))]) 3 rfl (by decide) rfl (fun h12 => ?_)
    refine z_goto dX12_weighedBy_38 (tgt := 4) rfl ?_
    exact zG_lvk (hr4 x1 (x2 + ((((x1 / 2 ^ (x3 : Int).toNat) % 2 ^ 1) - ((x1 / 2 ^ ((x3 + 5) : Int).toNat) % 2 ^ 1)) * (m 23 (x3 : Int).toNat))) (x3 + 1) m hx1 h11 h12) [2, 3, 1, 0] rfl
theorem TL_X12_weighedBy_4 {ad sc sv : Nat → Nat} (n : Nat) : ∀ q : Nat, ∀ (x1 : Int) (x2 : Int) (x3 : Int) (m : ZMem), R32 x1 → R32 x2 → R32 x3 → zG LM ad sc sv M_X12_weighedBy 4 [(0, .ref (ad 0)), (1, .int (mI x1)), (2, .int (mI x2)), (3, .int (mI x3))] [] m (L_X12_weighedBy_4 n q x1 x2 x3 m) := by
  intro q
  induction q with
  | zero => intros; exact zG_none
  | succ q ih => exact T_X12_weighedBy_4 n (L_X12_weighedBy_4 n q) ih
set_option maxRecDepth 20000 in
theorem ct_X12_weighedBy {ad sc sv : Nat → Nat} (n : Nat) (a0 : Int) (m : ZMem) (ha0 : R32 a0) : zCT LM ad sc sv M_X12_weighedBy yX12_weighedBy [.ref (ad 0), .int (mI a0)] m (F_X12_weighedBy n a0 m) := by
  refine zCT_of (lv := [(0, .ref (ad 0)), (1, .int (mI a0))]) (by decide) rfl (Nat.le_of_ble_eq_true rfl) rfl ?_
  unfold F_X12_weighedBy
  refine z_iconst dX12_weighedBy_0 ?_
  refine z_istore_n dX12_weighedBy_1 (lv' := [(2, .int (mI 0)), (0, .ref (ad 0)), (1, .int (mI a0))]) (by decide) rfl ?_
  refine z_iconst dX12_weighedBy_2 ?_
  refine z_istore_n dX12_weighedBy_3 (lv' := [(3, .int (mI 0)), (2, .int (mI 0)), (0, .ref (ad 0)), (1, .int (mI a0))]) (by decide) rfl ?_
  exact zG_lvk (TL_X12_weighedBy_4 n n a0 0 0 m ha0 (by decide) (by decide)) [2, 3, 1, 0] rfl
set_option maxRecDepth 20000 in
theorem T_X12_weighHow_72 {ad sc sv : Nat → Nat} (n : Nat) (r5 : Int → Int → Int → ZMem → ZR) (hr5 : ∀ (x1 : Int) (x2 : Int) (x3 : Int) (m : ZMem), R32 x1 → R32 x2 → R32 x3 → zG LM ad sc sv M_X12_weighHow 5 [(0, .ref (ad 0)), (1, .int (mI x1)), (2, .int (mI x2)), (3, .int (mI x3))] [] m (r5 x1 x2 x3 m)) : ∀ (x1 : Int) (x2 : Int) (x3 : Int) (x4 : Int) (s0 : Int) (m : ZMem), R32 x1 → R32 x2 → R32 x3 → R32 x4 → R32 s0 → zG LM ad sc sv M_X12_weighHow 72 [(0, .ref (ad 0)), (1, .int (mI x1)), (2, .int (mI x2)), (3, .int (mI x3)), (4, .int (mI x4))] [.int (mI s0)] m (B_X12_weighHow_72 n r5 x1 x2 x3 x4 s0 m) := by
  intro x1 x2 x3 x4 s0 m hx1 hx2 hx3 hx4 hs0
  unfold B_X12_weighHow_72
  refine z_istore dX12_weighHow_72 (lv' := [(5, .int (mI s0)), (0, .ref (ad 0)), (1, .int (mI x1)), (2, .int (mI x2)), (3, .int (mI x3)), (4, .int (mI x4))]) (by decide) rfl ?_
  refine z_iload dX12_weighHow_74 5 rfl ?_
  refine z_if_eq dX12_weighHow_76 hx4 (tgt := 97) rfl (fun h53 => ?_) (fun h53 => ?_)
  · refine z_iload_n dX12_weighHow_97 3 rfl ?_
    refine z_istore_n dX12_weighHow_98 (lv' := [(2, .int (mI x2)), (5, .int (mI s0)), (0, .ref (ad 0)), (1, .int (mI x1)), (3, .int (mI x3)), (4, .int (mI x4))]) (by decide) rfl ?_
    refine z_iinc dX12_weighHow_99 (lv' := [(3, .int (mI (x3 + 1))), (2, .int (mI x2)), (5, .int (mI s0)), (0, .ref (ad 0)), (1, .int (mI x1)), (4, .int (mI x4))]) 4 rfl (by decide) rfl (fun h54 => ?_)
    refine z_goto dX12_weighHow_102 (tgt := 5) rfl ?_
    exact zG_lvk (hr5 x1 x2 (x3 + 1) m hx1 hx2 h54) [3, 4, 1, 0] rfl
  · refine z_iload dX12_weighHow_79 0 rfl ?_
    refine z_if_eq dX12_weighHow_81 hs0 (tgt := 97) rfl (fun h55 => ?_) (fun h55 => ?_)
    · refine z_iload_n dX12_weighHow_97 3 rfl ?_
      refine z_istore_n dX12_weighHow_98 (lv' := [(2, .int (mI x2)), (5, .int (mI s0)), (0, .ref (ad 0)), (1, .int (mI x1)), (3, .int (mI x3)), (4, .int (mI x4))]) (by decide) rfl ?_
      refine z_iinc dX12_weighHow_99 (lv' := [(3, .int (mI (x3 + 1))), (2, .int (mI x2)), (5, .int (mI s0)), (0, .ref (ad 0)), (1, .int (mI x1)), (4, .int (mI x4))]) 4 rfl (by decide) rfl (fun h56 => ?_)
      refine z_goto dX12_weighHow_102 (tgt := 5) rfl ?_
      exact zG_lvk (hr5 x1 x2 (x3 + 1) m hx1 hx2 h56) [3, 4, 1, 0] rfl
    · refine z_aload_n dX12_weighHow_84 1 rfl ?_
      refine z_iload_n dX12_weighHow_85 4 rfl ?_
      refine z_callV1 dX12_weighHow_86 rfl (ct_X12_weighedBy n x3 m hx3) zc_X12 lm_0 k_1529 k_1531 kp_77 k_10 k_1532 zn_X12_weighedBy ⟨rfl, rfl, Nat.le_of_ble_eq_true rfl, Nat.le_of_ble_eq_true rfl⟩ (Nat.le_of_ble_eq_true rfl) rfl (fun v57 m58 h59 ho60 => ?_)
      refine z_iload_n dX12_weighHow_89 2 rfl ?_
      refine z_icmp_ne dX12_weighHow_90 h59 hx1 (tgt := 97) rfl (fun h61 => ?_) (fun h61 => ?_)
      · refine z_iload_n dX12_weighHow_93 4 rfl ?_
        refine z_goto dX12_weighHow_94 (tgt := 98) rfl ?_
        refine z_istore_n dX12_weighHow_98 (lv' := [(2, .int (mI x3)), (5, .int (mI s0)), (0, .ref (ad 0)), (1, .int (mI x1)), (3, .int (mI x3)), (4, .int (mI x4))]) (by decide) rfl ?_
        refine z_iinc dX12_weighHow_99 (lv' := [(3, .int (mI (x3 + 1))), (2, .int (mI x3)), (5, .int (mI s0)), (0, .ref (ad 0)), (1, .int (mI x1)), (4, .int (mI x4))]) 4 rfl (by decide) rfl (fun h62 => ?_)
        refine z_goto dX12_weighHow_102 (tgt := 5) rfl ?_
        exact zG_lvk (hr5 x1 x3 (x3 + 1) m58 hx1 hx3 h62) [3, 4, 1, 0] rfl
      · refine z_iload_n dX12_weighHow_97 3 rfl ?_
        refine z_istore_n dX12_weighHow_98 (lv' := [(2, .int (mI x2)), (5, .int (mI s0)), (0, .ref (ad 0)), (1, .int (mI x1)), (3, .int (mI x3)), (4, .int (mI x4))]) (by decide) rfl ?_
        refine z_iinc dX12_weighHow_99 (lv' := [(3, .int (mI (x3 + 1))), (2, .int (mI x2)), (5, .int (mI s0)), (0, .ref (ad 0)), (1, .int (mI x1)), (4, .int (mI x4))]) 4 rfl (by decide) rfl (fun h63 => ?_)
        refine z_goto dX12_weighHow_102 (tgt := 5) rfl ?_
        exact zG_lvk (hr5 x1 x2 (x3 + 1) m58 hx1 hx2 h63) [3, 4, 1, 0] rfl
set_option maxRecDepth 20000 in
theorem T_X12_weighHow_5 {ad sc sv : Nat → Nat} (n : Nat) (r5 : Int → Int → Int → ZMem → ZR) (hr5 : ∀ (x1 : Int) (x2 : Int) (x3 : Int) (m : ZMem), R32 x1 → R32 x2 → R32 x3 → zG LM ad sc sv M_X12_weighHow 5 [(0, .ref (ad 0)), (1, .int (mI x1)), (2, .int (mI x2)), (3, .int (mI x3))] [] m (r5 x1 x2 x3 m)) : ∀ (x1 : Int) (x2 : Int) (x3 : Int) (m : ZMem), R32 x1 → R32 x2 → R32 x3 → zG LM ad sc sv M_X12_weighHow 5 [(0, .ref (ad 0)), (1, .int (mI x1)), (2, .int (mI x2)), (3, .int (mI x3))] [] m (B_X12_weighHow_5 n r5 x1 x2 x3 m) := by
  intro x1 x2 x3 m hx1 hx2 hx3
  unfold B_X12_weighHow_5
  refine z_iload_n dX12_weighHow_5 3 rfl ?_
  refine z_sipush dX12_weighHow_6 (x := 1024) (by decide +kernel) ?_
  refine z_icmp_ge dX12_weighHow_9 hx3 (by decide) (tgt := 105) rfl (fun h1 => ?_) (fun h1 => ?_)
  · refine z_iload_n dX12_weighHow_105 2 rfl ?_
    exact z_iret dX12_weighHow_106 rfl rfl hx2
  · refine z_iload_n dX12_weighHow_12 3 rfl ?_
    refine z_iload_n dX12_weighHow_13 3 rfl ?_
    refine z_iconst dX12_weighHow_14 ?_
    refine z_ishr dX12_weighHow_15 hx3 (fun h2 => ?_)
    refine z_iand dX12_weighHow_16 hx3 (fun h3 => ?_)
    refine z_if_ne dX12_weighHow_17 h3 (tgt := 49) rfl (fun h4 => ?_) (fun h4 => ?_)
    · refine z_iload_n dX12_weighHow_20 3 rfl ?_
      refine z_bipush dX12_weighHow_21 (x := 31) (by decide +kernel) ?_
      refine z_iandm dX12_weighHow_23 5 (by decide +kernel) (by decide) (fun h5 => ?_)
      refine z_iconst dX12_weighHow_24 ?_
      refine z_aload_n dX12_weighHow_25 0 rfl ?_
      refine z_getI dX12_weighHow_26 (k := 41) zc_X12 lm_0 rfl (by decide) k_1079 (fun h6 => ?_)
      refine z_ishl dX12_weighHow_29 (fun h7 => ?_)
      refine z_icmp_ge dX12_weighHow_30 h5 h7 (tgt := 49) rfl (fun h8 => ?_) (fun h8 => ?_)
      · refine z_iconst dX12_weighHow_49 ?_
        refine z_istore dX12_weighHow_50 (lv' := [(4, .int (mI 0)), (0, .ref (ad 0)), (1, .int (mI x1)), (2, .int (mI x2)), (3, .int (mI x3))]) (by decide) rfl ?_
        refine z_iload_n dX12_weighHow_52 3 rfl ?_
        refine z_if_lt dX12_weighHow_53 hx2 (tgt := 67) rfl (fun h9 => ?_) (fun h9 => ?_)
        · refine z_iconst dX12_weighHow_67 ?_
          refine z_goto dX12_weighHow_68 (tgt := 72) rfl ?_
          exact zG_lvk (T_X12_weighHow_72 n r5 hr5 x1 x2 x3 0 1 m hx1 hx2 hx3 (by decide) (by decide)) [1, 2, 3, 4, 0] rfl
        · refine z_iload_n dX12_weighHow_56 4 rfl ?_
          refine z_callS1 dX12_weighHow_57 rfl (ct_X12_onesOf n x3 m hx3) k_1526 k_1527 k_10 k_1528 zn_X12_onesOf ⟨rfl, rfl, Nat.le_of_ble_eq_true rfl, Nat.le_of_ble_eq_true rfl⟩ (Nat.le_of_ble_eq_true rfl) rfl (fun v10 m11 h12 ho13 => ?_)
          refine z_iload_n dX12_weighHow_60 3 rfl ?_
          refine z_callS1 dX12_weighHow_61 rfl (ct_X12_onesOf n x2 m11 hx2) k_1526 k_1527 k_10 k_1528 zn_X12_onesOf ⟨rfl, rfl, Nat.le_of_ble_eq_true rfl, Nat.le_of_ble_eq_true rfl⟩ (Nat.le_of_ble_eq_true rfl) rfl (fun v14 m15 h16 ho17 => ?_)
          refine z_icmp_ge dX12_weighHow_64 h12 h16 (tgt := 71) rfl (fun h18 => ?_) (fun h18 => ?_)
          · refine z_iconst dX12_weighHow_71 ?_
            exact zG_lvk (T_X12_weighHow_72 n r5 hr5 x1 x2 x3 0 0 m15 hx1 hx2 hx3 (by decide) (by decide)) [1, 2, 3, 4, 0] rfl
          · refine z_iconst dX12_weighHow_67 ?_
            refine z_goto dX12_weighHow_68 (tgt := 72) rfl ?_
            exact zG_lvk (T_X12_weighHow_72 n r5 hr5 x1 x2 x3 0 1 m15 hx1 hx2 hx3 (by decide) (by decide)) [1, 2, 3, 4, 0] rfl
      · refine z_iload_n dX12_weighHow_33 3 rfl ?_
        refine z_iconst dX12_weighHow_34 ?_
        refine z_ishr dX12_weighHow_35 hx3 (fun h19 => ?_)
        refine z_iconst dX12_weighHow_36 ?_
        refine z_aload_n dX12_weighHow_37 0 rfl ?_
        refine z_getI dX12_weighHow_38 (k := 41) zc_X12 lm_0 rfl (by decide) k_1079 (fun h20 => ?_)
        refine z_ishl dX12_weighHow_41 (fun h21 => ?_)
        refine z_icmp_ge dX12_weighHow_42 h19 h21 (tgt := 49) rfl (fun h22 => ?_) (fun h22 => ?_)
        · refine z_iconst dX12_weighHow_49 ?_
          refine z_istore dX12_weighHow_50 (lv' := [(4, .int (mI 0)), (0, .ref (ad 0)), (1, .int (mI x1)), (2, .int (mI x2)), (3, .int (mI x3))]) (by decide) rfl ?_
          refine z_iload_n dX12_weighHow_52 3 rfl ?_
          refine z_if_lt dX12_weighHow_53 hx2 (tgt := 67) rfl (fun h23 => ?_) (fun h23 => ?_)
          · refine z_iconst dX12_weighHow_67 ?_
            refine z_goto dX12_weighHow_68 (tgt := 72) rfl ?_
            exact zG_lvk (T_X12_weighHow_72 n r5 hr5 x1 x2 x3 0 1 m hx1 hx2 hx3 (by decide) (by decide)) [1, 2, 3, 4, 0] rfl
          · refine z_iload_n dX12_weighHow_56 4 rfl ?_
            refine z_callS1 dX12_weighHow_57 rfl (ct_X12_onesOf n x3 m hx3) k_1526 k_1527 k_10 k_1528 zn_X12_onesOf ⟨rfl, rfl, Nat.le_of_ble_eq_true rfl, Nat.le_of_ble_eq_true rfl⟩ (Nat.le_of_ble_eq_true rfl) rfl (fun v24 m25 h26 ho27 => ?_)
            refine z_iload_n dX12_weighHow_60 3 rfl ?_
            refine z_callS1 dX12_weighHow_61 rfl (ct_X12_onesOf n x2 m25 hx2) k_1526 k_1527 k_10 k_1528 zn_X12_onesOf ⟨rfl, rfl, Nat.le_of_ble_eq_true rfl, Nat.le_of_ble_eq_true rfl⟩ (Nat.le_of_ble_eq_true rfl) rfl (fun v28 m29 h30 ho31 => ?_)
            refine z_icmp_ge dX12_weighHow_64 h26 h30 (tgt := 71) rfl (fun h32 => ?_) (fun h32 => ?_)
            · refine z_iconst dX12_weighHow_71 ?_
              exact zG_lvk (T_X12_weighHow_72 n r5 hr5 x1 x2 x3 0 0 m29 hx1 hx2 hx3 (by decide) (by decide)) [1, 2, 3, 4, 0] rfl
            · refine z_iconst dX12_weighHow_67 ?_
              refine z_goto dX12_weighHow_68 (tgt := 72) rfl ?_
              exact zG_lvk (T_X12_weighHow_72 n r5 hr5 x1 x2 x3 0 1 m29 hx1 hx2 hx3 (by decide) (by decide)) [1, 2, 3, 4, 0] rfl
        · refine z_iconst dX12_weighHow_45 ?_
          refine z_goto dX12_weighHow_46 (tgt := 50) rfl ?_
          refine z_istore dX12_weighHow_50 (lv' := [(4, .int (mI 1)), (0, .ref (ad 0)), (1, .int (mI x1)), (2, .int (mI x2)), (3, .int (mI x3))]) (by decide) rfl ?_
          refine z_iload_n dX12_weighHow_52 3 rfl ?_
          refine z_if_lt dX12_weighHow_53 hx2 (tgt := 67) rfl (fun h33 => ?_) (fun h33 => ?_)
          · refine z_iconst dX12_weighHow_67 ?_
            refine z_goto dX12_weighHow_68 (tgt := 72) rfl ?_
            exact zG_lvk (T_X12_weighHow_72 n r5 hr5 x1 x2 x3 1 1 m hx1 hx2 hx3 (by decide) (by decide)) [1, 2, 3, 4, 0] rfl
          · refine z_iload_n dX12_weighHow_56 4 rfl ?_
            refine z_callS1 dX12_weighHow_57 rfl (ct_X12_onesOf n x3 m hx3) k_1526 k_1527 k_10 k_1528 zn_X12_onesOf ⟨rfl, rfl, Nat.le_of_ble_eq_true rfl, Nat.le_of_ble_eq_true rfl⟩ (Nat.le_of_ble_eq_true rfl) rfl (fun v34 m35 h36 ho37 => ?_)
            refine z_iload_n dX12_weighHow_60 3 rfl ?_
            refine z_callS1 dX12_weighHow_61 rfl (ct_X12_onesOf n x2 m35 hx2) k_1526 k_1527 k_10 k_1528 zn_X12_onesOf ⟨rfl, rfl, Nat.le_of_ble_eq_true rfl, Nat.le_of_ble_eq_true rfl⟩ (Nat.le_of_ble_eq_true rfl) rfl (fun v38 m39 h40 ho41 => ?_)
            refine z_icmp_ge dX12_weighHow_64 h36 h40 (tgt := 71) rfl (fun h42 => ?_) (fun h42 => ?_)
            · refine z_iconst dX12_weighHow_71 ?_
              exact zG_lvk (T_X12_weighHow_72 n r5 hr5 x1 x2 x3 1 0 m39 hx1 hx2 hx3 (by decide) (by decide)) [1, 2, 3, 4, 0] rfl
            · refine z_iconst dX12_weighHow_67 ?_
              refine z_goto dX12_weighHow_68 (tgt := 72) rfl ?_
              exact zG_lvk (T_X12_weighHow_72 n r5 hr5 x1 x2 x3 1 1 m39 hx1 hx2 hx3 (by decide) (by decide)) [1, 2, 3, 4, 0] rfl
    · refine z_iconst dX12_weighHow_49 ?_
      refine z_istore dX12_weighHow_50 (lv' := [(4, .int (mI 0)), (0, .ref (ad 0)), (1, .int (mI x1)), (2, .int (mI x2)), (3, .int (mI x3))]) (by decide) rfl ?_
      refine z_iload_n dX12_weighHow_52 3 rfl ?_
      refine z_if_lt dX12_weighHow_53 hx2 (tgt := 67) rfl (fun h43 => ?_) (fun h43 => ?_)
      · refine z_iconst dX12_weighHow_67 ?_
        refine z_goto dX12_weighHow_68 (tgt := 72) rfl ?_
        exact zG_lvk (T_X12_weighHow_72 n r5 hr5 x1 x2 x3 0 1 m hx1 hx2 hx3 (by decide) (by decide)) [1, 2, 3, 4, 0] rfl
      · refine z_iload_n dX12_weighHow_56 4 rfl ?_
        refine z_callS1 dX12_weighHow_57 rfl (ct_X12_onesOf n x3 m hx3) k_1526 k_1527 k_10 k_1528 zn_X12_onesOf ⟨rfl, rfl, Nat.le_of_ble_eq_true rfl, Nat.le_of_ble_eq_true rfl⟩ (Nat.le_of_ble_eq_true rfl) rfl (fun v44 m45 h46 ho47 => ?_)
        refine z_iload_n dX12_weighHow_60 3 rfl ?_
        refine z_callS1 dX12_weighHow_61 rfl (ct_X12_onesOf n x2 m45 hx2) k_1526 k_1527 k_10 k_1528 zn_X12_onesOf ⟨rfl, rfl, Nat.le_of_ble_eq_true rfl, Nat.le_of_ble_eq_true rfl⟩ (Nat.le_of_ble_eq_true rfl) rfl (fun v48 m49 h50 ho51 => ?_)
        refine z_icmp_ge dX12_weighHow_64 h46 h50 (tgt := 71) rfl (fun h52 => ?_) (fun h52 => ?_)
        · refine z_iconst dX12_weighHow_71 ?_
          exact zG_lvk (T_X12_weighHow_72 n r5 hr5 x1 x2 x3 0 0 m49 hx1 hx2 hx3 (by decide) (by decide)) [1, 2, 3, 4, 0] rfl
        · refine z_iconst dX12_weighHow_67 ?_
          refine z_goto dX12_weighHow_68 (tgt := 72) rfl ?_
          exact zG_lvk (T_X12_weighHow_72 n r5 hr5 x1 x2 x3 0 1 m49 hx1 hx2 hx3 (by decide) (by decide)) [1, 2, 3, 4, 0] rfl
theorem TL_X12_weighHow_5 {ad sc sv : Nat → Nat} (n : Nat) : ∀ q : Nat, ∀ (x1 : Int) (x2 : Int) (x3 : Int) (m : ZMem), R32 x1 → R32 x2 → R32 x3 → zG LM ad sc sv M_X12_weighHow 5 [(0, .ref (ad 0)), (1, .int (mI x1)), (2, .int (mI x2)), (3, .int (mI x3))] [] m (L_X12_weighHow_5 n q x1 x2 x3 m) := by
  intro q
  induction q with
  | zero => intros; exact zG_none
  | succ q ih => exact T_X12_weighHow_5 n (L_X12_weighHow_5 n q) ih
set_option maxRecDepth 20000 in
theorem ct_X12_weighHow {ad sc sv : Nat → Nat} (n : Nat) (a0 : Int) (m : ZMem) (ha0 : R32 a0) : zCT LM ad sc sv M_X12_weighHow yX12_weighHow [.ref (ad 0), .int (mI a0)] m (F_X12_weighHow n a0 m) := by
  refine zCT_of (lv := [(0, .ref (ad 0)), (1, .int (mI a0))]) (by decide) rfl (Nat.le_of_ble_eq_true rfl) rfl ?_
  unfold F_X12_weighHow
  refine z_bipush dX12_weighHow_0 (x := (-9)) (by decide +kernel) ?_
  refine z_istore_n dX12_weighHow_2 (lv' := [(2, .int (mI (-9))), (0, .ref (ad 0)), (1, .int (mI a0))]) (by decide) rfl ?_
  refine z_iconst dX12_weighHow_3 ?_
  refine z_istore_n dX12_weighHow_4 (lv' := [(3, .int (mI 0)), (2, .int (mI (-9))), (0, .ref (ad 0)), (1, .int (mI a0))]) (by decide) rfl ?_
  exact zG_lvk (TL_X12_weighHow_5 n n a0 (-9) 0 m ha0 (by decide) (by decide)) [2, 3, 1, 0] rfl
set_option maxRecDepth 20000 in
theorem ct_X12_weighed {ad sc sv : Nat → Nat} (n : Nat) (a0 : Int) (a1 : Int) (m : ZMem) (ha0 : R32 a0) (ha1 : R32 a1) : zCT LM ad sc sv M_X12_weighed yX12_weighed [.ref (ad 0), .int (mI a0), .int (mI a1)] m (F_X12_weighed n a0 a1 m) := by
  refine zCT_of (lv := [(0, .ref (ad 0)), (1, .int (mI a0)), (2, .int (mI a1))]) (by decide) rfl (Nat.le_of_ble_eq_true rfl) rfl ?_
  unfold F_X12_weighed
  refine z_aload_n dX12_weighed_0 0 rfl ?_
  refine z_iconst dX12_weighed_1 ?_
  refine z_putI dX12_weighed_2 (k := 16) zc_X12 lm_0 rfl (by decide) rfl rfl (by decide) k_1054 ?_
  refine z_iload_n dX12_weighed_5 1 rfl ?_
  refine z_iconst dX12_weighed_6 ?_
  refine z_sipush dX12_weighed_7 (x := 200) (by decide +kernel) ?_
  refine z_callS1 dX12_weighed_10 rfl (ct_X12_wrongNumber n a0 1 200 (wr m 0 16 0) ha0 (by decide) (by decide)) k_1318 k_1319 k_10 k_1320 zn_X12_wrongNumber ⟨rfl, rfl, Nat.le_of_ble_eq_true rfl, Nat.le_of_ble_eq_true rfl⟩ (Nat.le_of_ble_eq_true rfl) rfl (fun v1 m2 h3 ho4 => ?_)
  refine z_istore_n dX12_weighed_13 (lv' := [(3, .int (mI v1)), (0, .ref (ad 0)), (1, .int (mI a0)), (2, .int (mI a1))]) (by decide) rfl ?_
  refine z_iload_n dX12_weighed_14 0 rfl ?_
  refine z_if_ne dX12_weighed_15 h3 (tgt := 33) rfl (fun h5 => ?_) (fun h5 => ?_)
  · refine z_iload_n dX12_weighed_18 3 rfl ?_
    refine z_i2l dX12_weighed_19 ha1 (fun h6 => ?_)
    refine z_lconst dX12_weighed_20 (x := 0) (by decide +kernel) ?_
    refine z_lconst dX12_weighed_21 (x := 1) (by decide +kernel) ?_
    refine z_callS4 dX12_weighed_22 rfl (ct_X12_in n a1 0 1 m2 h6 (by decide) (by decide)) k_1220 k_1221 k_10 k_1222 zn_X12_in ⟨rfl, rfl, Nat.le_of_ble_eq_true rfl, Nat.le_of_ble_eq_true rfl⟩ (Nat.le_of_ble_eq_true rfl) rfl (fun v7 m8 h9 ho10 => ?_)
    refine z_if_ne dX12_weighed_25 (zb01 h9) (tgt := 33) rfl (fun h11 => ?_) (fun h11 => ?_)
    · refine z_bipush dX12_weighed_28 (x := (-2)) (by decide +kernel) ?_
      refine z_goto dX12_weighed_30 (tgt := 34) rfl ?_
      refine z_istore_n dX12_weighed_34 (lv' := [(3, .int (mI (-2))), (0, .ref (ad 0)), (1, .int (mI a0)), (2, .int (mI a1))]) (by decide) rfl ?_
      refine z_iload_n dX12_weighed_35 0 rfl ?_
      refine z_if_ge_f dX12_weighed_36 (by decide) (by decide) (tgt := 45) rfl ?_
      refine z_aload_n dX12_weighed_39 1 rfl ?_
      refine z_iload_n dX12_weighed_40 0 rfl ?_
      refine z_callV1 dX12_weighed_41 rfl (ct_X12_refuse n (-2) m8 (by decide)) zc_X12 lm_0 k_1194 k_1196 kp_37 k_10 k_1197 zn_X12_refuse ⟨rfl, rfl, Nat.le_of_ble_eq_true rfl, Nat.le_of_ble_eq_true rfl⟩ (Nat.le_of_ble_eq_true rfl) rfl (fun v12 m13 h14 ho15 => ?_)
      exact z_iret dX12_weighed_44 rfl rfl h14
    · refine z_iload_n dX12_weighed_33 0 rfl ?_
      refine z_istore_n dX12_weighed_34 (lv' := [(3, .int (mI v1)), (0, .ref (ad 0)), (1, .int (mI a0)), (2, .int (mI a1))]) (by decide) rfl ?_
      refine z_iload_n dX12_weighed_35 0 rfl ?_
      refine z_if_ge dX12_weighed_36 h3 (tgt := 45) rfl (fun h16 => ?_) (fun h16 => ?_)
      · refine z_aload_n dX12_weighed_45 1 rfl ?_
        refine z_iload_n dX12_weighed_46 2 rfl ?_
        refine z_callV1 dX12_weighed_47 rfl (ct_X12_weighHow n a0 m8 ha0) zc_X12 lm_0 k_1522 k_1524 kp_76 k_10 k_1525 zn_X12_weighHow ⟨rfl, rfl, Nat.le_of_ble_eq_true rfl, Nat.le_of_ble_eq_true rfl⟩ (Nat.le_of_ble_eq_true rfl) rfl (fun v17 m18 h19 ho20 => ?_)
        refine z_istore dX12_weighed_50 (lv' := [(4, .int (mI v17)), (3, .int (mI v1)), (0, .ref (ad 0)), (1, .int (mI a0)), (2, .int (mI a1))]) (by decide) rfl ?_
        refine z_iload_n dX12_weighed_52 4 rfl ?_
        refine z_if_ne dX12_weighed_53 ha1 (tgt := 69) rfl (fun h21 => ?_) (fun h21 => ?_)
        · refine z_iload dX12_weighed_56 0 rfl ?_
          refine z_if_lt dX12_weighed_58 h19 (tgt := 69) rfl (fun h22 => ?_) (fun h22 => ?_)
          · refine z_iload dX12_weighed_69 0 rfl ?_
            exact z_iret dX12_weighed_71 rfl rfl h19
          · refine z_iload dX12_weighed_61 0 rfl ?_
            refine z_callS1 dX12_weighed_63 rfl (ct_X12_onesOf n v17 m18 h19) k_1526 k_1527 k_10 k_1528 zn_X12_onesOf ⟨rfl, rfl, Nat.le_of_ble_eq_true rfl, Nat.le_of_ble_eq_true rfl⟩ (Nat.le_of_ble_eq_true rfl) rfl (fun v23 m24 h25 ho26 => ?_)
            refine z_goto dX12_weighed_66 (tgt := 71) rfl ?_
            exact z_iret dX12_weighed_71 rfl rfl h25
        · refine z_iload dX12_weighed_69 0 rfl ?_
          exact z_iret dX12_weighed_71 rfl rfl h19
      · refine z_aload_n dX12_weighed_39 1 rfl ?_
        refine z_iload_n dX12_weighed_40 0 rfl ?_
        refine z_callV1 dX12_weighed_41 rfl (ct_X12_refuse n v1 m8 h3) zc_X12 lm_0 k_1194 k_1196 kp_37 k_10 k_1197 zn_X12_refuse ⟨rfl, rfl, Nat.le_of_ble_eq_true rfl, Nat.le_of_ble_eq_true rfl⟩ (Nat.le_of_ble_eq_true rfl) rfl (fun v27 m28 h29 ho30 => ?_)
        exact z_iret dX12_weighed_44 rfl rfl h29
  · refine z_iload_n dX12_weighed_33 0 rfl ?_
    refine z_istore_n dX12_weighed_34 (lv' := [(3, .int (mI v1)), (0, .ref (ad 0)), (1, .int (mI a0)), (2, .int (mI a1))]) (by decide) rfl ?_
    refine z_iload_n dX12_weighed_35 0 rfl ?_
    refine z_if_ge dX12_weighed_36 h3 (tgt := 45) rfl (fun h31 => ?_) (fun h31 => ?_)
    · refine z_aload_n dX12_weighed_45 1 rfl ?_
      refine z_iload_n dX12_weighed_46 2 rfl ?_
      refine z_callV1 dX12_weighed_47 rfl (ct_X12_weighHow n a0 m2 ha0) zc_X12 lm_0 k_1522 k_1524 kp_76 k_10 k_1525 zn_X12_weighHow ⟨rfl, rfl, Nat.le_of_ble_eq_true rfl, Nat.le_of_ble_eq_true rfl⟩ (Nat.le_of_ble_eq_true rfl) rfl (fun v32 m33 h34 ho35 => ?_)
      refine z_istore dX12_weighed_50 (lv' := [(4, .int (mI v32)), (3, .int (mI v1)), (0, .ref (ad 0)), (1, .int (mI a0)), (2, .int (mI a1))]) (by decide) rfl ?_
      refine z_iload_n dX12_weighed_52 4 rfl ?_
      refine z_if_ne dX12_weighed_53 ha1 (tgt := 69) rfl (fun h36 => ?_) (fun h36 => ?_)
      · refine z_iload dX12_weighed_56 0 rfl ?_
        refine z_if_lt dX12_weighed_58 h34 (tgt := 69) rfl (fun h37 => ?_) (fun h37 => ?_)
        · refine z_iload dX12_weighed_69 0 rfl ?_
          exact z_iret dX12_weighed_71 rfl rfl h34
        · refine z_iload dX12_weighed_61 0 rfl ?_
          refine z_callS1 dX12_weighed_63 rfl (ct_X12_onesOf n v32 m33 h34) k_1526 k_1527 k_10 k_1528 zn_X12_onesOf ⟨rfl, rfl, Nat.le_of_ble_eq_true rfl, Nat.le_of_ble_eq_true rfl⟩ (Nat.le_of_ble_eq_true rfl) rfl (fun v38 m39 h40 ho41 => ?_)
          refine z_goto dX12_weighed_66 (tgt := 71) rfl ?_
          exact z_iret dX12_weighed_71 rfl rfl h40
      · refine z_iload dX12_weighed_69 0 rfl ?_
        exact z_iret dX12_weighed_71 rfl rfl h34
    · refine z_aload_n dX12_weighed_39 1 rfl ?_
      refine z_iload_n dX12_weighed_40 0 rfl ?_
      refine z_callV1 dX12_weighed_41 rfl (ct_X12_refuse n v1 m2 h3) zc_X12 lm_0 k_1194 k_1196 kp_37 k_10 k_1197 zn_X12_refuse ⟨rfl, rfl, Nat.le_of_ble_eq_true rfl, Nat.le_of_ble_eq_true rfl⟩ (Nat.le_of_ble_eq_true rfl) rfl (fun v42 m43 h44 ho45 => ?_)
      exact z_iret dX12_weighed_44 rfl rfl h44
set_option maxRecDepth 20000 in
theorem T_X12_heavy_74 {ad sc sv : Nat → Nat} (n : Nat) (r29 : Int → ZMem → ZR) (hr29 : ∀ (x1 : Int) (m : ZMem), R32 x1 → zG LM ad sc sv M_X12_heavy 29 [(0, .ref (ad 0)), (1, .int (mI x1))] [] m (r29 x1 m)) : ∀ (x1 : Int) (s0 : Int) (m : ZMem), R32 x1 → R32 s0 → zG LM ad sc sv M_X12_heavy 74 [(0, .ref (ad 0)), (1, .int (mI x1))] [.int (mI s0)] m (B_X12_heavy_74 n r29 x1 s0 m) := by
  intro x1 s0 m hx1 hs0
  unfold B_X12_heavy_74
  refine z_istore_n dX12_heavy_74 (lv' := [(2, .int (mI s0)), (0, .ref (ad 0)), (1, .int (mI x1))]) (by decide) rfl ?_
  refine z_aload_n dX12_heavy_75 1 rfl ?_
  refine z_iload_n dX12_heavy_76 2 rfl ?_
  refine z_callV1 dX12_heavy_77 rfl (ct_X12_weighedBy n x1 m hx1) zc_X12 lm_0 k_1529 k_1531 kp_77 k_10 k_1532 zn_X12_weighedBy ⟨rfl, rfl, Nat.le_of_ble_eq_true rfl, Nat.le_of_ble_eq_true rfl⟩ (Nat.le_of_ble_eq_true rfl) rfl (fun v22 m23 h24 ho25 => ?_)
  refine z_istore_n dX12_heavy_80 (lv' := [(3, .int (mI v22)), (2, .int (mI s0)), (0, .ref (ad 0)), (1, .int (mI x1))]) (by decide) rfl ?_
  refine z_iload_n dX12_heavy_81 1 rfl ?_
  refine z_if_eq dX12_heavy_82 hs0 (tgt := 104) rfl (fun h26 => ?_) (fun h26 => ?_)
  · refine z_iinc dX12_heavy_104 (lv' := [(1, .int (mI (x1 + 1))), (3, .int (mI v22)), (2, .int (mI s0)), (0, .ref (ad 0))]) 3 rfl (by decide) rfl (fun h27 => ?_)
    refine z_goto dX12_heavy_107 (tgt := 29) rfl ?_
    exact zG_lvk (hr29 (x1 + 1) m23 h27) [3, 0] rfl
  · refine z_iload_n dX12_heavy_85 0 rfl ?_
    refine z_i2l dX12_heavy_86 h24 (fun h28 => ?_)
    refine z_lconst dX12_heavy_87 (x := 1) (by decide +kernel) ?_
    refine z_ldc2 dX12_heavy_88 (x := 200) k_1537 ?_
    refine z_callS4 dX12_heavy_91 rfl (ct_X12_in n v22 1 200 m23 h28 (by decide) (by decide)) k_1220 k_1221 k_10 k_1222 zn_X12_in ⟨rfl, rfl, Nat.le_of_ble_eq_true rfl, Nat.le_of_ble_eq_true rfl⟩ (Nat.le_of_ble_eq_true rfl) rfl (fun v29 m30 h31 ho32 => ?_)
    refine z_if_eq dX12_heavy_94 (zb01 h31) (tgt := 104) rfl (fun h33 => ?_) (fun h33 => ?_)
    · refine z_iinc dX12_heavy_104 (lv' := [(1, .int (mI (x1 + 1))), (3, .int (mI v22)), (2, .int (mI s0)), (0, .ref (ad 0))]) 3 rfl (by decide) rfl (fun h34 => ?_)
      refine z_goto dX12_heavy_107 (tgt := 29) rfl ?_
      exact zG_lvk (hr29 (x1 + 1) m30 h34) [3, 0] rfl
    · refine z_aload_n dX12_heavy_97 2 rfl ?_
      refine z_getR dX12_heavy_98 (k := 42) (j := 24) zc_X12 lm_0 rfl (by decide) k_1080 ?_
      refine z_iload_n dX12_heavy_101 0 rfl ?_
      refine z_iconst dX12_heavy_102 ?_
      refine z_bastore dX12_heavy_103 h24 (by decide) ?_
      refine z_iinc dX12_heavy_104 (lv' := [(1, .int (mI (x1 + 1))), (3, .int (mI v22)), (2, .int (mI s0)), (0, .ref (ad 0))]) 3 rfl (by decide) rfl (fun h35 => ?_)
      refine z_goto dX12_heavy_107 (tgt := 29) rfl ?_
      exact zG_lvk (hr29 (x1 + 1) (wr m30 24 (v22 : Int).toNat 1) h35) [3, 0] rfl
set_option maxRecDepth 20000 in
theorem T_X12_heavy_114 {ad sc sv : Nat → Nat} (n : Nat) (r114 : Int → Int → ZMem → ZR) (hr114 : ∀ (x1 : Int) (x2 : Int) (m : ZMem), R32 x1 → R32 x2 → zG LM ad sc sv M_X12_heavy 114 [(0, .ref (ad 0)), (1, .int (mI x1)), (2, .int (mI x2))] [] m (r114 x1 x2 m)) : ∀ (x1 : Int) (x2 : Int) (m : ZMem), R32 x1 → R32 x2 → zG LM ad sc sv M_X12_heavy 114 [(0, .ref (ad 0)), (1, .int (mI x1)), (2, .int (mI x2))] [] m (B_X12_heavy_114 n r114 x1 x2 m) := by
  intro x1 x2 m hx1 hx2
  unfold B_X12_heavy_114
  refine z_iload_n dX12_heavy_114 2 rfl ?_
  refine z_sipush dX12_heavy_115 (x := 200) (by decide +kernel) ?_
  refine z_icmp_gt dX12_heavy_118 hx2 (by decide) (tgt := 144) rfl (fun h15 => ?_) (fun h15 => ?_)
  · refine z_iload_n dX12_heavy_144 1 rfl ?_
    exact z_iret dX12_heavy_145 rfl rfl hx1
  · refine z_iload_n dX12_heavy_121 1 rfl ?_
    refine z_aload_n dX12_heavy_122 0 rfl ?_
    refine z_getR dX12_heavy_123 (k := 42) (j := 24) zc_X12 lm_0 rfl (by decide) k_1080 ?_
    refine z_iload_n dX12_heavy_126 2 rfl ?_
    refine z_baload dX12_heavy_127 hx2 (fun h16 => ?_)
    refine z_if_eq dX12_heavy_128 h16 (tgt := 135) rfl (fun h17 => ?_) (fun h17 => ?_)
    · refine z_iconst dX12_heavy_135 ?_
      refine z_iadd dX12_heavy_136 (fun h18 => ?_)
      refine z_istore_n dX12_heavy_137 (lv' := [(1, .int (mI (x1 + 0))), (0, .ref (ad 0)), (2, .int (mI x2))]) (by decide) rfl ?_
      refine z_iinc dX12_heavy_138 (lv' := [(2, .int (mI (x2 + 1))), (1, .int (mI (x1 + 0))), (0, .ref (ad 0))]) 2 rfl (by decide) rfl (fun h19 => ?_)
      refine z_goto dX12_heavy_141 (tgt := 114) rfl ?_
      exact zG_lvk (hr114 (x1 + 0) (x2 + 1) m h18 h19) [2, 1, 0] rfl
    · refine z_iconst dX12_heavy_131 ?_
      refine z_goto dX12_heavy_132 (tgt := 136) rfl ?_
      refine z_iadd dX12_heavy_136 (fun h20 => ?_)
      refine z_istore_n dX12_heavy_137 (lv' := [(1, .int (mI (x1 + 1))), (0, .ref (ad 0)), (2, .int (mI x2))]) (by decide) rfl ?_
      refine z_iinc dX12_heavy_138 (lv' := [(2, .int (mI (x2 + 1))), (1, .int (mI (x1 + 1))), (0, .ref (ad 0))]) 2 rfl (by decide) rfl (fun h21 => ?_)
      refine z_goto dX12_heavy_141 (tgt := 114) rfl ?_
      exact zG_lvk (hr114 (x1 + 1) (x2 + 1) m h20 h21) [2, 1, 0] rfl
theorem TL_X12_heavy_114 {ad sc sv : Nat → Nat} (n : Nat) : ∀ q : Nat, ∀ (x1 : Int) (x2 : Int) (m : ZMem), R32 x1 → R32 x2 → zG LM ad sc sv M_X12_heavy 114 [(0, .ref (ad 0)), (1, .int (mI x1)), (2, .int (mI x2))] [] m (L_X12_heavy_114 n q x1 x2 m) := by
  intro q
  induction q with
  | zero => intros; exact zG_none
  | succ q ih => exact T_X12_heavy_114 n (L_X12_heavy_114 n q) ih
set_option maxRecDepth 20000 in
theorem T_X12_heavy_29 {ad sc sv : Nat → Nat} (n : Nat) (r29 : Int → ZMem → ZR) (hr29 : ∀ (x1 : Int) (m : ZMem), R32 x1 → zG LM ad sc sv M_X12_heavy 29 [(0, .ref (ad 0)), (1, .int (mI x1))] [] m (r29 x1 m)) : ∀ (x1 : Int) (m : ZMem), R32 x1 → zG LM ad sc sv M_X12_heavy 29 [(0, .ref (ad 0)), (1, .int (mI x1))] [] m (B_X12_heavy_29 n r29 x1 m) := by
  intro x1 m hx1
  unfold B_X12_heavy_29
  refine z_iload_n dX12_heavy_29 1 rfl ?_
  refine z_sipush dX12_heavy_30 (x := 1024) (by decide +kernel) ?_
  refine z_icmp_ge dX12_heavy_33 hx1 (by decide) (tgt := 110) rfl (fun h3 => ?_) (fun h3 => ?_)
  · refine z_iconst dX12_heavy_110 ?_
    refine z_istore_n dX12_heavy_111 (lv' := [(1, .int (mI 0)), (0, .ref (ad 0))]) (by decide) rfl ?_
    refine z_iconst dX12_heavy_112 ?_
    refine z_istore_n dX12_heavy_113 (lv' := [(2, .int (mI 1)), (1, .int (mI 0)), (0, .ref (ad 0))]) (by decide) rfl ?_
    exact zG_lvk (TL_X12_heavy_114 n n 0 1 m (by decide) (by decide)) [2, 1, 0] rfl
  · refine z_iload_n dX12_heavy_36 1 rfl ?_
    refine z_iload_n dX12_heavy_37 1 rfl ?_
    refine z_iconst dX12_heavy_38 ?_
    refine z_ishr dX12_heavy_39 hx1 (fun h4 => ?_)
    refine z_iand dX12_heavy_40 hx1 (fun h5 => ?_)
    refine z_if_ne dX12_heavy_41 h5 (tgt := 73) rfl (fun h6 => ?_) (fun h6 => ?_)
    · refine z_iload_n dX12_heavy_44 1 rfl ?_
      refine z_bipush dX12_heavy_45 (x := 31) (by decide +kernel) ?_
      refine z_iandm dX12_heavy_47 5 (by decide +kernel) (by decide) (fun h7 => ?_)
      refine z_iconst dX12_heavy_48 ?_
      refine z_aload_n dX12_heavy_49 0 rfl ?_
      refine z_getI dX12_heavy_50 (k := 41) zc_X12 lm_0 rfl (by decide) k_1079 (fun h8 => ?_)
      refine z_ishl dX12_heavy_53 (fun h9 => ?_)
      refine z_icmp_ge dX12_heavy_54 h7 h9 (tgt := 73) rfl (fun h10 => ?_) (fun h10 => ?_)
      · refine z_iconst dX12_heavy_73 ?_
        exact zG_lvk (T_X12_heavy_74 n r29 hr29 x1 0 m hx1 (by decide)) [0, 1] rfl
      · refine z_iload_n dX12_heavy_57 1 rfl ?_
        refine z_iconst dX12_heavy_58 ?_
        refine z_ishr dX12_heavy_59 hx1 (fun h11 => ?_)
        refine z_iconst dX12_heavy_60 ?_
        refine z_aload_n dX12_heavy_61 0 rfl ?_
        refine z_getI dX12_heavy_62 (k := 41) zc_X12 lm_0 rfl (by decide) k_1079 (fun h12 => ?_)
        refine z_ishl dX12_heavy_65 (fun h13 => ?_)
        refine z_icmp_ge dX12_heavy_66 h11 h13 (tgt := 73) rfl (fun h14 => ?_) (fun h14 => ?_)
        · refine z_iconst dX12_heavy_73 ?_
          exact zG_lvk (T_X12_heavy_74 n r29 hr29 x1 0 m hx1 (by decide)) [0, 1] rfl
        · refine z_iconst dX12_heavy_69 ?_
          refine z_goto dX12_heavy_70 (tgt := 74) rfl ?_
          exact zG_lvk (T_X12_heavy_74 n r29 hr29 x1 1 m hx1 (by decide)) [0, 1] rfl
    · refine z_iconst dX12_heavy_73 ?_
      exact zG_lvk (T_X12_heavy_74 n r29 hr29 x1 0 m hx1 (by decide)) [0, 1] rfl
theorem TL_X12_heavy_29 {ad sc sv : Nat → Nat} (n : Nat) : ∀ q : Nat, ∀ (x1 : Int) (m : ZMem), R32 x1 → zG LM ad sc sv M_X12_heavy 29 [(0, .ref (ad 0)), (1, .int (mI x1))] [] m (L_X12_heavy_29 n q x1 m) := by
  intro q
  induction q with
  | zero => intros; exact zG_none
  | succ q ih => exact T_X12_heavy_29 n (L_X12_heavy_29 n q) ih
set_option maxRecDepth 20000 in
theorem T_X12_heavy_7 {ad sc sv : Nat → Nat} (n : Nat) (r7 : Int → ZMem → ZR) (hr7 : ∀ (x1 : Int) (m : ZMem), R32 x1 → zG LM ad sc sv M_X12_heavy 7 [(0, .ref (ad 0)), (1, .int (mI x1))] [] m (r7 x1 m)) : ∀ (x1 : Int) (m : ZMem), R32 x1 → zG LM ad sc sv M_X12_heavy 7 [(0, .ref (ad 0)), (1, .int (mI x1))] [] m (B_X12_heavy_7 n r7 x1 m) := by
  intro x1 m hx1
  unfold B_X12_heavy_7
  refine z_iload_n dX12_heavy_7 1 rfl ?_
  refine z_sipush dX12_heavy_8 (x := 200) (by decide +kernel) ?_
  refine z_icmp_gt dX12_heavy_11 hx1 (by decide) (tgt := 27) rfl (fun h1 => ?_) (fun h1 => ?_)
  · refine z_iconst dX12_heavy_27 ?_
    refine z_istore_n dX12_heavy_28 (lv' := [(1, .int (mI 0)), (0, .ref (ad 0))]) (by decide) rfl ?_
    exact zG_lvk (TL_X12_heavy_29 n n 0 m (by decide)) [1, 0] rfl
  · refine z_aload_n dX12_heavy_14 0 rfl ?_
    refine z_getR dX12_heavy_15 (k := 42) (j := 24) zc_X12 lm_0 rfl (by decide) k_1080 ?_
    refine z_iload_n dX12_heavy_18 1 rfl ?_
    refine z_iconst dX12_heavy_19 ?_
    refine z_bastore dX12_heavy_20 hx1 (by decide) ?_
    refine z_iinc dX12_heavy_21 (lv' := [(1, .int (mI (x1 + 1))), (0, .ref (ad 0))]) 1 rfl (by decide) rfl (fun h2 => ?_)
    refine z_goto dX12_heavy_24 (tgt := 7) rfl ?_
    exact zG_lvk (hr7 (x1 + 1) (wr m 24 (x1 : Int).toNat 0) h2) [1, 0] rfl
theorem TL_X12_heavy_7 {ad sc sv : Nat → Nat} (n : Nat) : ∀ q : Nat, ∀ (x1 : Int) (m : ZMem), R32 x1 → zG LM ad sc sv M_X12_heavy 7 [(0, .ref (ad 0)), (1, .int (mI x1))] [] m (L_X12_heavy_7 n q x1 m) := by
  intro q
  induction q with
  | zero => intros; exact zG_none
  | succ q ih => exact T_X12_heavy_7 n (L_X12_heavy_7 n q) ih
set_option maxRecDepth 20000 in
theorem ct_X12_heavy {ad sc sv : Nat → Nat} (n : Nat) (m : ZMem) : zCT LM ad sc sv M_X12_heavy yX12_heavy [.ref (ad 0)] m (F_X12_heavy n m) := by
  refine zCT_of (lv := [(0, .ref (ad 0))]) (by decide) rfl (Nat.le_of_ble_eq_true rfl) rfl ?_
  unfold F_X12_heavy
  refine z_aload_n dX12_heavy_0 0 rfl ?_
  refine z_iconst dX12_heavy_1 ?_
  refine z_putI dX12_heavy_2 (k := 16) zc_X12 lm_0 rfl (by decide) rfl rfl (by decide) k_1054 ?_
  refine z_iconst dX12_heavy_5 ?_
  refine z_istore_n dX12_heavy_6 (lv' := [(1, .int (mI 0)), (0, .ref (ad 0))]) (by decide) rfl ?_
  exact zG_lvk (TL_X12_heavy_7 n n 0 (wr m 0 16 0) (by decide)) [1, 0] rfl
set_option maxRecDepth 20000 in
theorem ct_X12_latestShelf {ad sc sv : Nat → Nat} (n : Nat) (m : ZMem) : zCT LM ad sc sv M_X12_latestShelf yX12_latestShelf [.ref (ad 0)] m (F_X12_latestShelf n m) := by
  refine zCT_of (lv := [(0, .ref (ad 0))]) (by decide) rfl (Nat.le_of_ble_eq_true rfl) rfl ?_
  unfold F_X12_latestShelf
  refine z_aload_n dX12_latestShelf_0 0 rfl ?_
  refine z_getR dX12_latestShelf_1 (k := 43) (j := 25) zc_X12 lm_0 rfl (by decide) k_1081 ?_
  refine z_iconst dX12_latestShelf_4 ?_
  refine z_iaload dX12_latestShelf_5 (by decide) (fun h1 => ?_)
  refine z_aload_n dX12_latestShelf_6 0 rfl ?_
  refine z_getR dX12_latestShelf_7 (k := 43) (j := 25) zc_X12 lm_0 rfl (by decide) k_1081 ?_
  refine z_iconst dX12_latestShelf_10 ?_
  refine z_iaload dX12_latestShelf_11 (by decide) (fun h2 => ?_)
  refine z_icmp_le dX12_latestShelf_12 h1 h2 (tgt := 24) rfl (fun h3 => ?_) (fun h3 => ?_)
  · refine z_aload_n dX12_latestShelf_24 0 rfl ?_
    refine z_getR dX12_latestShelf_25 (k := 43) (j := 25) zc_X12 lm_0 rfl (by decide) k_1081 ?_
    refine z_iconst dX12_latestShelf_28 ?_
    refine z_iaload dX12_latestShelf_29 (by decide) (fun h4 => ?_)
    refine z_istore_n dX12_latestShelf_30 (lv' := [(1, .int (mI (m 25 (1 : Int).toNat))), (0, .ref (ad 0))]) (by decide) rfl ?_
    refine z_iload_n dX12_latestShelf_31 0 rfl ?_
    refine z_aload_n dX12_latestShelf_32 1 rfl ?_
    refine z_getR dX12_latestShelf_33 (k := 43) (j := 25) zc_X12 lm_0 rfl (by decide) k_1081 ?_
    refine z_iconst dX12_latestShelf_36 ?_
    refine z_iaload dX12_latestShelf_37 (by decide) (fun h5 => ?_)
    refine z_icmp_le dX12_latestShelf_38 h4 h5 (tgt := 45) rfl (fun h6 => ?_) (fun h6 => ?_)
    · refine z_aload_n dX12_latestShelf_45 1 rfl ?_
      refine z_getR dX12_latestShelf_46 (k := 43) (j := 25) zc_X12 lm_0 rfl (by decide) k_1081 ?_
      refine z_iconst dX12_latestShelf_49 ?_
      refine z_iaload dX12_latestShelf_50 (by decide) (fun h7 => ?_)
      exact z_iret dX12_latestShelf_51 rfl rfl h7
    · refine z_iload_n dX12_latestShelf_41 0 rfl ?_
      refine z_goto dX12_latestShelf_42 (tgt := 51) rfl ?_
      exact z_iret dX12_latestShelf_51 rfl rfl h4
  · refine z_aload_n dX12_latestShelf_15 0 rfl ?_
    refine z_getR dX12_latestShelf_16 (k := 43) (j := 25) zc_X12 lm_0 rfl (by decide) k_1081 ?_
    refine z_iconst dX12_latestShelf_19 ?_
    refine z_iaload dX12_latestShelf_20 (by decide) (fun h8 => ?_)
    refine z_goto dX12_latestShelf_21 (tgt := 30) rfl ?_
    refine z_istore_n dX12_latestShelf_30 (lv' := [(1, .int (mI (m 25 (0 : Int).toNat))), (0, .ref (ad 0))]) (by decide) rfl ?_
    refine z_iload_n dX12_latestShelf_31 0 rfl ?_
    refine z_aload_n dX12_latestShelf_32 1 rfl ?_
    refine z_getR dX12_latestShelf_33 (k := 43) (j := 25) zc_X12 lm_0 rfl (by decide) k_1081 ?_
    refine z_iconst dX12_latestShelf_36 ?_
    refine z_iaload dX12_latestShelf_37 (by decide) (fun h9 => ?_)
    refine z_icmp_le dX12_latestShelf_38 h8 h9 (tgt := 45) rfl (fun h10 => ?_) (fun h10 => ?_)
    · refine z_aload_n dX12_latestShelf_45 1 rfl ?_
      refine z_getR dX12_latestShelf_46 (k := 43) (j := 25) zc_X12 lm_0 rfl (by decide) k_1081 ?_
      refine z_iconst dX12_latestShelf_49 ?_
      refine z_iaload dX12_latestShelf_50 (by decide) (fun h11 => ?_)
      exact z_iret dX12_latestShelf_51 rfl rfl h11
    · refine z_iload_n dX12_latestShelf_41 0 rfl ?_
      refine z_goto dX12_latestShelf_42 (tgt := 51) rfl ?_
      exact z_iret dX12_latestShelf_51 rfl rfl h8
set_option maxRecDepth 20000 in
theorem T_X12_emptyShelves_2 {ad sc sv : Nat → Nat} (n : Nat) (r2 : Int → ZMem → ZR) (hr2 : ∀ (x1 : Int) (m : ZMem), R32 x1 → zG LM ad sc sv M_X12_emptyShelves 2 [(0, .ref (ad 0)), (1, .int (mI x1))] [] m (r2 x1 m)) : ∀ (x1 : Int) (m : ZMem), R32 x1 → zG LM ad sc sv M_X12_emptyShelves 2 [(0, .ref (ad 0)), (1, .int (mI x1))] [] m (B_X12_emptyShelves_2 n r2 x1 m) := by
  intro x1 m hx1
  unfold B_X12_emptyShelves_2
  refine z_iload_n dX12_emptyShelves_2 1 rfl ?_
  refine z_iconst dX12_emptyShelves_3 ?_
  refine z_icmp_ge dX12_emptyShelves_4 hx1 (by decide) (tgt := 20) rfl (fun h1 => ?_) (fun h1 => ?_)
  · exact z_vret dX12_emptyShelves_20 rfl rfl
  · refine z_aload_n dX12_emptyShelves_7 0 rfl ?_
    refine z_getR dX12_emptyShelves_8 (k := 43) (j := 25) zc_X12 lm_0 rfl (by decide) k_1081 ?_
    refine z_iload_n dX12_emptyShelves_11 1 rfl ?_
    refine z_iconst dX12_emptyShelves_12 ?_
    refine z_iastore dX12_emptyShelves_13 hx1 (by decide) ?_
    refine z_iinc dX12_emptyShelves_14 (lv' := [(1, .int (mI (x1 + 1))), (0, .ref (ad 0))]) 1 rfl (by decide) rfl (fun h2 => ?_)
    refine z_goto dX12_emptyShelves_17 (tgt := 2) rfl ?_
    exact zG_lvk (hr2 (x1 + 1) (wr m 25 (x1 : Int).toNat 0) h2) [1, 0] rfl
theorem TL_X12_emptyShelves_2 {ad sc sv : Nat → Nat} (n : Nat) : ∀ q : Nat, ∀ (x1 : Int) (m : ZMem), R32 x1 → zG LM ad sc sv M_X12_emptyShelves 2 [(0, .ref (ad 0)), (1, .int (mI x1))] [] m (L_X12_emptyShelves_2 n q x1 m) := by
  intro q
  induction q with
  | zero => intros; exact zG_none
  | succ q ih => exact T_X12_emptyShelves_2 n (L_X12_emptyShelves_2 n q) ih
set_option maxRecDepth 20000 in
theorem ct_X12_emptyShelves {ad sc sv : Nat → Nat} (n : Nat) (m : ZMem) : zCT LM ad sc sv M_X12_emptyShelves yX12_emptyShelves [.ref (ad 0)] m (F_X12_emptyShelves n m) := by
  refine zCT_of (lv := [(0, .ref (ad 0))]) (by decide) rfl (Nat.le_of_ble_eq_true rfl) rfl ?_
  unfold F_X12_emptyShelves
  refine z_iconst dX12_emptyShelves_0 ?_
  refine z_istore_n dX12_emptyShelves_1 (lv' := [(1, .int (mI 0)), (0, .ref (ad 0))]) (by decide) rfl ?_
  exact zG_lvk (TL_X12_emptyShelves_2 n n 0 m (by decide)) [1, 0] rfl
set_option maxRecDepth 20000 in
theorem T_X12_inTurn_19 {ad sc sv : Nat → Nat} (n : Nat) (r6 : Int → Int → ZMem → ZR) (r19 : Int → Int → Int → Int → ZMem → ZR) (hr6 : ∀ (x1 : Int) (x2 : Int) (m : ZMem), R32 x1 → R32 x2 → zG LM ad sc sv M_X12_inTurn 6 [(0, .ref (ad 0)), (1, .int (mI x1)), (2, .int (mI x2))] [] m (r6 x1 x2 m)) (hr19 : ∀ (x1 : Int) (x2 : Int) (x3 : Int) (x4 : Int) (m : ZMem), R32 x1 → R32 x2 → R32 x3 → R32 x4 → zG LM ad sc sv M_X12_inTurn 19 [(0, .ref (ad 0)), (1, .int (mI x1)), (2, .int (mI x2)), (3, .int (mI x3)), (4, .int (mI x4))] [] m (r19 x1 x2 x3 x4 m)) : ∀ (x1 : Int) (x2 : Int) (x3 : Int) (x4 : Int) (m : ZMem), R32 x1 → R32 x2 → R32 x3 → R32 x4 → zG LM ad sc sv M_X12_inTurn 19 [(0, .ref (ad 0)), (1, .int (mI x1)), (2, .int (mI x2)), (3, .int (mI x3)), (4, .int (mI x4))] [] m (B_X12_inTurn_19 n r6 r19 x1 x2 x3 x4 m) := by
  intro x1 x2 x3 x4 m hx1 hx2 hx3 hx4
  unfold B_X12_inTurn_19
  refine z_iload dX12_inTurn_19 4 rfl ?_
  refine z_iload_n dX12_inTurn_21 1 rfl ?_
  refine z_icmp_ge dX12_inTurn_22 hx4 hx1 (tgt := 54) rfl (fun h11 => ?_) (fun h11 => ?_)
  · refine z_aload_n dX12_inTurn_54 0 rfl ?_
    refine z_getR dX12_inTurn_55 (k := 43) (j := 25) zc_X12 lm_0 rfl (by decide) k_1081 ?_
    refine z_iload_n dX12_inTurn_58 3 rfl ?_
    refine z_dup2 dX12_inTurn_59 rfl rfl ?_
    refine z_iaload dX12_inTurn_60 hx3 (fun h12 => ?_)
    refine z_aload_n dX12_inTurn_61 0 rfl ?_
    refine z_getR dX12_inTurn_62 (k := 48) (j := 29) zc_X12 lm_0 rfl (by decide) k_1086 ?_
    refine z_iload_n dX12_inTurn_65 2 rfl ?_
    refine z_iaload dX12_inTurn_66 hx2 (fun h13 => ?_)
    refine z_iadd dX12_inTurn_67 (fun h14 => ?_)
    refine z_iastore dX12_inTurn_68 hx3 h14 ?_
    refine z_iinc dX12_inTurn_69 (lv' := [(2, .int (mI (x2 + 1))), (0, .ref (ad 0)), (1, .int (mI x1)), (3, .int (mI x3)), (4, .int (mI x4))]) 2 rfl (by decide) rfl (fun h15 => ?_)
    refine z_goto dX12_inTurn_72 (tgt := 6) rfl ?_
    exact zG_lvk (hr6 x1 (x2 + 1) (wr m 25 (x3 : Int).toNat ((m 25 (x3 : Int).toNat) + (m 29 (x2 : Int).toNat))) hx1 h15) [1, 2, 0] rfl
  · refine z_aload_n dX12_inTurn_25 0 rfl ?_
    refine z_getR dX12_inTurn_26 (k := 43) (j := 25) zc_X12 lm_0 rfl (by decide) k_1081 ?_
    refine z_iload dX12_inTurn_29 4 rfl ?_
    refine z_iaload dX12_inTurn_31 hx4 (fun h16 => ?_)
    refine z_aload_n dX12_inTurn_32 0 rfl ?_
    refine z_getR dX12_inTurn_33 (k := 43) (j := 25) zc_X12 lm_0 rfl (by decide) k_1081 ?_
    refine z_iload_n dX12_inTurn_36 3 rfl ?_
    refine z_iaload dX12_inTurn_37 hx3 (fun h17 => ?_)
    refine z_icmp_ge dX12_inTurn_38 h16 h17 (tgt := 46) rfl (fun h18 => ?_) (fun h18 => ?_)
    · refine z_iload_n dX12_inTurn_46 3 rfl ?_
      refine z_istore_n dX12_inTurn_47 (lv' := [(3, .int (mI x3)), (0, .ref (ad 0)), (1, .int (mI x1)), (2, .int (mI x2)), (4, .int (mI x4))]) (by decide) rfl ?_
      refine z_iinc dX12_inTurn_48 (lv' := [(4, .int (mI (x4 + 1))), (3, .int (mI x3)), (0, .ref (ad 0)), (1, .int (mI x1)), (2, .int (mI x2))]) 4 rfl (by decide) rfl (fun h19 => ?_)
      refine z_goto dX12_inTurn_51 (tgt := 19) rfl ?_
      exact zG_lvk (hr19 x1 x2 x3 (x4 + 1) m hx1 hx2 hx3 h19) [2, 3, 4, 1, 0] rfl
    · refine z_iload dX12_inTurn_41 4 rfl ?_
      refine z_goto dX12_inTurn_43 (tgt := 47) rfl ?_
      refine z_istore_n dX12_inTurn_47 (lv' := [(3, .int (mI x4)), (0, .ref (ad 0)), (1, .int (mI x1)), (2, .int (mI x2)), (4, .int (mI x4))]) (by decide) rfl ?_
      refine z_iinc dX12_inTurn_48 (lv' := [(4, .int (mI (x4 + 1))), (3, .int (mI x4)), (0, .ref (ad 0)), (1, .int (mI x1)), (2, .int (mI x2))]) 4 rfl (by decide) rfl (fun h20 => ?_)
      refine z_goto dX12_inTurn_51 (tgt := 19) rfl ?_
      exact zG_lvk (hr19 x1 x2 x4 (x4 + 1) m hx1 hx2 hx4 h20) [2, 3, 4, 1, 0] rfl
theorem TL_X12_inTurn_19 {ad sc sv : Nat → Nat} (n : Nat) (r6 : Int → Int → ZMem → ZR) (hr6 : ∀ (x1 : Int) (x2 : Int) (m : ZMem), R32 x1 → R32 x2 → zG LM ad sc sv M_X12_inTurn 6 [(0, .ref (ad 0)), (1, .int (mI x1)), (2, .int (mI x2))] [] m (r6 x1 x2 m)) : ∀ q : Nat, ∀ (x1 : Int) (x2 : Int) (x3 : Int) (x4 : Int) (m : ZMem), R32 x1 → R32 x2 → R32 x3 → R32 x4 → zG LM ad sc sv M_X12_inTurn 19 [(0, .ref (ad 0)), (1, .int (mI x1)), (2, .int (mI x2)), (3, .int (mI x3)), (4, .int (mI x4))] [] m (L_X12_inTurn_19 n r6 q x1 x2 x3 x4 m) := by
  intro q
  induction q with
  | zero => intros; exact zG_none
  | succ q ih => exact T_X12_inTurn_19 n r6 (L_X12_inTurn_19 n r6 q) hr6 ih
set_option maxRecDepth 20000 in
theorem T_X12_inTurn_6 {ad sc sv : Nat → Nat} (n : Nat) (r6 : Int → Int → ZMem → ZR) (hr6 : ∀ (x1 : Int) (x2 : Int) (m : ZMem), R32 x1 → R32 x2 → zG LM ad sc sv M_X12_inTurn 6 [(0, .ref (ad 0)), (1, .int (mI x1)), (2, .int (mI x2))] [] m (r6 x1 x2 m)) : ∀ (x1 : Int) (x2 : Int) (m : ZMem), R32 x1 → R32 x2 → zG LM ad sc sv M_X12_inTurn 6 [(0, .ref (ad 0)), (1, .int (mI x1)), (2, .int (mI x2))] [] m (B_X12_inTurn_6 n r6 x1 x2 m) := by
  intro x1 x2 m hx1 hx2
  unfold B_X12_inTurn_6
  refine z_iload_n dX12_inTurn_6 2 rfl ?_
  refine z_aload_n dX12_inTurn_7 0 rfl ?_
  refine z_getI dX12_inTurn_8 (k := 49) zc_X12 lm_0 rfl (by decide) k_1087 (fun h5 => ?_)
  refine z_icmp_ge dX12_inTurn_11 hx2 h5 (tgt := 75) rfl (fun h6 => ?_) (fun h6 => ?_)
  · refine z_aload_n dX12_inTurn_75 0 rfl ?_
    refine z_callV1 dX12_inTurn_76 rfl (ct_X12_latestShelf n m) zc_X12 lm_0 k_1550 k_1552 kp_80 k_10 k_1553 zn_X12_latestShelf ⟨rfl, rfl, Nat.le_of_ble_eq_true rfl, Nat.le_of_ble_eq_true rfl⟩ (Nat.le_of_ble_eq_true rfl) rfl (fun v7 m8 h9 ho10 => ?_)
    exact z_iret dX12_inTurn_79 rfl rfl h9
  · refine z_iconst dX12_inTurn_14 ?_
    refine z_istore_n dX12_inTurn_15 (lv' := [(3, .int (mI 0)), (0, .ref (ad 0)), (1, .int (mI x1)), (2, .int (mI x2))]) (by decide) rfl ?_
    refine z_iconst dX12_inTurn_16 ?_
    refine z_istore dX12_inTurn_17 (lv' := [(4, .int (mI 1)), (3, .int (mI 0)), (0, .ref (ad 0)), (1, .int (mI x1)), (2, .int (mI x2))]) (by decide) rfl ?_
    exact zG_lvk (TL_X12_inTurn_19 n r6 hr6 n x1 x2 0 1 m hx1 hx2 (by decide) (by decide)) [2, 3, 4, 1, 0] rfl
theorem TL_X12_inTurn_6 {ad sc sv : Nat → Nat} (n : Nat) : ∀ q : Nat, ∀ (x1 : Int) (x2 : Int) (m : ZMem), R32 x1 → R32 x2 → zG LM ad sc sv M_X12_inTurn 6 [(0, .ref (ad 0)), (1, .int (mI x1)), (2, .int (mI x2))] [] m (L_X12_inTurn_6 n q x1 x2 m) := by
  intro q
  induction q with
  | zero => intros; exact zG_none
  | succ q ih => exact T_X12_inTurn_6 n (L_X12_inTurn_6 n q) ih
set_option maxRecDepth 20000 in
theorem ct_X12_inTurn {ad sc sv : Nat → Nat} (n : Nat) (a0 : Int) (m : ZMem) (ha0 : R32 a0) : zCT LM ad sc sv M_X12_inTurn yX12_inTurn [.ref (ad 0), .int (mI a0)] m (F_X12_inTurn n a0 m) := by
  refine zCT_of (lv := [(0, .ref (ad 0)), (1, .int (mI a0))]) (by decide) rfl (Nat.le_of_ble_eq_true rfl) rfl ?_
  unfold F_X12_inTurn
  refine z_aload_n dX12_inTurn_0 0 rfl ?_
  refine z_callV0 dX12_inTurn_1 rfl (ct_X12_emptyShelves n m) zc_X12 lm_0 k_1546 k_1548 kp_79 k_10 k_1549 zn_X12_emptyShelves ⟨rfl, rfl, Nat.le_of_ble_eq_true rfl, Nat.le_of_ble_eq_true rfl⟩ (Nat.le_of_ble_eq_true rfl) rfl (fun v1 m2 ho4 => ?_)
  refine z_iconst dX12_inTurn_4 ?_
  refine z_istore_n dX12_inTurn_5 (lv' := [(2, .int (mI 0)), (0, .ref (ad 0)), (1, .int (mI a0))]) (by decide) rfl ?_
  exact zG_lvk (TL_X12_inTurn_6 n n a0 0 m2 ha0 (by decide)) [1, 2, 0] rfl
set_option maxRecDepth 20000 in
theorem T_X12_doneBy_6 {ad sc sv : Nat → Nat} (n : Nat) (r6 : Int → Int → Int → ZMem → ZR) (hr6 : ∀ (x1 : Int) (x2 : Int) (x3 : Int) (m : ZMem), R32 x1 → R32 x2 → R32 x3 → zG LM ad sc sv M_X12_doneBy 6 [(0, .ref (ad 0)), (1, .int (mI x1)), (2, .int (mI x2)), (3, .int (mI x3))] [] m (r6 x1 x2 x3 m)) : ∀ (x1 : Int) (x2 : Int) (x3 : Int) (m : ZMem), R32 x1 → R32 x2 → R32 x3 → zG LM ad sc sv M_X12_doneBy 6 [(0, .ref (ad 0)), (1, .int (mI x1)), (2, .int (mI x2)), (3, .int (mI x3))] [] m (B_X12_doneBy_6 n r6 x1 x2 x3 m) := by
  intro x1 x2 x3 m hx1 hx2 hx3
  unfold B_X12_doneBy_6
  refine z_iload_n dX12_doneBy_6 3 rfl ?_
  refine z_aload_n dX12_doneBy_7 0 rfl ?_
  refine z_getI dX12_doneBy_8 (k := 49) zc_X12 lm_0 rfl (by decide) k_1087 (fun h5 => ?_)
  refine z_icmp_ge dX12_doneBy_11 hx3 h5 (tgt := 55) rfl (fun h6 => ?_) (fun h6 => ?_)
  · refine z_aload_n dX12_doneBy_55 0 rfl ?_
    refine z_callV1 dX12_doneBy_56 rfl (ct_X12_latestShelf n m) zc_X12 lm_0 k_1550 k_1552 kp_80 k_10 k_1553 zn_X12_latestShelf ⟨rfl, rfl, Nat.le_of_ble_eq_true rfl, Nat.le_of_ble_eq_true rfl⟩ (Nat.le_of_ble_eq_true rfl) rfl (fun v7 m8 h9 ho10 => ?_)
    exact z_iret dX12_doneBy_59 rfl rfl h9
  · refine z_iload_n dX12_doneBy_14 1 rfl ?_
    refine z_iconst dX12_doneBy_15 ?_
    refine z_iload_n dX12_doneBy_16 3 rfl ?_
    refine z_imul dX12_doneBy_17 (fun h11 => ?_)
    refine z_ishr dX12_doneBy_18 hx1 (fun h12 => ?_)
    refine z_iconst dX12_doneBy_19 ?_
    refine z_iandm dX12_doneBy_20 2 (by decide +kernel) (by decide) (fun h13 => ?_)
    refine z_istore dX12_doneBy_21 (lv' := [(4, .int (mI ((x1 / 2 ^ ((2 * x3) : Int).toNat) % 2 ^ 2))), (0, .ref (ad 0)), (1, .int (mI x1)), (2, .int (mI x2)), (3, .int (mI x3))]) (by decide) rfl ?_
    refine z_iload dX12_doneBy_23 0 rfl ?_
    refine z_iload_n dX12_doneBy_25 3 rfl ?_
    refine z_icmp_lt dX12_doneBy_26 h13 hx2 (tgt := 33) rfl (fun h14 => ?_) (fun h14 => ?_)
    · refine z_aload_n dX12_doneBy_33 1 rfl ?_
      refine z_getR dX12_doneBy_34 (k := 43) (j := 25) zc_X12 lm_0 rfl (by decide) k_1081 ?_
      refine z_iload dX12_doneBy_37 0 rfl ?_
      refine z_dup2 dX12_doneBy_39 rfl rfl ?_
      refine z_iaload dX12_doneBy_40 h13 (fun h15 => ?_)
      refine z_aload_n dX12_doneBy_41 1 rfl ?_
      refine z_getR dX12_doneBy_42 (k := 48) (j := 29) zc_X12 lm_0 rfl (by decide) k_1086 ?_
      refine z_iload_n dX12_doneBy_45 4 rfl ?_
      refine z_iaload dX12_doneBy_46 hx3 (fun h16 => ?_)
      refine z_iadd dX12_doneBy_47 (fun h17 => ?_)
      refine z_iastore dX12_doneBy_48 h13 h17 ?_
      refine z_iinc dX12_doneBy_49 (lv' := [(3, .int (mI (x3 + 1))), (4, .int (mI ((x1 / 2 ^ ((2 * x3) : Int).toNat) % 2 ^ 2))), (0, .ref (ad 0)), (1, .int (mI x1)), (2, .int (mI x2))]) 4 rfl (by decide) rfl (fun h18 => ?_)
      refine z_goto dX12_doneBy_52 (tgt := 6) rfl ?_
      exact zG_lvk (hr6 x1 x2 (x3 + 1) (wr m 25 (((x1 / 2 ^ ((2 * x3) : Int).toNat) % 2 ^ 2) : Int).toNat ((m 25 (((x1 / 2 ^ ((2 * x3) : Int).toNat) % 2 ^ 2) : Int).toNat) + (m 29 (x3 : Int).toNat))) hx1 hx2 h18) [2, 3, 4, 0] rfl
    · refine z_ldcw dX12_doneBy_29 (x := 99999) k_1431 ?_
      exact z_iret dX12_doneBy_32 rfl rfl (by decide)
theorem TL_X12_doneBy_6 {ad sc sv : Nat → Nat} (n : Nat) : ∀ q : Nat, ∀ (x1 : Int) (x2 : Int) (x3 : Int) (m : ZMem), R32 x1 → R32 x2 → R32 x3 → zG LM ad sc sv M_X12_doneBy 6 [(0, .ref (ad 0)), (1, .int (mI x1)), (2, .int (mI x2)), (3, .int (mI x3))] [] m (L_X12_doneBy_6 n q x1 x2 x3 m) := by
  intro q
  induction q with
  | zero => intros; exact zG_none
  | succ q ih => exact T_X12_doneBy_6 n (L_X12_doneBy_6 n q) ih
set_option maxRecDepth 20000 in
theorem ct_X12_doneBy {ad sc sv : Nat → Nat} (n : Nat) (a0 : Int) (a1 : Int) (m : ZMem) (ha0 : R32 a0) (ha1 : R32 a1) : zCT LM ad sc sv M_X12_doneBy yX12_doneBy [.ref (ad 0), .int (mI a0), .int (mI a1)] m (F_X12_doneBy n a0 a1 m) := by
  refine zCT_of (lv := [(0, .ref (ad 0)), (1, .int (mI a0)), (2, .int (mI a1))]) (by decide) rfl (Nat.le_of_ble_eq_true rfl) rfl ?_
  unfold F_X12_doneBy
  refine z_aload_n dX12_doneBy_0 0 rfl ?_
  refine z_callV0 dX12_doneBy_1 rfl (ct_X12_emptyShelves n m) zc_X12 lm_0 k_1546 k_1548 kp_79 k_10 k_1549 zn_X12_emptyShelves ⟨rfl, rfl, Nat.le_of_ble_eq_true rfl, Nat.le_of_ble_eq_true rfl⟩ (Nat.le_of_ble_eq_true rfl) rfl (fun v1 m2 ho4 => ?_)
  refine z_iconst dX12_doneBy_4 ?_
  refine z_istore_n dX12_doneBy_5 (lv' := [(3, .int (mI 0)), (0, .ref (ad 0)), (1, .int (mI a0)), (2, .int (mI a1))]) (by decide) rfl ?_
  exact zG_lvk (TL_X12_doneBy_6 n n a0 a1 0 m2 ha0 ha1 (by decide)) [1, 2, 3, 0] rfl
set_option maxRecDepth 20000 in
theorem T_X12_soonestCode_9 {ad sc sv : Nat → Nat} (n : Nat) (r9 : Int → Int → Int → Int → ZMem → ZR) (hr9 : ∀ (x1 : Int) (x2 : Int) (x3 : Int) (x4 : Int) (m : ZMem), R32 x1 → R32 x2 → R32 x3 → R32 x4 → zG LM ad sc sv M_X12_soonestCode 9 [(0, .ref (ad 0)), (1, .int (mI x1)), (2, .int (mI x2)), (3, .int (mI x3)), (4, .int (mI x4))] [] m (r9 x1 x2 x3 x4 m)) : ∀ (x1 : Int) (x2 : Int) (x3 : Int) (x4 : Int) (m : ZMem), R32 x1 → R32 x2 → R32 x3 → R32 x4 → zG LM ad sc sv M_X12_soonestCode 9 [(0, .ref (ad 0)), (1, .int (mI x1)), (2, .int (mI x2)), (3, .int (mI x3)), (4, .int (mI x4))] [] m (B_X12_soonestCode_9 n r9 x1 x2 x3 x4 m) := by
  intro x1 x2 x3 x4 m hx1 hx2 hx3 hx4
  unfold B_X12_soonestCode_9
  refine z_iload dX12_soonestCode_9 4 rfl ?_
  refine z_iconst dX12_soonestCode_11 ?_
  refine z_iconst dX12_soonestCode_12 ?_
  refine z_aload_n dX12_soonestCode_13 0 rfl ?_
  refine z_getI dX12_soonestCode_14 (k := 49) zc_X12 lm_0 rfl (by decide) k_1087 (fun h1 => ?_)
  refine z_imul dX12_soonestCode_17 (fun h2 => ?_)
  refine z_ishl dX12_soonestCode_18 (fun h3 => ?_)
  refine z_icmp_ge dX12_soonestCode_19 hx4 h3 (tgt := 63) rfl (fun h4 => ?_) (fun h4 => ?_)
  · refine z_iload_n dX12_soonestCode_63 2 rfl ?_
    exact z_iret dX12_soonestCode_64 rfl rfl hx2
  · refine z_aload_n dX12_soonestCode_22 0 rfl ?_
    refine z_iload dX12_soonestCode_23 4 rfl ?_
    refine z_iload_n dX12_soonestCode_25 1 rfl ?_
    refine z_callV1 dX12_soonestCode_26 rfl (ct_X12_doneBy n x4 x1 m hx4 hx1) zc_X12 lm_0 k_1558 k_1560 kp_82 k_10 k_1561 zn_X12_doneBy ⟨rfl, rfl, Nat.le_of_ble_eq_true rfl, Nat.le_of_ble_eq_true rfl⟩ (Nat.le_of_ble_eq_true rfl) rfl (fun v5 m6 h7 ho8 => ?_)
    refine z_istore dX12_soonestCode_29 (lv' := [(5, .int (mI v5)), (0, .ref (ad 0)), (1, .int (mI x1)), (2, .int (mI x2)), (3, .int (mI x3)), (4, .int (mI x4))]) (by decide) rfl ?_
    refine z_iload dX12_soonestCode_31 0 rfl ?_
    refine z_iload_n dX12_soonestCode_33 4 rfl ?_
    refine z_icmp_ge dX12_soonestCode_34 h7 hx3 (tgt := 42) rfl (fun h9 => ?_) (fun h9 => ?_)
    · refine z_iload_n dX12_soonestCode_42 3 rfl ?_
      refine z_istore_n dX12_soonestCode_43 (lv' := [(2, .int (mI x2)), (5, .int (mI v5)), (0, .ref (ad 0)), (1, .int (mI x1)), (3, .int (mI x3)), (4, .int (mI x4))]) (by decide) rfl ?_
      refine z_iload dX12_soonestCode_44 1 rfl ?_
      refine z_iload_n dX12_soonestCode_46 4 rfl ?_
      refine z_icmp_ge dX12_soonestCode_47 h7 hx3 (tgt := 55) rfl (fun h10 => ?_) (fun h10 => ?_)
      · refine z_iload_n dX12_soonestCode_55 4 rfl ?_
        refine z_istore_n dX12_soonestCode_56 (lv' := [(3, .int (mI x3)), (2, .int (mI x2)), (5, .int (mI v5)), (0, .ref (ad 0)), (1, .int (mI x1)), (4, .int (mI x4))]) (by decide) rfl ?_
        refine z_iinc dX12_soonestCode_57 (lv' := [(4, .int (mI (x4 + 1))), (3, .int (mI x3)), (2, .int (mI x2)), (5, .int (mI v5)), (0, .ref (ad 0)), (1, .int (mI x1))]) 5 rfl (by decide) rfl (fun h11 => ?_)
        refine z_goto dX12_soonestCode_60 (tgt := 9) rfl ?_
        exact zG_lvk (hr9 x1 x2 x3 (x4 + 1) m6 hx1 hx2 hx3 h11) [4, 5, 2, 1, 0] rfl
      · refine z_iload dX12_soonestCode_50 1 rfl ?_
        refine z_goto dX12_soonestCode_52 (tgt := 56) rfl ?_
        refine z_istore_n dX12_soonestCode_56 (lv' := [(3, .int (mI v5)), (2, .int (mI x2)), (5, .int (mI v5)), (0, .ref (ad 0)), (1, .int (mI x1)), (4, .int (mI x4))]) (by decide) rfl ?_
        refine z_iinc dX12_soonestCode_57 (lv' := [(4, .int (mI (x4 + 1))), (3, .int (mI v5)), (2, .int (mI x2)), (5, .int (mI v5)), (0, .ref (ad 0)), (1, .int (mI x1))]) 5 rfl (by decide) rfl (fun h12 => ?_)
        refine z_goto dX12_soonestCode_60 (tgt := 9) rfl ?_
        exact zG_lvk (hr9 x1 x2 v5 (x4 + 1) m6 hx1 hx2 h7 h12) [4, 5, 2, 1, 0] rfl
    · refine z_iload dX12_soonestCode_37 5 rfl ?_
      refine z_goto dX12_soonestCode_39 (tgt := 43) rfl ?_
      refine z_istore_n dX12_soonestCode_43 (lv' := [(2, .int (mI x4)), (5, .int (mI v5)), (0, .ref (ad 0)), (1, .int (mI x1)), (3, .int (mI x3)), (4, .int (mI x4))]) (by decide) rfl ?_
      refine z_iload dX12_soonestCode_44 1 rfl ?_
      refine z_iload_n dX12_soonestCode_46 4 rfl ?_
      refine z_icmp_ge dX12_soonestCode_47 h7 hx3 (tgt := 55) rfl (fun h13 => ?_) (fun h13 => ?_)
      · refine z_iload_n dX12_soonestCode_55 4 rfl ?_
        refine z_istore_n dX12_soonestCode_56 (lv' := [(3, .int (mI x3)), (2, .int (mI x4)), (5, .int (mI v5)), (0, .ref (ad 0)), (1, .int (mI x1)), (4, .int (mI x4))]) (by decide) rfl ?_
        refine z_iinc dX12_soonestCode_57 (lv' := [(4, .int (mI (x4 + 1))), (3, .int (mI x3)), (2, .int (mI x4)), (5, .int (mI v5)), (0, .ref (ad 0)), (1, .int (mI x1))]) 5 rfl (by decide) rfl (fun h14 => ?_)
        refine z_goto dX12_soonestCode_60 (tgt := 9) rfl ?_
        exact zG_lvk (hr9 x1 x4 x3 (x4 + 1) m6 hx1 hx4 hx3 h14) [4, 5, 2, 1, 0] rfl
      · refine z_iload dX12_soonestCode_50 1 rfl ?_
        refine z_goto dX12_soonestCode_52 (tgt := 56) rfl ?_
        refine z_istore_n dX12_soonestCode_56 (lv' := [(3, .int (mI v5)), (2, .int (mI x4)), (5, .int (mI v5)), (0, .ref (ad 0)), (1, .int (mI x1)), (4, .int (mI x4))]) (by decide) rfl ?_
        refine z_iinc dX12_soonestCode_57 (lv' := [(4, .int (mI (x4 + 1))), (3, .int (mI v5)), (2, .int (mI x4)), (5, .int (mI v5)), (0, .ref (ad 0)), (1, .int (mI x1))]) 5 rfl (by decide) rfl (fun h15 => ?_)
        refine z_goto dX12_soonestCode_60 (tgt := 9) rfl ?_
        exact zG_lvk (hr9 x1 x4 v5 (x4 + 1) m6 hx1 hx4 h7 h15) [4, 5, 2, 1, 0] rfl
theorem TL_X12_soonestCode_9 {ad sc sv : Nat → Nat} (n : Nat) : ∀ q : Nat, ∀ (x1 : Int) (x2 : Int) (x3 : Int) (x4 : Int) (m : ZMem), R32 x1 → R32 x2 → R32 x3 → R32 x4 → zG LM ad sc sv M_X12_soonestCode 9 [(0, .ref (ad 0)), (1, .int (mI x1)), (2, .int (mI x2)), (3, .int (mI x3)), (4, .int (mI x4))] [] m (L_X12_soonestCode_9 n q x1 x2 x3 x4 m) := by
  intro q
  induction q with
  | zero => intros; exact zG_none
  | succ q ih => exact T_X12_soonestCode_9 n (L_X12_soonestCode_9 n q) ih
set_option maxRecDepth 20000 in
theorem ct_X12_soonestCode {ad sc sv : Nat → Nat} (n : Nat) (a0 : Int) (m : ZMem) (ha0 : R32 a0) : zCT LM ad sc sv M_X12_soonestCode yX12_soonestCode [.ref (ad 0), .int (mI a0)] m (F_X12_soonestCode n a0 m) := by
  refine zCT_of (lv := [(0, .ref (ad 0)), (1, .int (mI a0))]) (by decide) rfl (Nat.le_of_ble_eq_true rfl) rfl ?_
  unfold F_X12_soonestCode
  refine z_iconst dX12_soonestCode_0 ?_
  refine z_istore_n dX12_soonestCode_1 (lv' := [(2, .int (mI 0)), (0, .ref (ad 0)), (1, .int (mI a0))]) (by decide) rfl ?_
  refine z_ldcw dX12_soonestCode_2 (x := 99999) k_1431 ?_
  refine z_istore_n dX12_soonestCode_5 (lv' := [(3, .int (mI 99999)), (2, .int (mI 0)), (0, .ref (ad 0)), (1, .int (mI a0))]) (by decide) rfl ?_
  refine z_iconst dX12_soonestCode_6 ?_
  refine z_istore dX12_soonestCode_7 (lv' := [(4, .int (mI 0)), (3, .int (mI 99999)), (2, .int (mI 0)), (0, .ref (ad 0)), (1, .int (mI a0))]) (by decide) rfl ?_
  exact zG_lvk (TL_X12_soonestCode_9 n n a0 0 99999 0 m ha0 (by decide) (by decide) (by decide)) [3, 4, 2, 1, 0] rfl
set_option maxRecDepth 20000 in
theorem T_X12_oven_34 {ad sc sv : Nat → Nat} (n : Nat) : ∀ (x1 : Int) (x2 : Int) (s0 : Int) (m : ZMem), R32 x1 → R32 x2 → R32 s0 → zG LM ad sc sv M_X12_oven 34 [(0, .ref (ad 0)), (1, .int (mI x1)), (2, .int (mI x2))] [.int (mI s0)] m (B_X12_oven_34 n x1 x2 s0 m) := by
  intro x1 x2 s0 m hx1 hx2 hs0
  unfold B_X12_oven_34
  refine z_istore_n dX12_oven_34 (lv' := [(3, .int (mI s0)), (0, .ref (ad 0)), (1, .int (mI x1)), (2, .int (mI x2))]) (by decide) rfl ?_
  refine z_iload_n dX12_oven_35 0 rfl ?_
  refine z_if_ge dX12_oven_36 hs0 (tgt := 45) rfl (fun h12 => ?_) (fun h12 => ?_)
  · refine z_iload_n dX12_oven_45 3 rfl ?_
    refine z_if_ne dX12_oven_46 hx2 (tgt := 55) rfl (fun h13 => ?_) (fun h13 => ?_)
    · refine z_aload_n dX12_oven_49 1 rfl ?_
      refine z_iload_n dX12_oven_50 2 rfl ?_
      refine z_callV1 dX12_oven_51 rfl (ct_X12_inTurn n x1 m hx1) zc_X12 lm_0 k_1542 k_1544 kp_78 k_10 k_1545 zn_X12_inTurn ⟨rfl, rfl, Nat.le_of_ble_eq_true rfl, Nat.le_of_ble_eq_true rfl⟩ (Nat.le_of_ble_eq_true rfl) rfl (fun v14 m15 h16 ho17 => ?_)
      exact z_iret dX12_oven_54 rfl rfl h16
    · refine z_aload_n dX12_oven_55 1 rfl ?_
      refine z_iload_n dX12_oven_56 2 rfl ?_
      refine z_callV1 dX12_oven_57 rfl (ct_X12_soonestCode n x1 m hx1) zc_X12 lm_0 k_1554 k_1556 kp_81 k_10 k_1557 zn_X12_soonestCode ⟨rfl, rfl, Nat.le_of_ble_eq_true rfl, Nat.le_of_ble_eq_true rfl⟩ (Nat.le_of_ble_eq_true rfl) rfl (fun v18 m19 h20 ho21 => ?_)
      refine z_istore dX12_oven_60 (lv' := [(4, .int (mI v18)), (3, .int (mI s0)), (0, .ref (ad 0)), (1, .int (mI x1)), (2, .int (mI x2))]) (by decide) rfl ?_
      refine z_iload_n dX12_oven_62 4 rfl ?_
      refine z_iconst dX12_oven_63 ?_
      refine z_icmp_ne dX12_oven_64 hx2 (by decide) (tgt := 72) rfl (fun h22 => ?_) (fun h22 => ?_)
      · refine z_iload dX12_oven_67 0 rfl ?_
        refine z_goto dX12_oven_69 (tgt := 79) rfl ?_
        exact z_iret dX12_oven_79 rfl rfl h20
      · refine z_aload_n dX12_oven_72 2 rfl ?_
        refine z_iload dX12_oven_73 0 rfl ?_
        refine z_iload_n dX12_oven_75 3 rfl ?_
        refine z_callV1 dX12_oven_76 rfl (ct_X12_doneBy n v18 x1 m19 h20 hx1) zc_X12 lm_0 k_1558 k_1560 kp_82 k_10 k_1561 zn_X12_doneBy ⟨rfl, rfl, Nat.le_of_ble_eq_true rfl, Nat.le_of_ble_eq_true rfl⟩ (Nat.le_of_ble_eq_true rfl) rfl (fun v23 m24 h25 ho26 => ?_)
        exact z_iret dX12_oven_79 rfl rfl h25
  · refine z_aload_n dX12_oven_39 1 rfl ?_
    refine z_iload_n dX12_oven_40 0 rfl ?_
    refine z_callV1 dX12_oven_41 rfl (ct_X12_refuse n s0 m hs0) zc_X12 lm_0 k_1194 k_1196 kp_37 k_10 k_1197 zn_X12_refuse ⟨rfl, rfl, Nat.le_of_ble_eq_true rfl, Nat.le_of_ble_eq_true rfl⟩ (Nat.le_of_ble_eq_true rfl) rfl (fun v27 m28 h29 ho30 => ?_)
    exact z_iret dX12_oven_44 rfl rfl h29
set_option maxRecDepth 20000 in
theorem ct_X12_oven {ad sc sv : Nat → Nat} (n : Nat) (a0 : Int) (a1 : Int) (m : ZMem) (ha0 : R32 a0) (ha1 : R32 a1) : zCT LM ad sc sv M_X12_oven yX12_oven [.ref (ad 0), .int (mI a0), .int (mI a1)] m (F_X12_oven n a0 a1 m) := by
  refine zCT_of (lv := [(0, .ref (ad 0)), (1, .int (mI a0)), (2, .int (mI a1))]) (by decide) rfl (Nat.le_of_ble_eq_true rfl) rfl ?_
  unfold F_X12_oven
  refine z_aload_n dX12_oven_0 0 rfl ?_
  refine z_iconst dX12_oven_1 ?_
  refine z_putI dX12_oven_2 (k := 16) zc_X12 lm_0 rfl (by decide) rfl rfl (by decide) k_1054 ?_
  refine z_iload_n dX12_oven_5 1 rfl ?_
  refine z_iconst dX12_oven_6 ?_
  refine z_iconst dX12_oven_7 ?_
  refine z_callS1 dX12_oven_8 rfl (ct_X12_wrongNumber n a0 1 3 (wr m 0 16 0) ha0 (by decide) (by decide)) k_1318 k_1319 k_10 k_1320 zn_X12_wrongNumber ⟨rfl, rfl, Nat.le_of_ble_eq_true rfl, Nat.le_of_ble_eq_true rfl⟩ (Nat.le_of_ble_eq_true rfl) rfl (fun v1 m2 h3 ho4 => ?_)
  refine z_istore_n dX12_oven_11 (lv' := [(3, .int (mI v1)), (0, .ref (ad 0)), (1, .int (mI a0)), (2, .int (mI a1))]) (by decide) rfl ?_
  refine z_iload_n dX12_oven_12 0 rfl ?_
  refine z_if_ne dX12_oven_13 h3 (tgt := 33) rfl (fun h5 => ?_) (fun h5 => ?_)
  · refine z_iload_n dX12_oven_16 3 rfl ?_
    refine z_i2l dX12_oven_17 ha1 (fun h6 => ?_)
    refine z_lconst dX12_oven_18 (x := 0) (by decide +kernel) ?_
    refine z_ldc2 dX12_oven_19 (x := 2) k_1376 ?_
    refine z_callS4 dX12_oven_22 rfl (ct_X12_in n a1 0 2 m2 h6 (by decide) (by decide)) k_1220 k_1221 k_10 k_1222 zn_X12_in ⟨rfl, rfl, Nat.le_of_ble_eq_true rfl, Nat.le_of_ble_eq_true rfl⟩ (Nat.le_of_ble_eq_true rfl) rfl (fun v7 m8 h9 ho10 => ?_)
    refine z_if_ne dX12_oven_25 (zb01 h9) (tgt := 33) rfl (fun h11 => ?_) (fun h11 => ?_)
    · refine z_bipush dX12_oven_28 (x := (-2)) (by decide +kernel) ?_
      refine z_goto dX12_oven_30 (tgt := 34) rfl ?_
      exact zG_lvk (T_X12_oven_34 n a0 a1 (-2) m8 ha0 ha1 (by decide)) [1, 2, 3] rfl
    · refine z_iload_n dX12_oven_33 0 rfl ?_
      exact zG_lvk (T_X12_oven_34 n a0 a1 v1 m8 ha0 ha1 h3) [1, 2, 3] rfl
  · refine z_iload_n dX12_oven_33 0 rfl ?_
    exact zG_lvk (T_X12_oven_34 n a0 a1 v1 m2 ha0 ha1 h3) [1, 2, 3] rfl
set_option maxRecDepth 20000 in
theorem T_X12_areBoth_5 {ad sc sv : Nat → Nat} (n : Nat) (r5 : Int → Int → Int → Int → ZMem → ZR) (hr5 : ∀ (x1 : Int) (x2 : Int) (x3 : Int) (x4 : Int) (m : ZMem), R32 x1 → R32 x2 → R32 x3 → R32 x4 → zG LM ad sc sv M_X12_areBoth 5 [(0, .ref (ad 0)), (1, .int (mI x1)), (2, .int (mI x2)), (3, .int (mI x3)), (4, .int (mI x4))] [] m (r5 x1 x2 x3 x4 m)) : ∀ (x1 : Int) (x2 : Int) (x3 : Int) (x4 : Int) (m : ZMem), R32 x1 → R32 x2 → R32 x3 → R32 x4 → zG LM ad sc sv M_X12_areBoth 5 [(0, .ref (ad 0)), (1, .int (mI x1)), (2, .int (mI x2)), (3, .int (mI x3)), (4, .int (mI x4))] [] m (B_X12_areBoth_5 n r5 x1 x2 x3 x4 m) := by
  intro x1 x2 x3 x4 m hx1 hx2 hx3 hx4
  unfold B_X12_areBoth_5
  refine z_iload dX12_areBoth_5 4 rfl ?_
  refine z_aload_n dX12_areBoth_7 0 rfl ?_
  refine z_getI dX12_areBoth_8 (k := 2) zc_X12 lm_0 rfl (by decide) k_1040 (fun h1 => ?_)
  refine z_icmp_ge dX12_areBoth_11 hx4 h1 (tgt := 64) rfl (fun h2 => ?_) (fun h2 => ?_)
  · refine z_iload_n dX12_areBoth_64 3 rfl ?_
    refine zG_chk (fun h3 => ?_)
    exact z_zret dX12_areBoth_65 rfl rfl h3
  · refine z_iload_n dX12_areBoth_14 3 rfl ?_
    refine z_if_eq dX12_areBoth_15 hx3 (tgt := 56) rfl (fun h4 => ?_) (fun h4 => ?_)
    · refine z_iconst dX12_areBoth_56 ?_
      refine z_istore_n dX12_areBoth_57 (lv' := [(3, .int (mI 0)), (0, .ref (ad 0)), (1, .int (mI x1)), (2, .int (mI x2)), (4, .int (mI x4))]) (by decide) rfl ?_
      refine z_iinc dX12_areBoth_58 (lv' := [(4, .int (mI (x4 + 1))), (3, .int (mI 0)), (0, .ref (ad 0)), (1, .int (mI x1)), (2, .int (mI x2))]) 4 rfl (by decide) rfl (fun h5 => ?_)
      refine z_goto dX12_areBoth_61 (tgt := 5) rfl ?_
      exact zG_lvk (hr5 x1 x2 0 (x4 + 1) m hx1 hx2 (by decide) h5) [2, 3, 4, 1, 0] rfl
    · refine z_aload_n dX12_areBoth_18 0 rfl ?_
      refine z_getR dX12_areBoth_19 (k := 10) (j := 4) zc_X12 lm_0 rfl (by decide) k_1048 ?_
      refine z_iload dX12_areBoth_22 4 rfl ?_
      refine z_iaload dX12_areBoth_24 hx4 (fun h6 => ?_)
      refine z_iload_n dX12_areBoth_25 1 rfl ?_
      refine z_imul dX12_areBoth_26 (fun h7 => ?_)
      refine z_aload_n dX12_areBoth_27 0 rfl ?_
      refine z_getR dX12_areBoth_28 (k := 39) (j := 22) zc_X12 lm_0 rfl (by decide) k_1077 ?_
      refine z_iload dX12_areBoth_31 4 rfl ?_
      refine z_iaload dX12_areBoth_33 hx4 (fun h8 => ?_)
      refine z_iload_n dX12_areBoth_34 2 rfl ?_
      refine z_imul dX12_areBoth_35 (fun h9 => ?_)
      refine z_iadd dX12_areBoth_36 (fun h10 => ?_)
      refine z_aload_n dX12_areBoth_37 0 rfl ?_
      refine z_getR dX12_areBoth_38 (k := 11) (j := 5) zc_X12 lm_0 rfl (by decide) k_1049 ?_
      refine z_iload dX12_areBoth_41 4 rfl ?_
      refine z_iaload dX12_areBoth_43 hx4 (fun h11 => ?_)
      refine z_aload_n dX12_areBoth_44 0 rfl ?_
      refine z_getI dX12_areBoth_45 (k := 0) zc_X12 lm_0 rfl (by decide) k_1038 (fun h12 => ?_)
      refine z_imul dX12_areBoth_48 (fun h13 => ?_)
      refine z_icmp_gt dX12_areBoth_49 h10 h13 (tgt := 56) rfl (fun h14 => ?_) (fun h14 => ?_)
      · refine z_iconst dX12_areBoth_56 ?_
        refine z_istore_n dX12_areBoth_57 (lv' := [(3, .int (mI 0)), (0, .ref (ad 0)), (1, .int (mI x1)), (2, .int (mI x2)), (4, .int (mI x4))]) (by decide) rfl ?_
        refine z_iinc dX12_areBoth_58 (lv' := [(4, .int (mI (x4 + 1))), (3, .int (mI 0)), (0, .ref (ad 0)), (1, .int (mI x1)), (2, .int (mI x2))]) 4 rfl (by decide) rfl (fun h15 => ?_)
        refine z_goto dX12_areBoth_61 (tgt := 5) rfl ?_
        exact zG_lvk (hr5 x1 x2 0 (x4 + 1) m hx1 hx2 (by decide) h15) [2, 3, 4, 1, 0] rfl
      · refine z_iconst dX12_areBoth_52 ?_
        refine z_goto dX12_areBoth_53 (tgt := 57) rfl ?_
        refine z_istore_n dX12_areBoth_57 (lv' := [(3, .int (mI 1)), (0, .ref (ad 0)), (1, .int (mI x1)), (2, .int (mI x2)), (4, .int (mI x4))]) (by decide) rfl ?_
        refine z_iinc dX12_areBoth_58 (lv' := [(4, .int (mI (x4 + 1))), (3, .int (mI 1)), (0, .ref (ad 0)), (1, .int (mI x1)), (2, .int (mI x2))]) 4 rfl (by decide) rfl (fun h16 => ?_)
        refine z_goto dX12_areBoth_61 (tgt := 5) rfl ?_
        exact zG_lvk (hr5 x1 x2 1 (x4 + 1) m hx1 hx2 (by decide) h16) [2, 3, 4, 1, 0] rfl
theorem TL_X12_areBoth_5 {ad sc sv : Nat → Nat} (n : Nat) : ∀ q : Nat, ∀ (x1 : Int) (x2 : Int) (x3 : Int) (x4 : Int) (m : ZMem), R32 x1 → R32 x2 → R32 x3 → R32 x4 → zG LM ad sc sv M_X12_areBoth 5 [(0, .ref (ad 0)), (1, .int (mI x1)), (2, .int (mI x2)), (3, .int (mI x3)), (4, .int (mI x4))] [] m (L_X12_areBoth_5 n q x1 x2 x3 x4 m) := by
  intro q
  induction q with
  | zero => intros; exact zG_none
  | succ q ih => exact T_X12_areBoth_5 n (L_X12_areBoth_5 n q) ih
set_option maxRecDepth 20000 in
theorem ct_X12_areBoth {ad sc sv : Nat → Nat} (n : Nat) (a0 : Int) (a1 : Int) (m : ZMem) (ha0 : R32 a0) (ha1 : R32 a1) : zCT LM ad sc sv M_X12_areBoth yX12_areBoth [.ref (ad 0), .int (mI a0), .int (mI a1)] m (F_X12_areBoth n a0 a1 m) := by
  refine zCT_of (lv := [(0, .ref (ad 0)), (1, .int (mI a0)), (2, .int (mI a1))]) (by decide) rfl (Nat.le_of_ble_eq_true rfl) rfl ?_
  unfold F_X12_areBoth
  refine z_iconst dX12_areBoth_0 ?_
  refine z_istore_n dX12_areBoth_1 (lv' := [(3, .int (mI 1)), (0, .ref (ad 0)), (1, .int (mI a0)), (2, .int (mI a1))]) (by decide) rfl ?_
  refine z_iconst dX12_areBoth_2 ?_
  refine z_istore dX12_areBoth_3 (lv' := [(4, .int (mI 0)), (3, .int (mI 1)), (0, .ref (ad 0)), (1, .int (mI a0)), (2, .int (mI a1))]) (by decide) rfl ?_
  exact zG_lvk (TL_X12_areBoth_5 n n a0 a1 1 0 m ha0 ha1 (by decide) (by decide)) [2, 3, 4, 1, 0] rfl
set_option maxRecDepth 20000 in
theorem T_X12_recipes_73 {ad sc sv : Nat → Nat} (n : Nat) (r29 : Int → Int → Int → Int → ZMem → ZR) (r39 : Int → Int → Int → Int → Int → ZMem → ZR) (hr29 : ∀ (x1 : Int) (x2 : Int) (x3 : Int) (x4 : Int) (m : ZMem), R32 x1 → R32 x2 → R32 x3 → R32 x4 → zG LM ad sc sv M_X12_recipes 29 [(0, .ref (ad 0)), (1, .int (mI x1)), (2, .int (mI x2)), (3, .int (mI x3)), (4, .int (mI x4))] [] m (r29 x1 x2 x3 x4 m)) (hr39 : ∀ (x1 : Int) (x2 : Int) (x3 : Int) (x4 : Int) (x5 : Int) (m : ZMem), R32 x1 → R32 x2 → R32 x3 → R32 x4 → R32 x5 → zG LM ad sc sv M_X12_recipes 39 [(0, .ref (ad 0)), (1, .int (mI x1)), (2, .int (mI x2)), (3, .int (mI x3)), (4, .int (mI x4)), (5, .int (mI x5))] [] m (r39 x1 x2 x3 x4 x5 m)) : ∀ (x1 : Int) (x2 : Int) (x3 : Int) (x4 : Int) (x5 : Int) (s0 : Int) (m : ZMem), R32 x1 → R32 x2 → R32 x3 → R32 x4 → R32 x5 → R32 s0 → zG LM ad sc sv M_X12_recipes 73 [(0, .ref (ad 0)), (1, .int (mI x1)), (2, .int (mI x2)), (3, .int (mI x3)), (4, .int (mI x4)), (5, .int (mI x5))] [.int (mI s0)] m (B_X12_recipes_73 n r29 r39 x1 x2 x3 x4 x5 s0 m) := by
  intro x1 x2 x3 x4 x5 s0 m hx1 hx2 hx3 hx4 hx5 hs0
  unfold B_X12_recipes_73
  refine z_istore dX12_recipes_73 (lv' := [(6, .int (mI s0)), (0, .ref (ad 0)), (1, .int (mI x1)), (2, .int (mI x2)), (3, .int (mI x3)), (4, .int (mI x4)), (5, .int (mI x5))]) (by decide) rfl ?_
  refine z_iload dX12_recipes_75 0 rfl ?_
  refine z_if_eq dX12_recipes_77 hs0 (tgt := 85) rfl (fun h23 => ?_) (fun h23 => ?_)
  · refine z_iload_n dX12_recipes_85 3 rfl ?_
    refine z_istore_n dX12_recipes_86 (lv' := [(2, .int (mI x2)), (6, .int (mI s0)), (0, .ref (ad 0)), (1, .int (mI x1)), (3, .int (mI x3)), (4, .int (mI x4)), (5, .int (mI x5))]) (by decide) rfl ?_
    refine z_iload dX12_recipes_87 1 rfl ?_
    refine z_if_eq dX12_recipes_89 hs0 (tgt := 97) rfl (fun h24 => ?_) (fun h24 => ?_)
    · refine z_iload_n dX12_recipes_97 4 rfl ?_
      refine z_istore_n dX12_recipes_98 (lv' := [(3, .int (mI x3)), (2, .int (mI x2)), (6, .int (mI s0)), (0, .ref (ad 0)), (1, .int (mI x1)), (4, .int (mI x4)), (5, .int (mI x5))]) (by decide) rfl ?_
      refine z_iinc dX12_recipes_99 (lv' := [(5, .int (mI (x5 + 1))), (3, .int (mI x3)), (2, .int (mI x2)), (6, .int (mI s0)), (0, .ref (ad 0)), (1, .int (mI x1)), (4, .int (mI x4))]) 6 rfl (by decide) rfl (fun h25 => ?_)
      refine z_goto dX12_recipes_102 (tgt := 39) rfl ?_
      exact zG_lvk (hr39 x1 x2 x3 x4 (x5 + 1) m hx1 hx2 hx3 hx4 h25) [4, 5, 2, 1, 6, 0] rfl
    · refine z_iload dX12_recipes_92 6 rfl ?_
      refine z_goto dX12_recipes_94 (tgt := 98) rfl ?_
      refine z_istore_n dX12_recipes_98 (lv' := [(3, .int (mI x5)), (2, .int (mI x2)), (6, .int (mI s0)), (0, .ref (ad 0)), (1, .int (mI x1)), (4, .int (mI x4)), (5, .int (mI x5))]) (by decide) rfl ?_
      refine z_iinc dX12_recipes_99 (lv' := [(5, .int (mI (x5 + 1))), (3, .int (mI x5)), (2, .int (mI x2)), (6, .int (mI s0)), (0, .ref (ad 0)), (1, .int (mI x1)), (4, .int (mI x4))]) 6 rfl (by decide) rfl (fun h26 => ?_)
      refine z_goto dX12_recipes_102 (tgt := 39) rfl ?_
      exact zG_lvk (hr39 x1 x2 x5 x4 (x5 + 1) m hx1 hx2 hx5 hx4 h26) [4, 5, 2, 1, 6, 0] rfl
  · refine z_iload dX12_recipes_80 5 rfl ?_
    refine z_goto dX12_recipes_82 (tgt := 86) rfl ?_
    refine z_istore_n dX12_recipes_86 (lv' := [(2, .int (mI x4)), (6, .int (mI s0)), (0, .ref (ad 0)), (1, .int (mI x1)), (3, .int (mI x3)), (4, .int (mI x4)), (5, .int (mI x5))]) (by decide) rfl ?_
    refine z_iload dX12_recipes_87 1 rfl ?_
    refine z_if_eq dX12_recipes_89 hs0 (tgt := 97) rfl (fun h27 => ?_) (fun h27 => ?_)
    · refine z_iload_n dX12_recipes_97 4 rfl ?_
      refine z_istore_n dX12_recipes_98 (lv' := [(3, .int (mI x3)), (2, .int (mI x4)), (6, .int (mI s0)), (0, .ref (ad 0)), (1, .int (mI x1)), (4, .int (mI x4)), (5, .int (mI x5))]) (by decide) rfl ?_
      refine z_iinc dX12_recipes_99 (lv' := [(5, .int (mI (x5 + 1))), (3, .int (mI x3)), (2, .int (mI x4)), (6, .int (mI s0)), (0, .ref (ad 0)), (1, .int (mI x1)), (4, .int (mI x4))]) 6 rfl (by decide) rfl (fun h28 => ?_)
      refine z_goto dX12_recipes_102 (tgt := 39) rfl ?_
      exact zG_lvk (hr39 x1 x4 x3 x4 (x5 + 1) m hx1 hx4 hx3 hx4 h28) [4, 5, 2, 1, 6, 0] rfl
    · refine z_iload dX12_recipes_92 6 rfl ?_
      refine z_goto dX12_recipes_94 (tgt := 98) rfl ?_
      refine z_istore_n dX12_recipes_98 (lv' := [(3, .int (mI x5)), (2, .int (mI x4)), (6, .int (mI s0)), (0, .ref (ad 0)), (1, .int (mI x1)), (4, .int (mI x4)), (5, .int (mI x5))]) (by decide) rfl ?_
      refine z_iinc dX12_recipes_99 (lv' := [(5, .int (mI (x5 + 1))), (3, .int (mI x5)), (2, .int (mI x4)), (6, .int (mI s0)), (0, .ref (ad 0)), (1, .int (mI x1)), (4, .int (mI x4))]) 6 rfl (by decide) rfl (fun h29 => ?_)
      refine z_goto dX12_recipes_102 (tgt := 39) rfl ?_
      exact zG_lvk (hr39 x1 x4 x5 x4 (x5 + 1) m hx1 hx4 hx5 hx4 h29) [4, 5, 2, 1, 6, 0] rfl
set_option maxRecDepth 20000 in
theorem T_X12_recipes_39 {ad sc sv : Nat → Nat} (n : Nat) (r29 : Int → Int → Int → Int → ZMem → ZR) (r39 : Int → Int → Int → Int → Int → ZMem → ZR) (hr29 : ∀ (x1 : Int) (x2 : Int) (x3 : Int) (x4 : Int) (m : ZMem), R32 x1 → R32 x2 → R32 x3 → R32 x4 → zG LM ad sc sv M_X12_recipes 29 [(0, .ref (ad 0)), (1, .int (mI x1)), (2, .int (mI x2)), (3, .int (mI x3)), (4, .int (mI x4))] [] m (r29 x1 x2 x3 x4 m)) (hr39 : ∀ (x1 : Int) (x2 : Int) (x3 : Int) (x4 : Int) (x5 : Int) (m : ZMem), R32 x1 → R32 x2 → R32 x3 → R32 x4 → R32 x5 → zG LM ad sc sv M_X12_recipes 39 [(0, .ref (ad 0)), (1, .int (mI x1)), (2, .int (mI x2)), (3, .int (mI x3)), (4, .int (mI x4)), (5, .int (mI x5))] [] m (r39 x1 x2 x3 x4 x5 m)) : ∀ (x1 : Int) (x2 : Int) (x3 : Int) (x4 : Int) (x5 : Int) (m : ZMem), R32 x1 → R32 x2 → R32 x3 → R32 x4 → R32 x5 → zG LM ad sc sv M_X12_recipes 39 [(0, .ref (ad 0)), (1, .int (mI x1)), (2, .int (mI x2)), (3, .int (mI x3)), (4, .int (mI x4)), (5, .int (mI x5))] [] m (B_X12_recipes_39 n r29 r39 x1 x2 x3 x4 x5 m) := by
  intro x1 x2 x3 x4 x5 m hx1 hx2 hx3 hx4 hx5
  unfold B_X12_recipes_39
  refine z_iload dX12_recipes_39 5 rfl ?_
  refine z_bipush dX12_recipes_41 (x := 24) (by decide +kernel) ?_
  refine z_icmp_gt dX12_recipes_43 hx5 (by decide) (tgt := 105) rfl (fun h13 => ?_) (fun h13 => ?_)
  · refine z_iinc dX12_recipes_105 (lv' := [(4, .int (mI (x4 + 1))), (0, .ref (ad 0)), (1, .int (mI x1)), (2, .int (mI x2)), (3, .int (mI x3)), (5, .int (mI x5))]) 4 rfl (by decide) rfl (fun h14 => ?_)
    refine z_goto dX12_recipes_108 (tgt := 29) rfl ?_
    exact zG_lvk (hr29 x1 x2 x3 (x4 + 1) m hx1 hx2 hx3 h14) [1, 2, 3, 4, 0] rfl
  · refine z_aload_n dX12_recipes_46 0 rfl ?_
    refine z_iload dX12_recipes_47 4 rfl ?_
    refine z_iload dX12_recipes_49 5 rfl ?_
    refine z_callV4 dX12_recipes_51 rfl (ct_X12_areBoth n x4 x5 m hx4 hx5) zc_X12 lm_0 k_1566 k_1568 kp_83 k_10 k_1569 zn_X12_areBoth ⟨rfl, rfl, Nat.le_of_ble_eq_true rfl, Nat.le_of_ble_eq_true rfl⟩ (Nat.le_of_ble_eq_true rfl) rfl (fun v15 m16 h17 ho18 => ?_)
    refine z_if_eq dX12_recipes_54 (zb01 h17) (tgt := 72) rfl (fun h19 => ?_) (fun h19 => ?_)
    · refine z_iconst dX12_recipes_72 ?_
      exact zG_lvk (T_X12_recipes_73 n r29 r39 hr29 hr39 x1 x2 x3 x4 x5 0 m16 hx1 hx2 hx3 hx4 hx5 (by decide)) [0, 1, 2, 3, 4, 5] rfl
    · refine z_iload dX12_recipes_57 4 rfl ?_
      refine z_iload dX12_recipes_59 5 rfl ?_
      refine z_iadd dX12_recipes_61 (fun h20 => ?_)
      refine z_iload_n dX12_recipes_62 2 rfl ?_
      refine z_iload_n dX12_recipes_63 3 rfl ?_
      refine z_iadd dX12_recipes_64 (fun h21 => ?_)
      refine z_icmp_lt dX12_recipes_65 h20 h21 (tgt := 72) rfl (fun h22 => ?_) (fun h22 => ?_)
      · refine z_iconst dX12_recipes_72 ?_
        exact zG_lvk (T_X12_recipes_73 n r29 r39 hr29 hr39 x1 x2 x3 x4 x5 0 m16 hx1 hx2 hx3 hx4 hx5 (by decide)) [0, 1, 2, 3, 4, 5] rfl
      · refine z_iconst dX12_recipes_68 ?_
        refine z_goto dX12_recipes_69 (tgt := 73) rfl ?_
        exact zG_lvk (T_X12_recipes_73 n r29 r39 hr29 hr39 x1 x2 x3 x4 x5 1 m16 hx1 hx2 hx3 hx4 hx5 (by decide)) [0, 1, 2, 3, 4, 5] rfl
theorem TL_X12_recipes_39 {ad sc sv : Nat → Nat} (n : Nat) (r29 : Int → Int → Int → Int → ZMem → ZR) (hr29 : ∀ (x1 : Int) (x2 : Int) (x3 : Int) (x4 : Int) (m : ZMem), R32 x1 → R32 x2 → R32 x3 → R32 x4 → zG LM ad sc sv M_X12_recipes 29 [(0, .ref (ad 0)), (1, .int (mI x1)), (2, .int (mI x2)), (3, .int (mI x3)), (4, .int (mI x4))] [] m (r29 x1 x2 x3 x4 m)) : ∀ q : Nat, ∀ (x1 : Int) (x2 : Int) (x3 : Int) (x4 : Int) (x5 : Int) (m : ZMem), R32 x1 → R32 x2 → R32 x3 → R32 x4 → R32 x5 → zG LM ad sc sv M_X12_recipes 39 [(0, .ref (ad 0)), (1, .int (mI x1)), (2, .int (mI x2)), (3, .int (mI x3)), (4, .int (mI x4)), (5, .int (mI x5))] [] m (L_X12_recipes_39 n r29 q x1 x2 x3 x4 x5 m) := by
  intro q
  induction q with
  | zero => intros; exact zG_none
  | succ q ih => exact T_X12_recipes_39 n r29 (L_X12_recipes_39 n r29 q) hr29 ih
set_option maxRecDepth 20000 in
theorem T_X12_recipes_29 {ad sc sv : Nat → Nat} (n : Nat) (r29 : Int → Int → Int → Int → ZMem → ZR) (hr29 : ∀ (x1 : Int) (x2 : Int) (x3 : Int) (x4 : Int) (m : ZMem), R32 x1 → R32 x2 → R32 x3 → R32 x4 → zG LM ad sc sv M_X12_recipes 29 [(0, .ref (ad 0)), (1, .int (mI x1)), (2, .int (mI x2)), (3, .int (mI x3)), (4, .int (mI x4))] [] m (r29 x1 x2 x3 x4 m)) : ∀ (x1 : Int) (x2 : Int) (x3 : Int) (x4 : Int) (m : ZMem), R32 x1 → R32 x2 → R32 x3 → R32 x4 → zG LM ad sc sv M_X12_recipes 29 [(0, .ref (ad 0)), (1, .int (mI x1)), (2, .int (mI x2)), (3, .int (mI x3)), (4, .int (mI x4))] [] m (B_X12_recipes_29 n r29 x1 x2 x3 x4 m) := by
  intro x1 x2 x3 x4 m hx1 hx2 hx3 hx4
  unfold B_X12_recipes_29
  refine z_iload dX12_recipes_29 4 rfl ?_
  refine z_bipush dX12_recipes_31 (x := 24) (by decide +kernel) ?_
  refine z_icmp_gt dX12_recipes_33 hx4 (by decide) (tgt := 111) rfl (fun h11 => ?_) (fun h11 => ?_)
  · refine z_iload_n dX12_recipes_111 1 rfl ?_
    refine z_if_ne dX12_recipes_112 hx1 (tgt := 119) rfl (fun h12 => ?_) (fun h12 => ?_)
    · refine z_iload_n dX12_recipes_115 2 rfl ?_
      refine z_goto dX12_recipes_116 (tgt := 120) rfl ?_
      exact z_iret dX12_recipes_120 rfl rfl hx2
    · refine z_iload_n dX12_recipes_119 3 rfl ?_
      exact z_iret dX12_recipes_120 rfl rfl hx3
  · refine z_iconst dX12_recipes_36 ?_
    refine z_istore dX12_recipes_37 (lv' := [(5, .int (mI 0)), (0, .ref (ad 0)), (1, .int (mI x1)), (2, .int (mI x2)), (3, .int (mI x3)), (4, .int (mI x4))]) (by decide) rfl ?_
    exact zG_lvk (TL_X12_recipes_39 n r29 hr29 n x1 x2 x3 x4 0 m hx1 hx2 hx3 hx4 (by decide)) [1, 2, 3, 4, 5, 0] rfl
theorem TL_X12_recipes_29 {ad sc sv : Nat → Nat} (n : Nat) : ∀ q : Nat, ∀ (x1 : Int) (x2 : Int) (x3 : Int) (x4 : Int) (m : ZMem), R32 x1 → R32 x2 → R32 x3 → R32 x4 → zG LM ad sc sv M_X12_recipes 29 [(0, .ref (ad 0)), (1, .int (mI x1)), (2, .int (mI x2)), (3, .int (mI x3)), (4, .int (mI x4))] [] m (L_X12_recipes_29 n q x1 x2 x3 x4 m) := by
  intro q
  induction q with
  | zero => intros; exact zG_none
  | succ q ih => exact T_X12_recipes_29 n (L_X12_recipes_29 n q) ih
set_option maxRecDepth 20000 in
theorem ct_X12_recipes {ad sc sv : Nat → Nat} (n : Nat) (a0 : Int) (m : ZMem) (ha0 : R32 a0) : zCT LM ad sc sv M_X12_recipes yX12_recipes [.ref (ad 0), .int (mI a0)] m (F_X12_recipes n a0 m) := by
  refine zCT_of (lv := [(0, .ref (ad 0)), (1, .int (mI a0))]) (by decide) rfl (Nat.le_of_ble_eq_true rfl) rfl ?_
  unfold F_X12_recipes
  refine z_aload_n dX12_recipes_0 0 rfl ?_
  refine z_iconst dX12_recipes_1 ?_
  refine z_putI dX12_recipes_2 (k := 16) zc_X12 lm_0 rfl (by decide) rfl rfl (by decide) k_1054 ?_
  refine z_iload_n dX12_recipes_5 1 rfl ?_
  refine z_i2l dX12_recipes_6 ha0 (fun h1 => ?_)
  refine z_lconst dX12_recipes_7 (x := 0) (by decide +kernel) ?_
  refine z_lconst dX12_recipes_8 (x := 1) (by decide +kernel) ?_
  refine z_callS4 dX12_recipes_9 rfl (ct_X12_in n a0 0 1 (wr m 0 16 0) h1 (by decide) (by decide)) k_1220 k_1221 k_10 k_1222 zn_X12_in ⟨rfl, rfl, Nat.le_of_ble_eq_true rfl, Nat.le_of_ble_eq_true rfl⟩ (Nat.le_of_ble_eq_true rfl) rfl (fun v2 m3 h4 ho5 => ?_)
  refine z_if_ne dX12_recipes_12 (zb01 h4) (tgt := 22) rfl (fun h6 => ?_) (fun h6 => ?_)
  · refine z_aload_n dX12_recipes_15 0 rfl ?_
    refine z_bipush dX12_recipes_16 (x := (-2)) (by decide +kernel) ?_
    refine z_callV1 dX12_recipes_18 rfl (ct_X12_refuse n (-2) m3 (by decide)) zc_X12 lm_0 k_1194 k_1196 kp_37 k_10 k_1197 zn_X12_refuse ⟨rfl, rfl, Nat.le_of_ble_eq_true rfl, Nat.le_of_ble_eq_true rfl⟩ (Nat.le_of_ble_eq_true rfl) rfl (fun v7 m8 h9 ho10 => ?_)
    exact z_iret dX12_recipes_21 rfl rfl h9
  · refine z_iconst dX12_recipes_22 ?_
    refine z_istore_n dX12_recipes_23 (lv' := [(2, .int (mI 0)), (0, .ref (ad 0)), (1, .int (mI a0))]) (by decide) rfl ?_
    refine z_iconst dX12_recipes_24 ?_
    refine z_istore_n dX12_recipes_25 (lv' := [(3, .int (mI 0)), (2, .int (mI 0)), (0, .ref (ad 0)), (1, .int (mI a0))]) (by decide) rfl ?_
    refine z_iconst dX12_recipes_26 ?_
    refine z_istore dX12_recipes_27 (lv' := [(4, .int (mI 0)), (3, .int (mI 0)), (2, .int (mI 0)), (0, .ref (ad 0)), (1, .int (mI a0))]) (by decide) rfl ?_
    exact zG_lvk (TL_X12_recipes_29 n n a0 0 0 0 m3 ha0 (by decide) (by decide) (by decide)) [3, 4, 2, 1, 0] rfl
set_option maxRecDepth 20000 in
theorem ct_X12_needed {ad sc sv : Nat → Nat} (n : Nat) (a0 : Int) (a1 : Int) (a2 : Int) (m : ZMem) (ha0 : R32 a0) (ha1 : R32 a1) (ha2 : R32 a2) : zCT LM ad sc sv M_X12_needed yX12_needed [.ref (ad 0), .int (mI a0), .int (mI a1), .int (mI a2)] m (F_X12_needed n a0 a1 a2 m) := by
  refine zCT_of (lv := [(0, .ref (ad 0)), (1, .int (mI a0)), (2, .int (mI a1)), (3, .int (mI a2))]) (by decide) rfl (Nat.le_of_ble_eq_true rfl) rfl ?_
  unfold F_X12_needed
  refine z_aload_n dX12_needed_0 0 rfl ?_
  refine z_iconst dX12_needed_1 ?_
  refine z_putI dX12_needed_2 (k := 16) zc_X12 lm_0 rfl (by decide) rfl rfl (by decide) k_1054 ?_
  refine z_aload_n dX12_needed_5 0 rfl ?_
  refine z_iload_n dX12_needed_6 1 rfl ?_
  refine z_callV4 dX12_needed_7 rfl (ct_X12_isPart n a0 (wr m 0 16 0) ha0) zc_X12 lm_0 k_1256 k_1258 kp_50 k_10 k_1259 zn_X12_isPart ⟨rfl, rfl, Nat.le_of_ble_eq_true rfl, Nat.le_of_ble_eq_true rfl⟩ (Nat.le_of_ble_eq_true rfl) rfl (fun v1 m2 h3 ho4 => ?_)
  refine z_if_eq dX12_needed_10 (zb01 h3) (tgt := 36) rfl (fun h5 => ?_) (fun h5 => ?_)
  · refine z_iconst dX12_needed_36 ?_
    refine z_istore dX12_needed_37 (lv' := [(4, .int (mI (-1))), (0, .ref (ad 0)), (1, .int (mI a0)), (2, .int (mI a1)), (3, .int (mI a2))]) (by decide) rfl ?_
    refine z_iload dX12_needed_39 0 rfl ?_
    refine z_if_ge_f dX12_needed_41 (by decide) (by decide) (tgt := 53) rfl ?_
    refine z_aload_n dX12_needed_44 1 rfl ?_
    refine z_iload dX12_needed_45 0 rfl ?_
    refine z_callV1 dX12_needed_47 rfl (ct_X12_refuse n (-1) m2 (by decide)) zc_X12 lm_0 k_1194 k_1196 kp_37 k_10 k_1197 zn_X12_refuse ⟨rfl, rfl, Nat.le_of_ble_eq_true rfl, Nat.le_of_ble_eq_true rfl⟩ (Nat.le_of_ble_eq_true rfl) rfl (fun v6 m7 h8 ho9 => ?_)
    refine z_goto dX12_needed_50 (tgt := 73) rfl ?_
    exact z_iret dX12_needed_73 rfl rfl h8
  · refine z_aload_n dX12_needed_13 0 rfl ?_
    refine z_iload_n dX12_needed_14 3 rfl ?_
    refine z_callV4 dX12_needed_15 rfl (ct_X12_isPart n a2 m2 ha2) zc_X12 lm_0 k_1256 k_1258 kp_50 k_10 k_1259 zn_X12_isPart ⟨rfl, rfl, Nat.le_of_ble_eq_true rfl, Nat.le_of_ble_eq_true rfl⟩ (Nat.le_of_ble_eq_true rfl) rfl (fun v10 m11 h12 ho13 => ?_)
    refine z_if_eq dX12_needed_18 (zb01 h12) (tgt := 36) rfl (fun h14 => ?_) (fun h14 => ?_)
    · refine z_iconst dX12_needed_36 ?_
      refine z_istore dX12_needed_37 (lv' := [(4, .int (mI (-1))), (0, .ref (ad 0)), (1, .int (mI a0)), (2, .int (mI a1)), (3, .int (mI a2))]) (by decide) rfl ?_
      refine z_iload dX12_needed_39 0 rfl ?_
      refine z_if_ge_f dX12_needed_41 (by decide) (by decide) (tgt := 53) rfl ?_
      refine z_aload_n dX12_needed_44 1 rfl ?_
      refine z_iload dX12_needed_45 0 rfl ?_
      refine z_callV1 dX12_needed_47 rfl (ct_X12_refuse n (-1) m11 (by decide)) zc_X12 lm_0 k_1194 k_1196 kp_37 k_10 k_1197 zn_X12_refuse ⟨rfl, rfl, Nat.le_of_ble_eq_true rfl, Nat.le_of_ble_eq_true rfl⟩ (Nat.le_of_ble_eq_true rfl) rfl (fun v15 m16 h17 ho18 => ?_)
      refine z_goto dX12_needed_50 (tgt := 73) rfl ?_
      exact z_iret dX12_needed_73 rfl rfl h17
    · refine z_iload_n dX12_needed_21 1 rfl ?_
      refine z_iload_n dX12_needed_22 3 rfl ?_
      refine z_icmp_eq dX12_needed_23 ha0 ha2 (tgt := 36) rfl (fun h19 => ?_) (fun h19 => ?_)
      · refine z_iconst dX12_needed_36 ?_
        refine z_istore dX12_needed_37 (lv' := [(4, .int (mI (-1))), (0, .ref (ad 0)), (1, .int (mI a0)), (2, .int (mI a1)), (3, .int (mI a2))]) (by decide) rfl ?_
        refine z_iload dX12_needed_39 0 rfl ?_
        refine z_if_ge_f dX12_needed_41 (by decide) (by decide) (tgt := 53) rfl ?_
        refine z_aload_n dX12_needed_44 1 rfl ?_
        refine z_iload dX12_needed_45 0 rfl ?_
        refine z_callV1 dX12_needed_47 rfl (ct_X12_refuse n (-1) m11 (by decide)) zc_X12 lm_0 k_1194 k_1196 kp_37 k_10 k_1197 zn_X12_refuse ⟨rfl, rfl, Nat.le_of_ble_eq_true rfl, Nat.le_of_ble_eq_true rfl⟩ (Nat.le_of_ble_eq_true rfl) rfl (fun v20 m21 h22 ho23 => ?_)
        refine z_goto dX12_needed_50 (tgt := 73) rfl ?_
        exact z_iret dX12_needed_73 rfl rfl h22
      · refine z_iload_n dX12_needed_26 2 rfl ?_
        refine z_iconst dX12_needed_27 ?_
        refine z_bipush dX12_needed_28 (x := 99) (by decide +kernel) ?_
        refine z_callS1 dX12_needed_30 rfl (ct_X12_wrongNumber n a1 0 99 m11 ha1 (by decide) (by decide)) k_1318 k_1319 k_10 k_1320 zn_X12_wrongNumber ⟨rfl, rfl, Nat.le_of_ble_eq_true rfl, Nat.le_of_ble_eq_true rfl⟩ (Nat.le_of_ble_eq_true rfl) rfl (fun v24 m25 h26 ho27 => ?_)
        refine z_goto dX12_needed_33 (tgt := 37) rfl ?_
        refine z_istore dX12_needed_37 (lv' := [(4, .int (mI v24)), (0, .ref (ad 0)), (1, .int (mI a0)), (2, .int (mI a1)), (3, .int (mI a2))]) (by decide) rfl ?_
        refine z_iload dX12_needed_39 0 rfl ?_
        refine z_if_ge dX12_needed_41 h26 (tgt := 53) rfl (fun h28 => ?_) (fun h28 => ?_)
        · refine z_bipush dX12_needed_53 (x := 12) (by decide +kernel) ?_
          refine z_aload_n dX12_needed_55 1 rfl ?_
          refine z_getR dX12_needed_56 (k := 10) (j := 4) zc_X12 lm_0 rfl (by decide) k_1048 ?_
          refine z_iload_n dX12_needed_59 4 rfl ?_
          refine z_iaload dX12_needed_60 ha2 (fun h29 => ?_)
          refine z_imul dX12_needed_61 (fun h30 => ?_)
          refine z_iload_n dX12_needed_62 3 rfl ?_
          refine z_imul dX12_needed_63 (fun h31 => ?_)
          refine z_aload_n dX12_needed_64 1 rfl ?_
          refine z_getR dX12_needed_65 (k := 10) (j := 4) zc_X12 lm_0 rfl (by decide) k_1048 ?_
          refine z_iload_n dX12_needed_68 2 rfl ?_
          refine z_iaload dX12_needed_69 ha0 (fun h32 => ?_)
          refine z_callS1 dX12_needed_70 rfl (ct_X12_nearest n ((12 * (m25 4 (a2 : Int).toNat)) * a1) (m25 4 (a0 : Int).toNat) m25 h31 h32) k_1298 k_1299 k_10 k_1300 zn_X12_nearest ⟨rfl, rfl, Nat.le_of_ble_eq_true rfl, Nat.le_of_ble_eq_true rfl⟩ (Nat.le_of_ble_eq_true rfl) rfl (fun v33 m34 h35 ho36 => ?_)
          exact z_iret dX12_needed_73 rfl rfl h35
        · refine z_aload_n dX12_needed_44 1 rfl ?_
          refine z_iload dX12_needed_45 0 rfl ?_
          refine z_callV1 dX12_needed_47 rfl (ct_X12_refuse n v24 m25 h26) zc_X12 lm_0 k_1194 k_1196 kp_37 k_10 k_1197 zn_X12_refuse ⟨rfl, rfl, Nat.le_of_ble_eq_true rfl, Nat.le_of_ble_eq_true rfl⟩ (Nat.le_of_ble_eq_true rfl) rfl (fun v37 m38 h39 ho40 => ?_)
          refine z_goto dX12_needed_50 (tgt := 73) rfl ?_
          exact z_iret dX12_needed_73 rfl rfl h39
set_option maxRecDepth 20000 in
theorem T_X12_forgotten_10 {ad sc sv : Nat → Nat} (n : Nat) (r10 : Int → Int → ZMem → ZR) (hr10 : ∀ (x1 : Int) (x2 : Int) (m : ZMem), R32 x1 → R32 x2 → zG LM ad sc sv M_X12_forgotten 10 [(0, .ref (ad 0)), (1, .int (mI x1)), (2, .int (mI x2))] [] m (r10 x1 x2 m)) : ∀ (x1 : Int) (x2 : Int) (m : ZMem), R32 x1 → R32 x2 → zG LM ad sc sv M_X12_forgotten 10 [(0, .ref (ad 0)), (1, .int (mI x1)), (2, .int (mI x2))] [] m (B_X12_forgotten_10 n r10 x1 x2 m) := by
  intro x1 x2 m hx1 hx2
  unfold B_X12_forgotten_10
  refine z_iload_n dX12_forgotten_10 2 rfl ?_
  refine z_aload_n dX12_forgotten_11 0 rfl ?_
  refine z_getI dX12_forgotten_12 (k := 2) zc_X12 lm_0 rfl (by decide) k_1040 (fun h1 => ?_)
  refine z_icmp_ge dX12_forgotten_15 hx2 h1 (tgt := 69) rfl (fun h2 => ?_) (fun h2 => ?_)
  · refine z_iload_n dX12_forgotten_69 1 rfl ?_
    exact z_iret dX12_forgotten_70 rfl rfl hx1
  · refine z_aload_n dX12_forgotten_18 0 rfl ?_
    refine z_getR dX12_forgotten_19 (k := 10) (j := 4) zc_X12 lm_0 rfl (by decide) k_1048 ?_
    refine z_iload_n dX12_forgotten_22 2 rfl ?_
    refine z_iaload dX12_forgotten_23 hx2 (fun h3 => ?_)
    refine z_aload_n dX12_forgotten_24 0 rfl ?_
    refine z_getR dX12_forgotten_25 (k := 9) (j := 3) zc_X12 lm_0 rfl (by decide) k_1047 ?_
    refine z_iload_n dX12_forgotten_28 2 rfl ?_
    refine z_iaload dX12_forgotten_29 hx2 (fun h4 => ?_)
    refine z_imul dX12_forgotten_30 (fun h5 => ?_)
    refine z_istore_n dX12_forgotten_31 (lv' := [(3, .int (mI ((m 4 (x2 : Int).toNat) * (m 3 (x2 : Int).toNat)))), (0, .ref (ad 0)), (1, .int (mI x1)), (2, .int (mI x2))]) (by decide) rfl ?_
    refine z_iload_n dX12_forgotten_32 0 rfl ?_
    refine z_if_le dX12_forgotten_33 h5 (tgt := 61) rfl (fun h6 => ?_) (fun h6 => ?_)
    · refine z_iload_n dX12_forgotten_61 2 rfl ?_
      refine z_istore_n dX12_forgotten_62 (lv' := [(1, .int (mI x1)), (3, .int (mI ((m 4 (x2 : Int).toNat) * (m 3 (x2 : Int).toNat)))), (0, .ref (ad 0)), (2, .int (mI x2))]) (by decide) rfl ?_
      refine z_iinc dX12_forgotten_63 (lv' := [(2, .int (mI (x2 + 1))), (1, .int (mI x1)), (3, .int (mI ((m 4 (x2 : Int).toNat) * (m 3 (x2 : Int).toNat)))), (0, .ref (ad 0))]) 3 rfl (by decide) rfl (fun h7 => ?_)
      refine z_goto dX12_forgotten_66 (tgt := 10) rfl ?_
      exact zG_lvk (hr10 x1 (x2 + 1) m hx1 h7) [3, 1, 0] rfl
    · refine z_iload_n dX12_forgotten_36 2 rfl ?_
      refine z_if_lt dX12_forgotten_37 hx1 (tgt := 57) rfl (fun h8 => ?_) (fun h8 => ?_)
      · refine z_iload_n dX12_forgotten_57 3 rfl ?_
        refine z_goto dX12_forgotten_58 (tgt := 62) rfl ?_
        refine z_istore_n dX12_forgotten_62 (lv' := [(1, .int (mI x2)), (3, .int (mI ((m 4 (x2 : Int).toNat) * (m 3 (x2 : Int).toNat)))), (0, .ref (ad 0)), (2, .int (mI x2))]) (by decide) rfl ?_
        refine z_iinc dX12_forgotten_63 (lv' := [(2, .int (mI (x2 + 1))), (1, .int (mI x2)), (3, .int (mI ((m 4 (x2 : Int).toNat) * (m 3 (x2 : Int).toNat)))), (0, .ref (ad 0))]) 3 rfl (by decide) rfl (fun h9 => ?_)
        refine z_goto dX12_forgotten_66 (tgt := 10) rfl ?_
        exact zG_lvk (hr10 x2 (x2 + 1) m hx2 h9) [3, 1, 0] rfl
      · refine z_iload_n dX12_forgotten_40 0 rfl ?_
        refine z_aload_n dX12_forgotten_41 1 rfl ?_
        refine z_getR dX12_forgotten_42 (k := 10) (j := 4) zc_X12 lm_0 rfl (by decide) k_1048 ?_
        refine z_iload_n dX12_forgotten_45 2 rfl ?_
        refine z_iaload dX12_forgotten_46 hx1 (fun h10 => ?_)
        refine z_aload_n dX12_forgotten_47 1 rfl ?_
        refine z_getR dX12_forgotten_48 (k := 9) (j := 3) zc_X12 lm_0 rfl (by decide) k_1047 ?_
        refine z_iload_n dX12_forgotten_51 2 rfl ?_
        refine z_iaload dX12_forgotten_52 hx1 (fun h11 => ?_)
        refine z_imul dX12_forgotten_53 (fun h12 => ?_)
        refine z_icmp_le dX12_forgotten_54 h5 h12 (tgt := 61) rfl (fun h13 => ?_) (fun h13 => ?_)
        · refine z_iload_n dX12_forgotten_61 2 rfl ?_
          refine z_istore_n dX12_forgotten_62 (lv' := [(1, .int (mI x1)), (3, .int (mI ((m 4 (x2 : Int).toNat) * (m 3 (x2 : Int).toNat)))), (0, .ref (ad 0)), (2, .int (mI x2))]) (by decide) rfl ?_
          refine z_iinc dX12_forgotten_63 (lv' := [(2, .int (mI (x2 + 1))), (1, .int (mI x1)), (3, .int (mI ((m 4 (x2 : Int).toNat) * (m 3 (x2 : Int).toNat)))), (0, .ref (ad 0))]) 3 rfl (by decide) rfl (fun h14 => ?_)
          refine z_goto dX12_forgotten_66 (tgt := 10) rfl ?_
          exact zG_lvk (hr10 x1 (x2 + 1) m hx1 h14) [3, 1, 0] rfl
        · refine z_iload_n dX12_forgotten_57 3 rfl ?_
          refine z_goto dX12_forgotten_58 (tgt := 62) rfl ?_
          refine z_istore_n dX12_forgotten_62 (lv' := [(1, .int (mI x2)), (3, .int (mI ((m 4 (x2 : Int).toNat) * (m 3 (x2 : Int).toNat)))), (0, .ref (ad 0)), (2, .int (mI x2))]) (by decide) rfl ?_
          refine z_iinc dX12_forgotten_63 (lv' := [(2, .int (mI (x2 + 1))), (1, .int (mI x2)), (3, .int (mI ((m 4 (x2 : Int).toNat) * (m 3 (x2 : Int).toNat)))), (0, .ref (ad 0))]) 3 rfl (by decide) rfl (fun h15 => ?_)
          refine z_goto dX12_forgotten_66 (tgt := 10) rfl ?_
          exact zG_lvk (hr10 x2 (x2 + 1) m hx2 h15) [3, 1, 0] rfl
theorem TL_X12_forgotten_10 {ad sc sv : Nat → Nat} (n : Nat) : ∀ q : Nat, ∀ (x1 : Int) (x2 : Int) (m : ZMem), R32 x1 → R32 x2 → zG LM ad sc sv M_X12_forgotten 10 [(0, .ref (ad 0)), (1, .int (mI x1)), (2, .int (mI x2))] [] m (L_X12_forgotten_10 n q x1 x2 m) := by
  intro q
  induction q with
  | zero => intros; exact zG_none
  | succ q ih => exact T_X12_forgotten_10 n (L_X12_forgotten_10 n q) ih
set_option maxRecDepth 20000 in
theorem ct_X12_forgotten {ad sc sv : Nat → Nat} (n : Nat) (m : ZMem) : zCT LM ad sc sv M_X12_forgotten yX12_forgotten [.ref (ad 0)] m (F_X12_forgotten n m) := by
  refine zCT_of (lv := [(0, .ref (ad 0))]) (by decide) rfl (Nat.le_of_ble_eq_true rfl) rfl ?_
  unfold F_X12_forgotten
  refine z_aload_n dX12_forgotten_0 0 rfl ?_
  refine z_iconst dX12_forgotten_1 ?_
  refine z_putI dX12_forgotten_2 (k := 16) zc_X12 lm_0 rfl (by decide) rfl rfl (by decide) k_1054 ?_
  refine z_bipush dX12_forgotten_5 (x := (-9)) (by decide +kernel) ?_
  refine z_istore_n dX12_forgotten_7 (lv' := [(1, .int (mI (-9))), (0, .ref (ad 0))]) (by decide) rfl ?_
  refine z_iconst dX12_forgotten_8 ?_
  refine z_istore_n dX12_forgotten_9 (lv' := [(2, .int (mI 0)), (1, .int (mI (-9))), (0, .ref (ad 0))]) (by decide) rfl ?_
  exact zG_lvk (TL_X12_forgotten_10 n n (-9) 0 (wr m 0 16 0) (by decide) (by decide)) [2, 1, 0] rfl
