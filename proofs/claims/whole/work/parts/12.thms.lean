set_option maxRecDepth 20000 in
theorem T_X7_letStandIn_32 {ad sc sv : Nat → Nat} (n : Nat) (r32 : Int → Int → Int → Int → Int → ZMem → ZR) (hr32 : ∀ (x3 : Int) (x4 : Int) (x5 : Int) (x6 : Int) (x7 : Int) (m : ZMem), R32 x3 → R32 x4 → R32 x5 → R32 x6 → R32 x7 → zG LX ad sc sv M_X7_letStandIn 32 [(0, .ref (ad 51)), (3, .int (mI x3)), (4, .int (mI x4)), (5, .int (mI x5)), (6, .int (mI x6)), (7, .int (mI x7))] [] m (r32 x3 x4 x5 x6 x7 m)) : ∀ (x3 : Int) (x4 : Int) (x5 : Int) (x6 : Int) (x7 : Int) (m : ZMem), R32 x3 → R32 x4 → R32 x5 → R32 x6 → R32 x7 → zG LX ad sc sv M_X7_letStandIn 32 [(0, .ref (ad 51)), (3, .int (mI x3)), (4, .int (mI x4)), (5, .int (mI x5)), (6, .int (mI x6)), (7, .int (mI x7))] [] m (B_X7_letStandIn_32 n r32 x3 x4 x5 x6 x7 m) := by
  intro x3 x4 x5 x6 x7 m hx3 hx4 hx5 hx6 hx7
  unfold B_X7_letStandIn_32
  refine z_iload dX7_letStandIn_32 5 rfl ?_
  refine z_bipush dX7_letStandIn_34 (x := 99) (by decide +kernel) ?_
  refine z_icmp_gt dX7_letStandIn_36 hx7 (by decide) (tgt := 84) rfl (fun h13 => ?_) (fun h13 => ?_)
  · exact z_vret dX7_letStandIn_84 rfl rfl
  · refine z_iload dX7_letStandIn_39 4 rfl ?_
    refine z_if_le dX7_letStandIn_41 hx6 (tgt := 84) rfl (fun h14 => ?_) (fun h14 => ?_)
    · exact z_vret dX7_letStandIn_84 rfl rfl
    · refine z_iload dX7_letStandIn_44 5 rfl ?_
      refine z_iload dX7_letStandIn_46 4 rfl ?_
      refine z_mmin dX7_letStandIn_48 hx7 hx6 k_662 k_62 k_4 k_63 (Nat.le_of_ble_eq_true rfl) (Nat.le_of_ble_eq_true rfl) (fun h15 => ?_)
      refine z_istore dX7_letStandIn_51 (lv' := [(8, .int (mI (min x7 x6))), (0, .ref (ad 51)), (3, .int (mI x3)), (4, .int (mI x4)), (5, .int (mI x5)), (6, .int (mI x6)), (7, .int (mI x7))]) (by decide) rfl ?_
      refine z_aload_n dX7_letStandIn_53 1 rfl ?_
      refine z_iload dX7_letStandIn_54 0 rfl ?_
      refine z_iload dX7_letStandIn_56 3 rfl ?_
      refine z_imul dX7_letStandIn_58 (fun h16 => ?_)
      refine z_iload dX7_letStandIn_59 0 rfl ?_
      refine z_iload dX7_letStandIn_61 4 rfl ?_
      refine z_imul dX7_letStandIn_63 (fun h17 => ?_)
      refine z_iload_n dX7_letStandIn_64 2 rfl ?_
      refine z_callV0 dX7_letStandIn_65 rfl (ct_X7_letMake n ((min x7 x6) * x4) ((min x7 x6) * x5) x3 m h16 h17 hx3) zc_X7 lx_51 k_663 k_665 kp_22 k_6 k_666 zn_X7_letMake ⟨rfl, rfl, Nat.le_of_ble_eq_true rfl, Nat.le_of_ble_eq_true rfl⟩ (Nat.le_of_ble_eq_true rfl) rfl (fun v18 m19 ho21 => ?_)
      refine z_iload dX7_letStandIn_68 5 rfl ?_
      refine z_iload dX7_letStandIn_70 0 rfl ?_
      refine z_isub dX7_letStandIn_72 (fun h22 => ?_)
      refine z_istore dX7_letStandIn_73 (lv' := [(6, .int (mI (x6 - (min x7 x6)))), (8, .int (mI (min x7 x6))), (0, .ref (ad 51)), (3, .int (mI x3)), (4, .int (mI x4)), (5, .int (mI x5)), (7, .int (mI x7))]) (by decide) rfl ?_
      refine z_iload dX7_letStandIn_75 6 rfl ?_
      refine z_iconst dX7_letStandIn_77 ?_
      refine z_imul dX7_letStandIn_78 (fun h23 => ?_)
      refine z_istore dX7_letStandIn_79 (lv' := [(7, .int (mI (x7 * 2))), (6, .int (mI (x6 - (min x7 x6)))), (8, .int (mI (min x7 x6))), (0, .ref (ad 51)), (3, .int (mI x3)), (4, .int (mI x4)), (5, .int (mI x5))]) (by decide) rfl ?_
      refine z_goto dX7_letStandIn_81 (tgt := 32) rfl ?_
      exact zG_lvk (hr32 x3 x4 x5 (x6 - (min x7 x6)) (x7 * 2) m19 hx3 hx4 hx5 h22 h23) [3, 4, 5, 6, 1, 0] rfl
theorem TL_X7_letStandIn_32 {ad sc sv : Nat → Nat} (n : Nat) : ∀ q : Nat, ∀ (x3 : Int) (x4 : Int) (x5 : Int) (x6 : Int) (x7 : Int) (m : ZMem), R32 x3 → R32 x4 → R32 x5 → R32 x6 → R32 x7 → zG LX ad sc sv M_X7_letStandIn 32 [(0, .ref (ad 51)), (3, .int (mI x3)), (4, .int (mI x4)), (5, .int (mI x5)), (6, .int (mI x6)), (7, .int (mI x7))] [] m (L_X7_letStandIn_32 n q x3 x4 x5 x6 x7 m) := by
  intro q
  induction q with
  | zero => intros; exact zG_none
  | succ q ih => exact T_X7_letStandIn_32 n (L_X7_letStandIn_32 n q) ih
set_option maxRecDepth 20000 in
theorem ct_X7_letStandIn {ad sc sv : Nat → Nat} (n : Nat) (a0 : Int) (a1 : Int) (m : ZMem) (ha0 : R32 a0) (ha1 : R32 a1) : zCT LX ad sc sv M_X7_letStandIn yX7_letStandIn [.ref (ad 51), .ref (ad 1), .int (mI a0), .int (mI a1)] m (F_X7_letStandIn n a0 a1 m) := by
  refine zCT_of (lv := [(0, .ref (ad 51)), (1, .ref (ad 1)), (2, .int (mI a0)), (3, .int (mI a1))]) (by decide) rfl (Nat.le_of_ble_eq_true rfl) rfl ?_
  unfold F_X7_letStandIn
  refine z_aload_n dX7_letStandIn_0 1 rfl ?_
  refine z_getR dX7_letStandIn_1 (k := 6) (j := 6) zc_X3 lx_1 rfl (by decide) k_91 ?_
  refine z_iload_n dX7_letStandIn_4 2 rfl ?_
  refine z_iconst dX7_letStandIn_5 ?_
  refine z_callV1 dX7_letStandIn_6 rfl (ct_X9_at n 6 zt_6 a0 3 m ha0 (by decide)) zc_X9 lx_6 k_635 k_264 k_265 k_3 k_266 zn_X9_at ⟨rfl, rfl, Nat.le_of_ble_eq_true rfl, Nat.le_of_ble_eq_true rfl⟩ (Nat.le_of_ble_eq_true rfl) rfl (fun v1 m2 h3 ho4 => ?_)
  refine z_istore dX7_letStandIn_9 (lv' := [(4, .int (mI v1)), (0, .ref (ad 51)), (1, .ref (ad 1)), (2, .int (mI a0)), (3, .int (mI a1))]) (by decide) rfl ?_
  refine z_aload_n dX7_letStandIn_11 2 rfl ?_
  refine z_getR dX7_letStandIn_12 (k := 6) (j := 6) zc_X3 lx_1 rfl (by decide) k_91 ?_
  refine z_iload_n dX7_letStandIn_15 3 rfl ?_
  refine z_iconst dX7_letStandIn_16 ?_
  refine z_callV1 dX7_letStandIn_17 rfl (ct_X9_at n 6 zt_6 a0 4 m2 ha0 (by decide)) zc_X9 lx_6 k_635 k_264 k_265 k_3 k_266 zn_X9_at ⟨rfl, rfl, Nat.le_of_ble_eq_true rfl, Nat.le_of_ble_eq_true rfl⟩ (Nat.le_of_ble_eq_true rfl) rfl (fun v5 m6 h7 ho8 => ?_)
  refine z_istore dX7_letStandIn_20 (lv' := [(5, .int (mI v5)), (4, .int (mI v1)), (0, .ref (ad 51)), (1, .ref (ad 1)), (2, .int (mI a0)), (3, .int (mI a1))]) (by decide) rfl ?_
  refine z_aload_n dX7_letStandIn_22 3 rfl ?_
  refine z_iload_n dX7_letStandIn_23 4 rfl ?_
  refine z_callS1 dX7_letStandIn_24 rfl (ct_X7_timesThatItLets n a0 m6 ha0) k_656 k_657 k_6 k_658 zn_X7_timesThatItLets ⟨rfl, rfl, Nat.le_of_ble_eq_true rfl, Nat.le_of_ble_eq_true rfl⟩ (Nat.le_of_ble_eq_true rfl) rfl (fun v9 m10 h11 ho12 => ?_)
  refine z_istore dX7_letStandIn_27 (lv' := [(6, .int (mI v9)), (5, .int (mI v5)), (4, .int (mI v1)), (0, .ref (ad 51)), (1, .ref (ad 1)), (2, .int (mI a0)), (3, .int (mI a1))]) (by decide) rfl ?_
  refine z_iconst dX7_letStandIn_29 ?_
  refine z_istore dX7_letStandIn_30 (lv' := [(7, .int (mI 1)), (6, .int (mI v9)), (5, .int (mI v5)), (4, .int (mI v1)), (0, .ref (ad 51)), (1, .ref (ad 1)), (2, .int (mI a0)), (3, .int (mI a1))]) (by decide) rfl ?_
  exact zG_lvk (TL_X7_letStandIn_32 n n a1 v1 v5 v9 1 m10 ha1 h3 h7 h11 (by decide)) [4, 7, 3, 2, 1, 0] rfl
set_option maxRecDepth 20000 in
theorem T_X7_leastLoss_44 {ad sc sv : Nat → Nat} (n : Nat) (r44 : Int → Int → Int → ZMem → ZR) (hr44 : ∀ (x2 : Int) (x3 : Int) (x4 : Int) (m : ZMem), R32 x2 → R32 x3 → R32 x4 → zG LX ad sc sv M_X7_leastLoss 44 [(0, .ref (ad 51)), (1, .ref (ad 1)), (2, .int (mI x2)), (3, .int (mI x3)), (4, .int (mI x4))] [] m (r44 x2 x3 x4 m)) : ∀ (x2 : Int) (x3 : Int) (x4 : Int) (m : ZMem), R32 x2 → R32 x3 → R32 x4 → zG LX ad sc sv M_X7_leastLoss 44 [(0, .ref (ad 51)), (1, .ref (ad 1)), (2, .int (mI x2)), (3, .int (mI x3)), (4, .int (mI x4))] [] m (B_X7_leastLoss_44 n r44 x2 x3 x4 m) := by
  intro x2 x3 x4 m hx2 hx3 hx4
  unfold B_X7_leastLoss_44
  refine z_iload dX7_leastLoss_44 4 rfl ?_
  refine z_aload_n dX7_leastLoss_46 1 rfl ?_
  refine z_getR dX7_leastLoss_47 (k := 6) (j := 6) zc_X3 lx_1 rfl (by decide) k_91 ?_
  refine z_callV1 dX7_leastLoss_50 rfl (ct_X9_size n 6 zt_6 m) zc_X9 lx_6 k_630 k_276 k_277 k_3 k_278 zn_X9_size ⟨rfl, rfl, Nat.le_of_ble_eq_true rfl, Nat.le_of_ble_eq_true rfl⟩ (Nat.le_of_ble_eq_true rfl) rfl (fun v16 m17 h18 ho19 => ?_)
  refine z_icmp_ge dX7_leastLoss_53 hx4 h18 (tgt := 84) rfl (fun h20 => ?_) (fun h20 => ?_)
  · refine z_aload_n dX7_leastLoss_84 0 rfl ?_
    refine z_getR dX7_leastLoss_85 (k := 0) (j := 52) zc_X7 lx_51 rfl (by decide) k_151 ?_
    refine z_iload_n dX7_leastLoss_88 3 rfl ?_
    refine z_iconst dX7_leastLoss_89 ?_
    refine z_callV1 dX7_leastLoss_90 rfl (ct_X9_at n 52 zt_52 x3 0 m17 hx3 (by decide)) zc_X9 lx_52 k_635 k_264 k_265 k_3 k_266 zn_X9_at ⟨rfl, rfl, Nat.le_of_ble_eq_true rfl, Nat.le_of_ble_eq_true rfl⟩ (Nat.le_of_ble_eq_true rfl) rfl (fun v21 m22 h23 ho24 => ?_)
    refine z_istore dX7_leastLoss_93 (lv' := [(4, .int (mI v21)), (0, .ref (ad 51)), (1, .ref (ad 1)), (2, .int (mI x2)), (3, .int (mI x3))]) (by decide) rfl ?_
    refine z_iload dX7_leastLoss_95 0 rfl ?_
    refine z_ldc dX7_leastLoss_97 (x := 1000000) k_649 ?_
    refine z_icmp_lt dX7_leastLoss_99 h23 (by decide) (tgt := 107) rfl (fun h25 => ?_) (fun h25 => ?_)
    · refine z_iload dX7_leastLoss_107 0 rfl ?_
      exact z_iret dX7_leastLoss_109 rfl rfl h23
    · refine z_bipush dX7_leastLoss_102 (x := (-9)) (by decide +kernel) ?_
      refine z_goto dX7_leastLoss_104 (tgt := 109) rfl ?_
      exact z_iret dX7_leastLoss_109 rfl rfl (by decide)
  · refine z_aload_n dX7_leastLoss_56 1 rfl ?_
    refine z_getR dX7_leastLoss_57 (k := 6) (j := 6) zc_X3 lx_1 rfl (by decide) k_91 ?_
    refine z_iload dX7_leastLoss_60 4 rfl ?_
    refine z_iconst dX7_leastLoss_62 ?_
    refine z_callV1 dX7_leastLoss_63 rfl (ct_X9_at n 6 zt_6 x4 0 m17 hx4 (by decide)) zc_X9 lx_6 k_635 k_264 k_265 k_3 k_266 zn_X9_at ⟨rfl, rfl, Nat.le_of_ble_eq_true rfl, Nat.le_of_ble_eq_true rfl⟩ (Nat.le_of_ble_eq_true rfl) rfl (fun v26 m27 h28 ho29 => ?_)
    refine z_iload_n dX7_leastLoss_66 2 rfl ?_
    refine z_icmp_ne dX7_leastLoss_67 h28 hx2 (tgt := 78) rfl (fun h30 => ?_) (fun h30 => ?_)
    · refine z_aload_n dX7_leastLoss_70 0 rfl ?_
      refine z_aload_n dX7_leastLoss_71 1 rfl ?_
      refine z_iload dX7_leastLoss_72 4 rfl ?_
      refine z_iload_n dX7_leastLoss_74 3 rfl ?_
      refine z_callV0 dX7_leastLoss_75 rfl (ct_X7_letStandIn n x4 x3 m27 hx4 hx3) zc_X7 lx_51 k_652 k_654 kp_21 k_6 k_655 zn_X7_letStandIn ⟨rfl, rfl, Nat.le_of_ble_eq_true rfl, Nat.le_of_ble_eq_true rfl⟩ (Nat.le_of_ble_eq_true rfl) rfl (fun v31 m32 ho34 => ?_)
      refine z_iinc dX7_leastLoss_78 (lv' := [(4, .int (mI (x4 + 1))), (0, .ref (ad 51)), (1, .ref (ad 1)), (2, .int (mI x2)), (3, .int (mI x3))]) 4 rfl (by decide) rfl (fun h35 => ?_)
      refine z_goto dX7_leastLoss_81 (tgt := 44) rfl ?_
      exact zG_lvk (hr44 x2 x3 (x4 + 1) m32 hx2 hx3 h35) [1, 2, 3, 4, 0] rfl
    · refine z_iinc dX7_leastLoss_78 (lv' := [(4, .int (mI (x4 + 1))), (0, .ref (ad 51)), (1, .ref (ad 1)), (2, .int (mI x2)), (3, .int (mI x3))]) 4 rfl (by decide) rfl (fun h36 => ?_)
      refine z_goto dX7_leastLoss_81 (tgt := 44) rfl ?_
      exact zG_lvk (hr44 x2 x3 (x4 + 1) m27 hx2 hx3 h36) [1, 2, 3, 4, 0] rfl
theorem TL_X7_leastLoss_44 {ad sc sv : Nat → Nat} (n : Nat) : ∀ q : Nat, ∀ (x2 : Int) (x3 : Int) (x4 : Int) (m : ZMem), R32 x2 → R32 x3 → R32 x4 → zG LX ad sc sv M_X7_leastLoss 44 [(0, .ref (ad 51)), (1, .ref (ad 1)), (2, .int (mI x2)), (3, .int (mI x3)), (4, .int (mI x4))] [] m (L_X7_leastLoss_44 n q x2 x3 x4 m) := by
  intro q
  induction q with
  | zero => intros; exact zG_none
  | succ q ih => exact T_X7_leastLoss_44 n (L_X7_leastLoss_44 n q) ih
set_option maxRecDepth 20000 in
theorem ct_X7_leastLoss {ad sc sv : Nat → Nat} (n : Nat) (a0 : Int) (m : ZMem) (ha0 : R32 a0) : zCT LX ad sc sv M_X7_leastLoss yX7_leastLoss [.ref (ad 51), .ref (ad 1), .int (mI a0)] m (F_X7_leastLoss n a0 m) := by
  refine zCT_of (lv := [(0, .ref (ad 51)), (1, .ref (ad 1)), (2, .int (mI a0))]) (by decide) rfl (Nat.le_of_ble_eq_true rfl) rfl ?_
  unfold F_X7_leastLoss
  refine z_aload_n dX7_leastLoss_0 1 rfl ?_
  refine z_iload_n dX7_leastLoss_1 2 rfl ?_
  refine z_aload_n dX7_leastLoss_2 1 rfl ?_
  refine z_getI dX7_leastLoss_3 (k := 1) zc_X3 lx_1 rfl (by decide) k_71 (fun h1 => ?_)
  refine z_callS1 dX7_leastLoss_6 rfl (ct_X7_wholesLacking n a0 (m 1 1) m ha0 h1) k_631 k_632 k_6 k_633 zn_X7_wholesLacking ⟨rfl, rfl, Nat.le_of_ble_eq_true rfl, Nat.le_of_ble_eq_true rfl⟩ (Nat.le_of_ble_eq_true rfl) rfl (fun v2 m3 h4 ho5 => ?_)
  refine z_istore_n dX7_leastLoss_9 (lv' := [(3, .int (mI v2)), (0, .ref (ad 51)), (1, .ref (ad 1)), (2, .int (mI a0))]) (by decide) rfl ?_
  refine z_iload_n dX7_leastLoss_10 0 rfl ?_
  refine z_bipush dX7_leastLoss_11 (x := 99) (by decide +kernel) ?_
  refine z_icmp_le dX7_leastLoss_13 h4 (by decide) (tgt := 19) rfl (fun h6 => ?_) (fun h6 => ?_)
  · refine z_aload_n dX7_leastLoss_19 1 rfl ?_
    refine z_getR dX7_leastLoss_20 (k := 0) (j := 52) zc_X7 lx_51 rfl (by decide) k_151 ?_
    refine z_iload_n dX7_leastLoss_23 0 rfl ?_
    refine z_iconst dX7_leastLoss_24 ?_
    refine z_iadd dX7_leastLoss_25 (fun h7 => ?_)
    refine z_ldc dX7_leastLoss_26 (x := 1000000) k_649 ?_
    refine z_callV0 dX7_leastLoss_28 rfl (ct_X9_reset n 52 zt_52 (v2 + 1) 1000000 m3 h7 (by decide)) zc_X9 lx_52 k_650 k_58 k_59 k_3 k_60 zn_X9_reset ⟨rfl, rfl, Nat.le_of_ble_eq_true rfl, Nat.le_of_ble_eq_true rfl⟩ (Nat.le_of_ble_eq_true rfl) rfl (fun v8 m9 ho11 => ?_)
    refine z_aload_n dX7_leastLoss_31 1 rfl ?_
    refine z_getR dX7_leastLoss_32 (k := 0) (j := 52) zc_X7 lx_51 rfl (by decide) k_151 ?_
    refine z_iconst dX7_leastLoss_35 ?_
    refine z_iconst dX7_leastLoss_36 ?_
    refine z_iconst dX7_leastLoss_37 ?_
    refine z_callV0 dX7_leastLoss_38 rfl (ct_X9_put n 52 zt_52 0 0 0 m9 (by decide) (by decide) (by decide)) zc_X9 lx_52 k_651 k_268 k_269 k_3 k_270 zn_X9_put ⟨rfl, rfl, Nat.le_of_ble_eq_true rfl, Nat.le_of_ble_eq_true rfl⟩ (Nat.le_of_ble_eq_true rfl) rfl (fun v12 m13 ho15 => ?_)
    refine z_iconst dX7_leastLoss_41 ?_
    refine z_istore dX7_leastLoss_42 (lv' := [(4, .int (mI 0)), (3, .int (mI v2)), (0, .ref (ad 51)), (1, .ref (ad 1)), (2, .int (mI a0))]) (by decide) rfl ?_
    exact zG_lvk (TL_X7_leastLoss_44 n n a0 v2 0 m13 ha0 h4 (by decide)) [2, 3, 4, 1, 0] rfl
  · refine z_bipush dX7_leastLoss_16 (x := (-9)) (by decide +kernel) ?_
    exact z_iret dX7_leastLoss_18 rfl rfl (by decide)
set_option maxRecDepth 20000 in
theorem T_X7_penceFor_4 {ad sc sv : Nat → Nat} (n : Nat) (r4 : Int → Int → Int → ZMem → ZR) (hr4 : ∀ (x1 : Int) (x2 : Int) (x3 : Int) (m : ZMem), R32 x1 → R32 x2 → R32 x3 → zG LX ad sc sv M_X7_penceFor 4 [(0, .ref (ad 1)), (1, .int (mI x1)), (2, .int (mI x2)), (3, .int (mI x3))] [] m (r4 x1 x2 x3 m)) : ∀ (x1 : Int) (x2 : Int) (x3 : Int) (m : ZMem), R32 x1 → R32 x2 → R32 x3 → zG LX ad sc sv M_X7_penceFor 4 [(0, .ref (ad 1)), (1, .int (mI x1)), (2, .int (mI x2)), (3, .int (mI x3))] [] m (B_X7_penceFor_4 n r4 x1 x2 x3 m) := by
  intro x1 x2 x3 m hx1 hx2 hx3
  unfold B_X7_penceFor_4
  refine z_iload_n dX7_penceFor_4 3 rfl ?_
  refine z_aload_n dX7_penceFor_5 0 rfl ?_
  refine z_getR dX7_penceFor_6 (k := 4) (j := 2) zc_X3 lx_1 rfl (by decide) k_81 ?_
  refine z_callV1 dX7_penceFor_9 rfl (ct_X9_size n 2 zt_2 m) zc_X9 lx_2 k_630 k_276 k_277 k_3 k_278 zn_X9_size ⟨rfl, rfl, Nat.le_of_ble_eq_true rfl, Nat.le_of_ble_eq_true rfl⟩ (Nat.le_of_ble_eq_true rfl) rfl (fun v1 m2 h3 ho4 => ?_)
  refine z_icmp_ge dX7_penceFor_12 hx3 h3 (tgt := 80) rfl (fun h5 => ?_) (fun h5 => ?_)
  · refine z_iload_n dX7_penceFor_80 2 rfl ?_
    exact z_iret dX7_penceFor_81 rfl rfl hx2
  · refine z_aload_n dX7_penceFor_15 0 rfl ?_
    refine z_iload_n dX7_penceFor_16 3 rfl ?_
    refine z_iload_n dX7_penceFor_17 1 rfl ?_
    refine z_callS1 dX7_penceFor_18 rfl (ct_X7_wholesLacking n x3 x1 m2 hx3 hx1) k_631 k_632 k_6 k_633 zn_X7_wholesLacking ⟨rfl, rfl, Nat.le_of_ble_eq_true rfl, Nat.le_of_ble_eq_true rfl⟩ (Nat.le_of_ble_eq_true rfl) rfl (fun v6 m7 h8 ho9 => ?_)
    refine z_istore dX7_penceFor_21 (lv' := [(4, .int (mI v6)), (0, .ref (ad 1)), (1, .int (mI x1)), (2, .int (mI x2)), (3, .int (mI x3))]) (by decide) rfl ?_
    refine z_aload_n dX7_penceFor_23 1 rfl ?_
    refine z_getR dX7_penceFor_24 (k := 4) (j := 2) zc_X3 lx_1 rfl (by decide) k_81 ?_
    refine z_iload_n dX7_penceFor_27 4 rfl ?_
    refine z_iconst dX7_penceFor_28 ?_
    refine z_callV1 dX7_penceFor_29 rfl (ct_X9_at n 2 zt_2 x3 0 m7 hx3 (by decide)) zc_X9 lx_2 k_635 k_264 k_265 k_3 k_266 zn_X9_at ⟨rfl, rfl, Nat.le_of_ble_eq_true rfl, Nat.le_of_ble_eq_true rfl⟩ (Nat.le_of_ble_eq_true rfl) rfl (fun v10 m11 h12 ho13 => ?_)
    refine z_iconst dX7_penceFor_32 ?_
    refine z_icmp_ne dX7_penceFor_33 h12 (by decide) (tgt := 59) rfl (fun h14 => ?_) (fun h14 => ?_)
    · refine z_aload_n dX7_penceFor_36 1 rfl ?_
      refine z_getR dX7_penceFor_37 (k := 4) (j := 2) zc_X3 lx_1 rfl (by decide) k_81 ?_
      refine z_iload_n dX7_penceFor_40 4 rfl ?_
      refine z_iconst dX7_penceFor_41 ?_
      refine z_callV1 dX7_penceFor_42 rfl (ct_X9_at n 2 zt_2 x3 1 m11 hx3 (by decide)) zc_X9 lx_2 k_635 k_264 k_265 k_3 k_266 zn_X9_at ⟨rfl, rfl, Nat.le_of_ble_eq_true rfl, Nat.le_of_ble_eq_true rfl⟩ (Nat.le_of_ble_eq_true rfl) rfl (fun v15 m16 h17 ho18 => ?_)
      refine z_istore dX7_penceFor_45 (lv' := [(5, .int (mI v15)), (4, .int (mI v6)), (0, .ref (ad 1)), (1, .int (mI x1)), (2, .int (mI x2)), (3, .int (mI x3))]) (by decide) rfl ?_
      refine z_iload dX7_penceFor_47 0 rfl ?_
      refine z_iload dX7_penceFor_49 1 rfl ?_
      refine z_iload dX7_penceFor_51 0 rfl ?_
      refine z_callS1 dX7_penceFor_53 rfl (ct_X8_roundedUp n v6 v15 m16 h8 h17) k_636 k_463 k_15 k_464 zn_X8_roundedUp ⟨rfl, rfl, Nat.le_of_ble_eq_true rfl, Nat.le_of_ble_eq_true rfl⟩ (Nat.le_of_ble_eq_true rfl) rfl (fun v19 m20 h21 ho22 => ?_)
      refine z_imul dX7_penceFor_56 (fun h23 => ?_)
      refine z_istore dX7_penceFor_57 (lv' := [(4, .int (mI (v15 * v19))), (5, .int (mI v15)), (0, .ref (ad 1)), (1, .int (mI x1)), (2, .int (mI x2)), (3, .int (mI x3))]) (by decide) rfl ?_
      refine z_iload_n dX7_penceFor_59 4 rfl ?_
      refine z_iload dX7_penceFor_60 0 rfl ?_
      refine z_aload_n dX7_penceFor_62 2 rfl ?_
      refine z_getR dX7_penceFor_63 (k := 4) (j := 2) zc_X3 lx_1 rfl (by decide) k_81 ?_
      refine z_iload_n dX7_penceFor_66 5 rfl ?_
      refine z_iconst dX7_penceFor_67 ?_
      refine z_callV1 dX7_penceFor_68 rfl (ct_X9_at n 2 zt_2 x3 5 m20 hx3 (by decide)) zc_X9 lx_2 k_635 k_264 k_265 k_3 k_266 zn_X9_at ⟨rfl, rfl, Nat.le_of_ble_eq_true rfl, Nat.le_of_ble_eq_true rfl⟩ (Nat.le_of_ble_eq_true rfl) rfl (fun v24 m25 h26 ho27 => ?_)
      refine z_imul dX7_penceFor_71 (fun h28 => ?_)
      refine z_iadd dX7_penceFor_72 (fun h29 => ?_)
      refine z_istore_n dX7_penceFor_73 (lv' := [(2, .int (mI (x2 + ((v15 * v19) * v24)))), (4, .int (mI (v15 * v19))), (5, .int (mI v15)), (0, .ref (ad 1)), (1, .int (mI x1)), (3, .int (mI x3))]) (by decide) rfl ?_
      refine z_iinc dX7_penceFor_74 (lv' := [(3, .int (mI (x3 + 1))), (2, .int (mI (x2 + ((v15 * v19) * v24)))), (4, .int (mI (v15 * v19))), (5, .int (mI v15)), (0, .ref (ad 1)), (1, .int (mI x1))]) 5 rfl (by decide) rfl (fun h30 => ?_)
      refine z_goto dX7_penceFor_77 (tgt := 4) rfl ?_
      exact zG_lvk (hr4 x1 (x2 + ((v15 * v19) * v24)) (x3 + 1) m25 hx1 h29 h30) [4, 5, 1, 0] rfl
    · refine z_iload_n dX7_penceFor_59 3 rfl ?_
      refine z_iload dX7_penceFor_60 0 rfl ?_
      refine z_aload_n dX7_penceFor_62 1 rfl ?_
      refine z_getR dX7_penceFor_63 (k := 4) (j := 2) zc_X3 lx_1 rfl (by decide) k_81 ?_
      refine z_iload_n dX7_penceFor_66 4 rfl ?_
      refine z_iconst dX7_penceFor_67 ?_
      refine z_callV1 dX7_penceFor_68 rfl (ct_X9_at n 2 zt_2 x3 5 m11 hx3 (by decide)) zc_X9 lx_2 k_635 k_264 k_265 k_3 k_266 zn_X9_at ⟨rfl, rfl, Nat.le_of_ble_eq_true rfl, Nat.le_of_ble_eq_true rfl⟩ (Nat.le_of_ble_eq_true rfl) rfl (fun v31 m32 h33 ho34 => ?_)
      refine z_imul dX7_penceFor_71 (fun h35 => ?_)
      refine z_iadd dX7_penceFor_72 (fun h36 => ?_)
      refine z_istore_n dX7_penceFor_73 (lv' := [(2, .int (mI (x2 + (v6 * v31)))), (4, .int (mI v6)), (0, .ref (ad 1)), (1, .int (mI x1)), (3, .int (mI x3))]) (by decide) rfl ?_
      refine z_iinc dX7_penceFor_74 (lv' := [(3, .int (mI (x3 + 1))), (2, .int (mI (x2 + (v6 * v31)))), (4, .int (mI v6)), (0, .ref (ad 1)), (1, .int (mI x1))]) 4 rfl (by decide) rfl (fun h37 => ?_)
      refine z_goto dX7_penceFor_77 (tgt := 4) rfl ?_
      exact zG_lvk (hr4 x1 (x2 + (v6 * v31)) (x3 + 1) m32 hx1 h36 h37) [3, 4, 1, 0] rfl
theorem TL_X7_penceFor_4 {ad sc sv : Nat → Nat} (n : Nat) : ∀ q : Nat, ∀ (x1 : Int) (x2 : Int) (x3 : Int) (m : ZMem), R32 x1 → R32 x2 → R32 x3 → zG LX ad sc sv M_X7_penceFor 4 [(0, .ref (ad 1)), (1, .int (mI x1)), (2, .int (mI x2)), (3, .int (mI x3))] [] m (L_X7_penceFor_4 n q x1 x2 x3 m) := by
  intro q
  induction q with
  | zero => intros; exact zG_none
  | succ q ih => exact T_X7_penceFor_4 n (L_X7_penceFor_4 n q) ih
set_option maxRecDepth 20000 in
theorem ct_X7_penceFor {ad sc sv : Nat → Nat} (n : Nat) (a0 : Int) (m : ZMem) (ha0 : R32 a0) : zCT LX ad sc sv M_X7_penceFor yX7_penceFor [.ref (ad 1), .int (mI a0)] m (F_X7_penceFor n a0 m) := by
  refine zCT_of (lv := [(0, .ref (ad 1)), (1, .int (mI a0))]) (by decide) rfl (Nat.le_of_ble_eq_true rfl) rfl ?_
  unfold F_X7_penceFor
  refine z_iconst dX7_penceFor_0 ?_
  refine z_istore_n dX7_penceFor_1 (lv' := [(2, .int (mI 0)), (0, .ref (ad 1)), (1, .int (mI a0))]) (by decide) rfl ?_
  refine z_iconst dX7_penceFor_2 ?_
  refine z_istore_n dX7_penceFor_3 (lv' := [(3, .int (mI 0)), (2, .int (mI 0)), (0, .ref (ad 1)), (1, .int (mI a0))]) (by decide) rfl ?_
  exact zG_lvk (TL_X7_penceFor_4 n n a0 0 0 m ha0 (by decide) (by decide)) [2, 3, 1, 0] rfl
set_option maxRecDepth 20000 in
theorem T_X7_leastPence_14 {ad sc sv : Nat → Nat} (n : Nat) (r14 : Int → Int → Int → Int → ZMem → ZR) (hr14 : ∀ (x2 : Int) (x3 : Int) (x4 : Int) (x5 : Int) (m : ZMem), R32 x2 → R32 x3 → R32 x4 → R32 x5 → zG LX ad sc sv M_X7_leastPence 14 [(0, .ref (ad 1)), (2, .int (mI x2)), (3, .int (mI x3)), (4, .int (mI x4)), (5, .int (mI x5))] [] m (r14 x2 x3 x4 x5 m)) : ∀ (x2 : Int) (x3 : Int) (x4 : Int) (x5 : Int) (m : ZMem), R32 x2 → R32 x3 → R32 x4 → R32 x5 → zG LX ad sc sv M_X7_leastPence 14 [(0, .ref (ad 1)), (2, .int (mI x2)), (3, .int (mI x3)), (4, .int (mI x4)), (5, .int (mI x5))] [] m (B_X7_leastPence_14 n r14 x2 x3 x4 x5 m) := by
  intro x2 x3 x4 x5 m hx2 hx3 hx4 hx5
  unfold B_X7_leastPence_14
  refine z_iload dX7_leastPence_14 4 rfl ?_
  refine z_iload_n dX7_leastPence_16 1 rfl ?_
  refine z_icmp_gt dX7_leastPence_17 hx5 hx2 (tgt := 53) rfl (fun h6 => ?_) (fun h6 => ?_)
  · refine z_iload_n dX7_leastPence_53 2 rfl ?_
    exact z_iret dX7_leastPence_54 rfl rfl hx3
  · refine z_aload_n dX7_leastPence_20 0 rfl ?_
    refine z_iload dX7_leastPence_21 4 rfl ?_
    refine z_callS1 dX7_leastPence_23 rfl (ct_X7_penceFor n x5 m hx5) k_854 k_845 k_6 k_846 zn_X7_penceFor ⟨rfl, rfl, Nat.le_of_ble_eq_true rfl, Nat.le_of_ble_eq_true rfl⟩ (Nat.le_of_ble_eq_true rfl) rfl (fun v7 m8 h9 ho10 => ?_)
    refine z_istore dX7_leastPence_26 (lv' := [(6, .int (mI v7)), (0, .ref (ad 1)), (2, .int (mI x2)), (3, .int (mI x3)), (4, .int (mI x4)), (5, .int (mI x5))]) (by decide) rfl ?_
    refine z_iload dX7_leastPence_28 0 rfl ?_
    refine z_iload_n dX7_leastPence_30 3 rfl ?_
    refine z_imul dX7_leastPence_31 (fun h11 => ?_)
    refine z_iload dX7_leastPence_32 4 rfl ?_
    refine z_iload dX7_leastPence_34 5 rfl ?_
    refine z_imul dX7_leastPence_36 (fun h12 => ?_)
    refine z_icmp_ge dX7_leastPence_37 h11 h12 (tgt := 47) rfl (fun h13 => ?_) (fun h13 => ?_)
    · refine z_iinc dX7_leastPence_47 (lv' := [(5, .int (mI (x5 + 1))), (6, .int (mI v7)), (0, .ref (ad 1)), (2, .int (mI x2)), (3, .int (mI x3)), (4, .int (mI x4))]) 5 rfl (by decide) rfl (fun h14 => ?_)
      refine z_goto dX7_leastPence_50 (tgt := 14) rfl ?_
      exact zG_lvk (hr14 x2 x3 x4 (x5 + 1) m8 hx2 hx3 hx4 h14) [2, 3, 4, 5, 0] rfl
    · refine z_iload dX7_leastPence_40 5 rfl ?_
      refine z_istore_n dX7_leastPence_42 (lv' := [(3, .int (mI x5)), (6, .int (mI v7)), (0, .ref (ad 1)), (2, .int (mI x2)), (4, .int (mI x4)), (5, .int (mI x5))]) (by decide) rfl ?_
      refine z_iload dX7_leastPence_43 1 rfl ?_
      refine z_istore dX7_leastPence_45 (lv' := [(4, .int (mI v7)), (3, .int (mI x5)), (6, .int (mI v7)), (0, .ref (ad 1)), (2, .int (mI x2)), (5, .int (mI x5))]) (by decide) rfl ?_
      refine z_iinc dX7_leastPence_47 (lv' := [(5, .int (mI (x5 + 1))), (4, .int (mI v7)), (3, .int (mI x5)), (6, .int (mI v7)), (0, .ref (ad 1)), (2, .int (mI x2))]) 5 rfl (by decide) rfl (fun h15 => ?_)
      refine z_goto dX7_leastPence_50 (tgt := 14) rfl ?_
      exact zG_lvk (hr14 x2 x5 v7 (x5 + 1) m8 hx2 hx5 h9 h15) [4, 5, 2, 1, 0] rfl
theorem TL_X7_leastPence_14 {ad sc sv : Nat → Nat} (n : Nat) : ∀ q : Nat, ∀ (x2 : Int) (x3 : Int) (x4 : Int) (x5 : Int) (m : ZMem), R32 x2 → R32 x3 → R32 x4 → R32 x5 → zG LX ad sc sv M_X7_leastPence 14 [(0, .ref (ad 1)), (2, .int (mI x2)), (3, .int (mI x3)), (4, .int (mI x4)), (5, .int (mI x5))] [] m (L_X7_leastPence_14 n q x2 x3 x4 x5 m) := by
  intro q
  induction q with
  | zero => intros; exact zG_none
  | succ q ih => exact T_X7_leastPence_14 n (L_X7_leastPence_14 n q) ih
set_option maxRecDepth 20000 in
theorem ct_X7_leastPence {ad sc sv : Nat → Nat} (n : Nat) (a0 : Int) (a1 : Int) (m : ZMem) (ha0 : R32 a0) (ha1 : R32 a1) : zCT LX ad sc sv M_X7_leastPence yX7_leastPence [.ref (ad 1), .int (mI a0), .int (mI a1)] m (F_X7_leastPence n a0 a1 m) := by
  refine zCT_of (lv := [(0, .ref (ad 1)), (1, .int (mI a0)), (2, .int (mI a1))]) (by decide) rfl (Nat.le_of_ble_eq_true rfl) rfl ?_
  unfold F_X7_leastPence
  refine z_iload_n dX7_leastPence_0 1 rfl ?_
  refine z_istore_n dX7_leastPence_1 (lv' := [(3, .int (mI a0)), (0, .ref (ad 1)), (1, .int (mI a0)), (2, .int (mI a1))]) (by decide) rfl ?_
  refine z_aload_n dX7_leastPence_2 1 rfl ?_
  refine z_iload_n dX7_leastPence_3 2 rfl ?_
  refine z_callS1 dX7_leastPence_4 rfl (ct_X7_penceFor n a0 m ha0) k_854 k_845 k_6 k_846 zn_X7_penceFor ⟨rfl, rfl, Nat.le_of_ble_eq_true rfl, Nat.le_of_ble_eq_true rfl⟩ (Nat.le_of_ble_eq_true rfl) rfl (fun v1 m2 h3 ho4 => ?_)
  refine z_istore dX7_leastPence_7 (lv' := [(4, .int (mI v1)), (3, .int (mI a0)), (0, .ref (ad 1)), (1, .int (mI a0)), (2, .int (mI a1))]) (by decide) rfl ?_
  refine z_iload_n dX7_leastPence_9 3 rfl ?_
  refine z_iconst dX7_leastPence_10 ?_
  refine z_iadd dX7_leastPence_11 (fun h5 => ?_)
  refine z_istore dX7_leastPence_12 (lv' := [(5, .int (mI (a0 + 1))), (4, .int (mI v1)), (3, .int (mI a0)), (0, .ref (ad 1)), (1, .int (mI a0)), (2, .int (mI a1))]) (by decide) rfl ?_
  exact zG_lvk (TL_X7_leastPence_14 n n a1 a0 v1 (a0 + 1) m2 ha1 ha0 h3 h5) [3, 5, 2, 1, 0] rfl
set_option maxRecDepth 20000 in
theorem T_X7_leftFeeds_2 {ad sc sv : Nat → Nat} (n : Nat) (r2 : Int → Int → ZMem → ZR) (hr2 : ∀ (x1 : Int) (x2 : Int) (m : ZMem), R32 x1 → R32 x2 → zG LX ad sc sv M_X7_leftFeeds 2 [(0, .ref (ad 1)), (1, .int (mI x1)), (2, .int (mI x2))] [] m (r2 x1 x2 m)) : ∀ (x1 : Int) (x2 : Int) (m : ZMem), R32 x1 → R32 x2 → zG LX ad sc sv M_X7_leftFeeds 2 [(0, .ref (ad 1)), (1, .int (mI x1)), (2, .int (mI x2))] [] m (B_X7_leftFeeds_2 n r2 x1 x2 m) := by
  intro x1 x2 m hx1 hx2
  unfold B_X7_leftFeeds_2
  refine z_iload_n dX7_leftFeeds_2 2 rfl ?_
  refine z_aload_n dX7_leftFeeds_3 0 rfl ?_
  refine z_getR dX7_leftFeeds_4 (k := 4) (j := 2) zc_X3 lx_1 rfl (by decide) k_81 ?_
  refine z_callV1 dX7_leftFeeds_7 rfl (ct_X9_size n 2 zt_2 m) zc_X9 lx_2 k_630 k_276 k_277 k_3 k_278 zn_X9_size ⟨rfl, rfl, Nat.le_of_ble_eq_true rfl, Nat.le_of_ble_eq_true rfl⟩ (Nat.le_of_ble_eq_true rfl) rfl (fun v1 m2 h3 ho4 => ?_)
  refine z_icmp_ge dX7_leftFeeds_10 hx2 h3 (tgt := 50) rfl (fun h5 => ?_) (fun h5 => ?_)
  · refine z_iconst dX7_leftFeeds_50 ?_
    exact z_zret dX7_leftFeeds_51 rfl rfl (by decide)
  · refine z_bipush dX7_leftFeeds_13 (x := 12) (by decide +kernel) ?_
    refine z_aload_n dX7_leftFeeds_15 0 rfl ?_
    refine z_getR dX7_leftFeeds_16 (k := 4) (j := 2) zc_X3 lx_1 rfl (by decide) k_81 ?_
    refine z_iload_n dX7_leftFeeds_19 2 rfl ?_
    refine z_iconst dX7_leftFeeds_20 ?_
    refine z_callV1 dX7_leftFeeds_21 rfl (ct_X9_at n 2 zt_2 x2 3 m2 hx2 (by decide)) zc_X9 lx_2 k_635 k_264 k_265 k_3 k_266 zn_X9_at ⟨rfl, rfl, Nat.le_of_ble_eq_true rfl, Nat.le_of_ble_eq_true rfl⟩ (Nat.le_of_ble_eq_true rfl) rfl (fun v6 m7 h8 ho9 => ?_)
    refine z_imul dX7_leftFeeds_24 (fun h10 => ?_)
    refine z_iload_n dX7_leftFeeds_25 1 rfl ?_
    refine z_imul dX7_leftFeeds_26 (fun h11 => ?_)
    refine z_istore_n dX7_leftFeeds_27 (lv' := [(3, .int (mI ((12 * v6) * x1))), (0, .ref (ad 1)), (1, .int (mI x1)), (2, .int (mI x2))]) (by decide) rfl ?_
    refine z_iload_n dX7_leftFeeds_28 0 rfl ?_
    refine z_aload_n dX7_leftFeeds_29 1 rfl ?_
    refine z_iload_n dX7_leftFeeds_30 3 rfl ?_
    refine z_callV1 dX7_leftFeeds_31 rfl (ct_X3_left n x2 m7 hx2) zc_X3 lx_1 k_764 k_469 k_470 k_2 k_471 zn_X3_left ⟨rfl, rfl, Nat.le_of_ble_eq_true rfl, Nat.le_of_ble_eq_true rfl⟩ (Nat.le_of_ble_eq_true rfl) rfl (fun v12 m13 h14 ho15 => ?_)
    refine z_aload_n dX7_leftFeeds_34 1 rfl ?_
    refine z_getI dX7_leftFeeds_35 (k := 0) zc_X3 lx_1 rfl (by decide) k_68 (fun h16 => ?_)
    refine z_imul dX7_leftFeeds_38 (fun h17 => ?_)
    refine z_icmp_le dX7_leftFeeds_39 h11 h17 (tgt := 44) rfl (fun h18 => ?_) (fun h18 => ?_)
    · refine z_iinc dX7_leftFeeds_44 (lv' := [(2, .int (mI (x2 + 1))), (3, .int (mI ((12 * v6) * x1))), (0, .ref (ad 1)), (1, .int (mI x1))]) 3 rfl (by decide) rfl (fun h19 => ?_)
      refine z_goto dX7_leftFeeds_47 (tgt := 2) rfl ?_
      exact zG_lvk (hr2 x1 (x2 + 1) m13 hx1 h19) [2, 3, 0] rfl
    · refine z_iconst dX7_leftFeeds_42 ?_
      exact z_zret dX7_leftFeeds_43 rfl rfl (by decide)
theorem TL_X7_leftFeeds_2 {ad sc sv : Nat → Nat} (n : Nat) : ∀ q : Nat, ∀ (x1 : Int) (x2 : Int) (m : ZMem), R32 x1 → R32 x2 → zG LX ad sc sv M_X7_leftFeeds 2 [(0, .ref (ad 1)), (1, .int (mI x1)), (2, .int (mI x2))] [] m (L_X7_leftFeeds_2 n q x1 x2 m) := by
  intro q
  induction q with
  | zero => intros; exact zG_none
  | succ q ih => exact T_X7_leftFeeds_2 n (L_X7_leftFeeds_2 n q) ih
set_option maxRecDepth 20000 in
theorem ct_X7_leftFeeds {ad sc sv : Nat → Nat} (n : Nat) (a0 : Int) (m : ZMem) (ha0 : R32 a0) : zCT LX ad sc sv M_X7_leftFeeds yX7_leftFeeds [.ref (ad 1), .int (mI a0)] m (F_X7_leftFeeds n a0 m) := by
  refine zCT_of (lv := [(0, .ref (ad 1)), (1, .int (mI a0))]) (by decide) rfl (Nat.le_of_ble_eq_true rfl) rfl ?_
  unfold F_X7_leftFeeds
  refine z_iconst dX7_leftFeeds_0 ?_
  refine z_istore_n dX7_leftFeeds_1 (lv' := [(2, .int (mI 0)), (0, .ref (ad 1)), (1, .int (mI a0))]) (by decide) rfl ?_
  exact zG_lvk (TL_X7_leftFeeds_2 n n a0 0 m ha0 (by decide)) [1, 2, 0] rfl
set_option maxRecDepth 20000 in
theorem T_X7_moreGuests_3 {ad sc sv : Nat → Nat} (n : Nat) (r3 : Int → ZMem → ZR) (hr3 : ∀ (x1 : Int) (m : ZMem), R32 x1 → zG LX ad sc sv M_X7_moreGuests 3 [(0, .ref (ad 1)), (1, .int (mI x1))] [] m (r3 x1 m)) : ∀ (x1 : Int) (m : ZMem), R32 x1 → zG LX ad sc sv M_X7_moreGuests 3 [(0, .ref (ad 1)), (1, .int (mI x1))] [] m (B_X7_moreGuests_3 n r3 x1 m) := by
  intro x1 m hx1
  unfold B_X7_moreGuests_3
  refine z_iload_n dX7_moreGuests_3 1 rfl ?_
  refine z_if_le dX7_moreGuests_4 hx1 (tgt := 23) rfl (fun h1 => ?_) (fun h1 => ?_)
  · refine z_iconst dX7_moreGuests_23 ?_
    exact z_iret dX7_moreGuests_24 rfl rfl (by decide)
  · refine z_aload_n dX7_moreGuests_7 0 rfl ?_
    refine z_iload_n dX7_moreGuests_8 1 rfl ?_
    refine z_callS4 dX7_moreGuests_9 rfl (ct_X7_leftFeeds n x1 m hx1) k_761 k_762 k_6 k_763 zn_X7_leftFeeds ⟨rfl, rfl, Nat.le_of_ble_eq_true rfl, Nat.le_of_ble_eq_true rfl⟩ (Nat.le_of_ble_eq_true rfl) rfl (fun v2 m3 h4 ho5 => ?_)
    refine z_if_eq dX7_moreGuests_12 (zb01 h4) (tgt := 17) rfl (fun h6 => ?_) (fun h6 => ?_)
    · refine z_iinc dX7_moreGuests_17 (lv' := [(1, .int (mI (x1 + (-1)))), (0, .ref (ad 1))]) 1 rfl (by decide) rfl (fun h7 => ?_)
      refine z_goto dX7_moreGuests_20 (tgt := 3) rfl ?_
      exact zG_lvk (hr3 (x1 + (-1)) m3 h7) [1, 0] rfl
    · refine z_iload_n dX7_moreGuests_15 1 rfl ?_
      exact z_iret dX7_moreGuests_16 rfl rfl hx1
theorem TL_X7_moreGuests_3 {ad sc sv : Nat → Nat} (n : Nat) : ∀ q : Nat, ∀ (x1 : Int) (m : ZMem), R32 x1 → zG LX ad sc sv M_X7_moreGuests 3 [(0, .ref (ad 1)), (1, .int (mI x1))] [] m (L_X7_moreGuests_3 n q x1 m) := by
  intro q
  induction q with
  | zero => intros; exact zG_none
  | succ q ih => exact T_X7_moreGuests_3 n (L_X7_moreGuests_3 n q) ih
set_option maxRecDepth 20000 in
theorem ct_X7_moreGuests {ad sc sv : Nat → Nat} (n : Nat) (m : ZMem) : zCT LX ad sc sv M_X7_moreGuests yX7_moreGuests [.ref (ad 1)] m (F_X7_moreGuests n m) := by
  refine zCT_of (lv := [(0, .ref (ad 1))]) (by decide) rfl (Nat.le_of_ble_eq_true rfl) rfl ?_
  unfold F_X7_moreGuests
  refine z_bipush dX7_moreGuests_0 (x := 24) (by decide +kernel) ?_
  refine z_istore_n dX7_moreGuests_2 (lv' := [(1, .int (mI 24)), (0, .ref (ad 1))]) (by decide) rfl ?_
  exact zG_lvk (TL_X7_moreGuests_3 n n 24 m (by decide)) [1, 0] rfl
set_option maxRecDepth 20000 in
theorem T_X7_worthOf_4 {ad sc sv : Nat → Nat} (n : Nat) (r4 : Int → Int → Int → ZMem → ZR) (hr4 : ∀ (x1 : Int) (x2 : Int) (x3 : Int) (m : ZMem), R32 x1 → R32 x2 → R32 x3 → zG LX ad sc sv M_X7_worthOf 4 [(0, .ref (ad 1)), (1, .int (mI x1)), (2, .int (mI x2)), (3, .int (mI x3))] [] m (r4 x1 x2 x3 m)) : ∀ (x1 : Int) (x2 : Int) (x3 : Int) (m : ZMem), R32 x1 → R32 x2 → R32 x3 → zG LX ad sc sv M_X7_worthOf 4 [(0, .ref (ad 1)), (1, .int (mI x1)), (2, .int (mI x2)), (3, .int (mI x3))] [] m (B_X7_worthOf_4 n r4 x1 x2 x3 m) := by
  intro x1 x2 x3 m hx1 hx2 hx3
  unfold B_X7_worthOf_4
  refine z_iload_n dX7_worthOf_4 3 rfl ?_
  refine z_aload_n dX7_worthOf_5 0 rfl ?_
  refine z_getR dX7_worthOf_6 (k := 9) (j := 12) zc_X3 lx_1 rfl (by decide) k_100 ?_
  refine z_callV1 dX7_worthOf_9 rfl (ct_X9_size n 12 zt_12 m) zc_X9 lx_12 k_630 k_276 k_277 k_3 k_278 zn_X9_size ⟨rfl, rfl, Nat.le_of_ble_eq_true rfl, Nat.le_of_ble_eq_true rfl⟩ (Nat.le_of_ble_eq_true rfl) rfl (fun v1 m2 h3 ho4 => ?_)
  refine z_icmp_ge dX7_worthOf_12 hx3 h3 (tgt := 39) rfl (fun h5 => ?_) (fun h5 => ?_)
  · refine z_iload_n dX7_worthOf_39 2 rfl ?_
    exact z_iret dX7_worthOf_40 rfl rfl hx2
  · refine z_iload_n dX7_worthOf_15 2 rfl ?_
    refine z_iload_n dX7_worthOf_16 1 rfl ?_
    refine z_iload_n dX7_worthOf_17 3 rfl ?_
    refine z_ishr dX7_worthOf_18 hx1 (fun h6 => ?_)
    refine z_iconst dX7_worthOf_19 ?_
    refine z_iandm dX7_worthOf_20 1 (by decide +kernel) (by decide) (fun h7 => ?_)
    refine z_aload_n dX7_worthOf_21 0 rfl ?_
    refine z_getR dX7_worthOf_22 (k := 9) (j := 12) zc_X3 lx_1 rfl (by decide) k_100 ?_
    refine z_iload_n dX7_worthOf_25 3 rfl ?_
    refine z_iconst dX7_worthOf_26 ?_
    refine z_callV1 dX7_worthOf_27 rfl (ct_X9_at n 12 zt_12 x3 4 m2 hx3 (by decide)) zc_X9 lx_12 k_635 k_264 k_265 k_3 k_266 zn_X9_at ⟨rfl, rfl, Nat.le_of_ble_eq_true rfl, Nat.le_of_ble_eq_true rfl⟩ (Nat.le_of_ble_eq_true rfl) rfl (fun v8 m9 h10 ho11 => ?_)
    refine z_imul dX7_worthOf_30 (fun h12 => ?_)
    refine z_iadd dX7_worthOf_31 (fun h13 => ?_)
    refine z_istore_n dX7_worthOf_32 (lv' := [(2, .int (mI (x2 + (((x1 / 2 ^ (x3 : Int).toNat) % 2 ^ 1) * v8)))), (0, .ref (ad 1)), (1, .int (mI x1)), (3, .int (mI x3))]) (by decide) rfl ?_
    refine z_iinc dX7_worthOf_33 (lv' := [(3, .int (mI (x3 + 1))), (2, .int (mI (x2 + (((x1 / 2 ^ (x3 : Int).toNat) % 2 ^ 1) * v8)))), (0, .ref (ad 1)), (1, .int (mI x1))]) 3 rfl (by decide) rfl (fun h14 => ?_)
    refine z_goto dX7_worthOf_36 (tgt := 4) rfl ?_
    exact zG_lvk (hr4 x1 (x2 + (((x1 / 2 ^ (x3 : Int).toNat) % 2 ^ 1) * v8)) (x3 + 1) m9 hx1 h13 h14) [2, 3, 1, 0] rfl
theorem TL_X7_worthOf_4 {ad sc sv : Nat → Nat} (n : Nat) : ∀ q : Nat, ∀ (x1 : Int) (x2 : Int) (x3 : Int) (m : ZMem), R32 x1 → R32 x2 → R32 x3 → zG LX ad sc sv M_X7_worthOf 4 [(0, .ref (ad 1)), (1, .int (mI x1)), (2, .int (mI x2)), (3, .int (mI x3))] [] m (L_X7_worthOf_4 n q x1 x2 x3 m) := by
  intro q
  induction q with
  | zero => intros; exact zG_none
  | succ q ih => exact T_X7_worthOf_4 n (L_X7_worthOf_4 n q) ih
set_option maxRecDepth 20000 in
theorem ct_X7_worthOf {ad sc sv : Nat → Nat} (n : Nat) (a0 : Int) (m : ZMem) (ha0 : R32 a0) : zCT LX ad sc sv M_X7_worthOf yX7_worthOf [.ref (ad 1), .int (mI a0)] m (F_X7_worthOf n a0 m) := by
  refine zCT_of (lv := [(0, .ref (ad 1)), (1, .int (mI a0))]) (by decide) rfl (Nat.le_of_ble_eq_true rfl) rfl ?_
  unfold F_X7_worthOf
  refine z_iconst dX7_worthOf_0 ?_
  refine z_istore_n dX7_worthOf_1 (lv' := [(2, .int (mI 0)), (0, .ref (ad 1)), (1, .int (mI a0))]) (by decide) rfl ?_
  refine z_iconst dX7_worthOf_2 ?_
  refine z_istore_n dX7_worthOf_3 (lv' := [(3, .int (mI 0)), (2, .int (mI 0)), (0, .ref (ad 1)), (1, .int (mI a0))]) (by decide) rfl ?_
  exact zG_lvk (TL_X7_worthOf_4 n n a0 0 0 m ha0 (by decide) (by decide)) [2, 3, 1, 0] rfl
set_option maxRecDepth 20000 in
theorem T_X7_twelfthsOf_5 {ad sc sv : Nat → Nat} (n : Nat) (r5 : Int → Int → Int → Int → ZMem → ZR) (hr5 : ∀ (x1 : Int) (x2 : Int) (x3 : Int) (x4 : Int) (m : ZMem), R32 x1 → R32 x2 → R32 x3 → R32 x4 → zG LX ad sc sv M_X7_twelfthsOf 5 [(0, .ref (ad 12)), (1, .int (mI x1)), (2, .int (mI x2)), (3, .int (mI x3)), (4, .int (mI x4))] [] m (r5 x1 x2 x3 x4 m)) : ∀ (x1 : Int) (x2 : Int) (x3 : Int) (x4 : Int) (m : ZMem), R32 x1 → R32 x2 → R32 x3 → R32 x4 → zG LX ad sc sv M_X7_twelfthsOf 5 [(0, .ref (ad 12)), (1, .int (mI x1)), (2, .int (mI x2)), (3, .int (mI x3)), (4, .int (mI x4))] [] m (B_X7_twelfthsOf_5 n r5 x1 x2 x3 x4 m) := by
  intro x1 x2 x3 x4 m hx1 hx2 hx3 hx4
  unfold B_X7_twelfthsOf_5
  refine z_iload dX7_twelfthsOf_5 4 rfl ?_
  refine z_aload_n dX7_twelfthsOf_7 0 rfl ?_
  refine z_callV1 dX7_twelfthsOf_8 rfl (ct_X9_size n 12 zt_12 m) zc_X9 lx_12 k_630 k_276 k_277 k_3 k_278 zn_X9_size ⟨rfl, rfl, Nat.le_of_ble_eq_true rfl, Nat.le_of_ble_eq_true rfl⟩ (Nat.le_of_ble_eq_true rfl) rfl (fun v1 m2 h3 ho4 => ?_)
  refine z_icmp_ge dX7_twelfthsOf_11 hx4 h3 (tgt := 80) rfl (fun h5 => ?_) (fun h5 => ?_)
  · refine z_iload_n dX7_twelfthsOf_80 3 rfl ?_
    exact z_iret dX7_twelfthsOf_81 rfl rfl hx3
  · refine z_iload_n dX7_twelfthsOf_14 1 rfl ?_
    refine z_iload dX7_twelfthsOf_15 4 rfl ?_
    refine z_ishr dX7_twelfthsOf_17 hx1 (fun h6 => ?_)
    refine z_iconst dX7_twelfthsOf_18 ?_
    refine z_iandm dX7_twelfthsOf_19 1 (by decide +kernel) (by decide) (fun h7 => ?_)
    refine z_iconst dX7_twelfthsOf_20 ?_
    refine z_icmp_ne dX7_twelfthsOf_21 h7 (by decide) (tgt := 74) rfl (fun h8 => ?_) (fun h8 => ?_)
    · refine z_iload_n dX7_twelfthsOf_24 3 rfl ?_
      refine z_aload_n dX7_twelfthsOf_25 0 rfl ?_
      refine z_iload dX7_twelfthsOf_26 4 rfl ?_
      refine z_iconst dX7_twelfthsOf_28 ?_
      refine z_callV1 dX7_twelfthsOf_29 rfl (ct_X9_at n 12 zt_12 x4 0 m2 hx4 (by decide)) zc_X9 lx_12 k_635 k_264 k_265 k_3 k_266 zn_X9_at ⟨rfl, rfl, Nat.le_of_ble_eq_true rfl, Nat.le_of_ble_eq_true rfl⟩ (Nat.le_of_ble_eq_true rfl) rfl (fun v9 m10 h11 ho12 => ?_)
      refine z_iload_n dX7_twelfthsOf_32 2 rfl ?_
      refine z_icmp_ne dX7_twelfthsOf_33 h11 hx2 (tgt := 46) rfl (fun h13 => ?_) (fun h13 => ?_)
      · refine z_aload_n dX7_twelfthsOf_36 0 rfl ?_
        refine z_iload dX7_twelfthsOf_37 4 rfl ?_
        refine z_iconst dX7_twelfthsOf_39 ?_
        refine z_callV1 dX7_twelfthsOf_40 rfl (ct_X9_at n 12 zt_12 x4 1 m10 hx4 (by decide)) zc_X9 lx_12 k_635 k_264 k_265 k_3 k_266 zn_X9_at ⟨rfl, rfl, Nat.le_of_ble_eq_true rfl, Nat.le_of_ble_eq_true rfl⟩ (Nat.le_of_ble_eq_true rfl) rfl (fun v14 m15 h16 ho17 => ?_)
        refine z_goto dX7_twelfthsOf_43 (tgt := 47) rfl ?_
        refine z_iadd dX7_twelfthsOf_47 (fun h18 => ?_)
        refine z_istore_n dX7_twelfthsOf_48 (lv' := [(3, .int (mI (x3 + v14))), (0, .ref (ad 12)), (1, .int (mI x1)), (2, .int (mI x2)), (4, .int (mI x4))]) (by decide) rfl ?_
        refine z_iload_n dX7_twelfthsOf_49 0 rfl ?_
        refine z_aload_n dX7_twelfthsOf_50 1 rfl ?_
        refine z_iload dX7_twelfthsOf_51 4 rfl ?_
        refine z_iconst dX7_twelfthsOf_53 ?_
        refine z_callV1 dX7_twelfthsOf_54 rfl (ct_X9_at n 12 zt_12 x4 2 m15 hx4 (by decide)) zc_X9 lx_12 k_635 k_264 k_265 k_3 k_266 zn_X9_at ⟨rfl, rfl, Nat.le_of_ble_eq_true rfl, Nat.le_of_ble_eq_true rfl⟩ (Nat.le_of_ble_eq_true rfl) rfl (fun v19 m20 h21 ho22 => ?_)
        refine z_iload_n dX7_twelfthsOf_57 3 rfl ?_
        refine z_icmp_ne dX7_twelfthsOf_58 h21 hx2 (tgt := 71) rfl (fun h23 => ?_) (fun h23 => ?_)
        · refine z_aload_n dX7_twelfthsOf_61 1 rfl ?_
          refine z_iload dX7_twelfthsOf_62 4 rfl ?_
          refine z_iconst dX7_twelfthsOf_64 ?_
          refine z_callV1 dX7_twelfthsOf_65 rfl (ct_X9_at n 12 zt_12 x4 3 m20 hx4 (by decide)) zc_X9 lx_12 k_635 k_264 k_265 k_3 k_266 zn_X9_at ⟨rfl, rfl, Nat.le_of_ble_eq_true rfl, Nat.le_of_ble_eq_true rfl⟩ (Nat.le_of_ble_eq_true rfl) rfl (fun v24 m25 h26 ho27 => ?_)
          refine z_goto dX7_twelfthsOf_68 (tgt := 72) rfl ?_
          refine z_iadd dX7_twelfthsOf_72 (fun h28 => ?_)
          refine z_istore_n dX7_twelfthsOf_73 (lv' := [(3, .int (mI ((x3 + v14) + v24))), (0, .ref (ad 12)), (1, .int (mI x1)), (2, .int (mI x2)), (4, .int (mI x4))]) (by decide) rfl ?_
          refine z_iinc dX7_twelfthsOf_74 (lv' := [(4, .int (mI (x4 + 1))), (3, .int (mI ((x3 + v14) + v24))), (0, .ref (ad 12)), (1, .int (mI x1)), (2, .int (mI x2))]) 4 rfl (by decide) rfl (fun h29 => ?_)
          refine z_goto dX7_twelfthsOf_77 (tgt := 5) rfl ?_
          exact zG_lvk (hr5 x1 x2 ((x3 + v14) + v24) (x4 + 1) m25 hx1 hx2 h28 h29) [2, 3, 4, 1, 0] rfl
        · refine z_iconst dX7_twelfthsOf_71 ?_
          refine z_iadd dX7_twelfthsOf_72 (fun h30 => ?_)
          refine z_istore_n dX7_twelfthsOf_73 (lv' := [(3, .int (mI ((x3 + v14) + 0))), (0, .ref (ad 12)), (1, .int (mI x1)), (2, .int (mI x2)), (4, .int (mI x4))]) (by decide) rfl ?_
          refine z_iinc dX7_twelfthsOf_74 (lv' := [(4, .int (mI (x4 + 1))), (3, .int (mI ((x3 + v14) + 0))), (0, .ref (ad 12)), (1, .int (mI x1)), (2, .int (mI x2))]) 4 rfl (by decide) rfl (fun h31 => ?_)
          refine z_goto dX7_twelfthsOf_77 (tgt := 5) rfl ?_
          exact zG_lvk (hr5 x1 x2 ((x3 + v14) + 0) (x4 + 1) m20 hx1 hx2 h30 h31) [2, 3, 4, 1, 0] rfl
      · refine z_iconst dX7_twelfthsOf_46 ?_
        refine z_iadd dX7_twelfthsOf_47 (fun h32 => ?_)
        refine z_istore_n dX7_twelfthsOf_48 (lv' := [(3, .int (mI (x3 + 0))), (0, .ref (ad 12)), (1, .int (mI x1)), (2, .int (mI x2)), (4, .int (mI x4))]) (by decide) rfl ?_
        refine z_iload_n dX7_twelfthsOf_49 0 rfl ?_
        refine z_aload_n dX7_twelfthsOf_50 1 rfl ?_
        refine z_iload dX7_twelfthsOf_51 4 rfl ?_
        refine z_iconst dX7_twelfthsOf_53 ?_
        refine z_callV1 dX7_twelfthsOf_54 rfl (ct_X9_at n 12 zt_12 x4 2 m10 hx4 (by decide)) zc_X9 lx_12 k_635 k_264 k_265 k_3 k_266 zn_X9_at ⟨rfl, rfl, Nat.le_of_ble_eq_true rfl, Nat.le_of_ble_eq_true rfl⟩ (Nat.le_of_ble_eq_true rfl) rfl (fun v33 m34 h35 ho36 => ?_)
        refine z_iload_n dX7_twelfthsOf_57 3 rfl ?_
        refine z_icmp_ne dX7_twelfthsOf_58 h35 hx2 (tgt := 71) rfl (fun h37 => ?_) (fun h37 => ?_)
        · refine z_aload_n dX7_twelfthsOf_61 1 rfl ?_
          refine z_iload dX7_twelfthsOf_62 4 rfl ?_
          refine z_iconst dX7_twelfthsOf_64 ?_
          refine z_callV1 dX7_twelfthsOf_65 rfl (ct_X9_at n 12 zt_12 x4 3 m34 hx4 (by decide)) zc_X9 lx_12 k_635 k_264 k_265 k_3 k_266 zn_X9_at ⟨rfl, rfl, Nat.le_of_ble_eq_true rfl, Nat.le_of_ble_eq_true rfl⟩ (Nat.le_of_ble_eq_true rfl) rfl (fun v38 m39 h40 ho41 => ?_)
          refine z_goto dX7_twelfthsOf_68 (tgt := 72) rfl ?_
          refine z_iadd dX7_twelfthsOf_72 (fun h42 => ?_)
          refine z_istore_n dX7_twelfthsOf_73 (lv' := [(3, .int (mI ((x3 + 0) + v38))), (0, .ref (ad 12)), (1, .int (mI x1)), (2, .int (mI x2)), (4, .int (mI x4))]) (by decide) rfl ?_
          refine z_iinc dX7_twelfthsOf_74 (lv' := [(4, .int (mI (x4 + 1))), (3, .int (mI ((x3 + 0) + v38))), (0, .ref (ad 12)), (1, .int (mI x1)), (2, .int (mI x2))]) 4 rfl (by decide) rfl (fun h43 => ?_)
          refine z_goto dX7_twelfthsOf_77 (tgt := 5) rfl ?_
          exact zG_lvk (hr5 x1 x2 ((x3 + 0) + v38) (x4 + 1) m39 hx1 hx2 h42 h43) [2, 3, 4, 1, 0] rfl
        · refine z_iconst dX7_twelfthsOf_71 ?_
          refine z_iadd dX7_twelfthsOf_72 (fun h44 => ?_)
          refine z_istore_n dX7_twelfthsOf_73 (lv' := [(3, .int (mI ((x3 + 0) + 0))), (0, .ref (ad 12)), (1, .int (mI x1)), (2, .int (mI x2)), (4, .int (mI x4))]) (by decide) rfl ?_
          refine z_iinc dX7_twelfthsOf_74 (lv' := [(4, .int (mI (x4 + 1))), (3, .int (mI ((x3 + 0) + 0))), (0, .ref (ad 12)), (1, .int (mI x1)), (2, .int (mI x2))]) 4 rfl (by decide) rfl (fun h45 => ?_)
          refine z_goto dX7_twelfthsOf_77 (tgt := 5) rfl ?_
          exact zG_lvk (hr5 x1 x2 ((x3 + 0) + 0) (x4 + 1) m34 hx1 hx2 h44 h45) [2, 3, 4, 1, 0] rfl
    · refine z_iinc dX7_twelfthsOf_74 (lv' := [(4, .int (mI (x4 + 1))), (0, .ref (ad 12)), (1, .int (mI x1)), (2, .int (mI x2)), (3, .int (mI x3))]) 4 rfl (by decide) rfl (fun h46 => ?_)
      refine z_goto dX7_twelfthsOf_77 (tgt := 5) rfl ?_
      exact zG_lvk (hr5 x1 x2 x3 (x4 + 1) m2 hx1 hx2 hx3 h46) [1, 2, 3, 4, 0] rfl
theorem TL_X7_twelfthsOf_5 {ad sc sv : Nat → Nat} (n : Nat) : ∀ q : Nat, ∀ (x1 : Int) (x2 : Int) (x3 : Int) (x4 : Int) (m : ZMem), R32 x1 → R32 x2 → R32 x3 → R32 x4 → zG LX ad sc sv M_X7_twelfthsOf 5 [(0, .ref (ad 12)), (1, .int (mI x1)), (2, .int (mI x2)), (3, .int (mI x3)), (4, .int (mI x4))] [] m (L_X7_twelfthsOf_5 n q x1 x2 x3 x4 m) := by
  intro q
  induction q with
  | zero => intros; exact zG_none
  | succ q ih => exact T_X7_twelfthsOf_5 n (L_X7_twelfthsOf_5 n q) ih
set_option maxRecDepth 20000 in
theorem ct_X7_twelfthsOf {ad sc sv : Nat → Nat} (n : Nat) (a0 : Int) (a1 : Int) (m : ZMem) (ha0 : R32 a0) (ha1 : R32 a1) : zCT LX ad sc sv M_X7_twelfthsOf yX7_twelfthsOf [.ref (ad 12), .int (mI a0), .int (mI a1)] m (F_X7_twelfthsOf n a0 a1 m) := by
  refine zCT_of (lv := [(0, .ref (ad 12)), (1, .int (mI a0)), (2, .int (mI a1))]) (by decide) rfl (Nat.le_of_ble_eq_true rfl) rfl ?_
  unfold F_X7_twelfthsOf
  refine z_iconst dX7_twelfthsOf_0 ?_
  refine z_istore_n dX7_twelfthsOf_1 (lv' := [(3, .int (mI 0)), (0, .ref (ad 12)), (1, .int (mI a0)), (2, .int (mI a1))]) (by decide) rfl ?_
  refine z_iconst dX7_twelfthsOf_2 ?_
  refine z_istore dX7_twelfthsOf_3 (lv' := [(4, .int (mI 0)), (3, .int (mI 0)), (0, .ref (ad 12)), (1, .int (mI a0)), (2, .int (mI a1))]) (by decide) rfl ?_
  exact zG_lvk (TL_X7_twelfthsOf_5 n n a0 a1 0 0 m ha0 ha1 (by decide) (by decide)) [2, 3, 4, 1, 0] rfl
set_option maxRecDepth 20000 in
theorem T_X7_leftIsEnough_2 {ad sc sv : Nat → Nat} (n : Nat) (r2 : Int → Int → ZMem → ZR) (hr2 : ∀ (x1 : Int) (x2 : Int) (m : ZMem), R32 x1 → R32 x2 → zG LX ad sc sv M_X7_leftIsEnough 2 [(0, .ref (ad 1)), (1, .int (mI x1)), (2, .int (mI x2))] [] m (r2 x1 x2 m)) : ∀ (x1 : Int) (x2 : Int) (m : ZMem), R32 x1 → R32 x2 → zG LX ad sc sv M_X7_leftIsEnough 2 [(0, .ref (ad 1)), (1, .int (mI x1)), (2, .int (mI x2))] [] m (B_X7_leftIsEnough_2 n r2 x1 x2 m) := by
  intro x1 x2 m hx1 hx2
  unfold B_X7_leftIsEnough_2
  refine z_iload_n dX7_leftIsEnough_2 2 rfl ?_
  refine z_aload_n dX7_leftIsEnough_3 0 rfl ?_
  refine z_getR dX7_leftIsEnough_4 (k := 4) (j := 2) zc_X3 lx_1 rfl (by decide) k_81 ?_
  refine z_callV1 dX7_leftIsEnough_7 rfl (ct_X9_size n 2 zt_2 m) zc_X9 lx_2 k_630 k_276 k_277 k_3 k_278 zn_X9_size ⟨rfl, rfl, Nat.le_of_ble_eq_true rfl, Nat.le_of_ble_eq_true rfl⟩ (Nat.le_of_ble_eq_true rfl) rfl (fun v1 m2 h3 ho4 => ?_)
  refine z_icmp_ge dX7_leftIsEnough_10 hx2 h3 (tgt := 38) rfl (fun h5 => ?_) (fun h5 => ?_)
  · refine z_iconst dX7_leftIsEnough_38 ?_
    exact z_zret dX7_leftIsEnough_39 rfl rfl (by decide)
  · refine z_aload_n dX7_leftIsEnough_13 0 rfl ?_
    refine z_getR dX7_leftIsEnough_14 (k := 9) (j := 12) zc_X3 lx_1 rfl (by decide) k_100 ?_
    refine z_iload_n dX7_leftIsEnough_17 1 rfl ?_
    refine z_iload_n dX7_leftIsEnough_18 2 rfl ?_
    refine z_callS1 dX7_leftIsEnough_19 rfl (ct_X7_twelfthsOf n x1 x2 m2 hx1 hx2) k_996 k_997 k_6 k_998 zn_X7_twelfthsOf ⟨rfl, rfl, Nat.le_of_ble_eq_true rfl, Nat.le_of_ble_eq_true rfl⟩ (Nat.le_of_ble_eq_true rfl) rfl (fun v6 m7 h8 ho9 => ?_)
    refine z_aload_n dX7_leftIsEnough_22 0 rfl ?_
    refine z_iload_n dX7_leftIsEnough_23 2 rfl ?_
    refine z_callV1 dX7_leftIsEnough_24 rfl (ct_X3_left n x2 m7 hx2) zc_X3 lx_1 k_764 k_469 k_470 k_2 k_471 zn_X3_left ⟨rfl, rfl, Nat.le_of_ble_eq_true rfl, Nat.le_of_ble_eq_true rfl⟩ (Nat.le_of_ble_eq_true rfl) rfl (fun v10 m11 h12 ho13 => ?_)
    refine z_icmp_le dX7_leftIsEnough_27 h8 h12 (tgt := 32) rfl (fun h14 => ?_) (fun h14 => ?_)
    · refine z_iinc dX7_leftIsEnough_32 (lv' := [(2, .int (mI (x2 + 1))), (0, .ref (ad 1)), (1, .int (mI x1))]) 2 rfl (by decide) rfl (fun h15 => ?_)
      refine z_goto dX7_leftIsEnough_35 (tgt := 2) rfl ?_
      exact zG_lvk (hr2 x1 (x2 + 1) m11 hx1 h15) [1, 2, 0] rfl
    · refine z_iconst dX7_leftIsEnough_30 ?_
      exact z_zret dX7_leftIsEnough_31 rfl rfl (by decide)
theorem TL_X7_leftIsEnough_2 {ad sc sv : Nat → Nat} (n : Nat) : ∀ q : Nat, ∀ (x1 : Int) (x2 : Int) (m : ZMem), R32 x1 → R32 x2 → zG LX ad sc sv M_X7_leftIsEnough 2 [(0, .ref (ad 1)), (1, .int (mI x1)), (2, .int (mI x2))] [] m (L_X7_leftIsEnough_2 n q x1 x2 m) := by
  intro q
  induction q with
  | zero => intros; exact zG_none
  | succ q ih => exact T_X7_leftIsEnough_2 n (L_X7_leftIsEnough_2 n q) ih
set_option maxRecDepth 20000 in
theorem ct_X7_leftIsEnough {ad sc sv : Nat → Nat} (n : Nat) (a0 : Int) (m : ZMem) (ha0 : R32 a0) : zCT LX ad sc sv M_X7_leftIsEnough yX7_leftIsEnough [.ref (ad 1), .int (mI a0)] m (F_X7_leftIsEnough n a0 m) := by
  refine zCT_of (lv := [(0, .ref (ad 1)), (1, .int (mI a0))]) (by decide) rfl (Nat.le_of_ble_eq_true rfl) rfl ?_
  unfold F_X7_leftIsEnough
  refine z_iconst dX7_leftIsEnough_0 ?_
  refine z_istore_n dX7_leftIsEnough_1 (lv' := [(2, .int (mI 0)), (0, .ref (ad 1)), (1, .int (mI a0))]) (by decide) rfl ?_
  exact zG_lvk (TL_X7_leftIsEnough_2 n n a0 0 m ha0 (by decide)) [1, 2, 0] rfl
set_option maxRecDepth 20000 in
theorem T_X7_worthiestSet_14 {ad sc sv : Nat → Nat} (n : Nat) (r14 : Int → Int → Int → ZMem → ZR) (hr14 : ∀ (x1 : Int) (x2 : Int) (x3 : Int) (m : ZMem), R32 x1 → R32 x2 → R32 x3 → zG LX ad sc sv M_X7_worthiestSet 14 [(0, .ref (ad 1)), (1, .int (mI x1)), (2, .int (mI x2)), (3, .int (mI x3))] [] m (r14 x1 x2 x3 m)) : ∀ (x1 : Int) (x2 : Int) (x3 : Int) (m : ZMem), R32 x1 → R32 x2 → R32 x3 → zG LX ad sc sv M_X7_worthiestSet 14 [(0, .ref (ad 1)), (1, .int (mI x1)), (2, .int (mI x2)), (3, .int (mI x3))] [] m (B_X7_worthiestSet_14 n r14 x1 x2 x3 m) := by
  intro x1 x2 x3 m hx1 hx2 hx3
  unfold B_X7_worthiestSet_14
  refine z_iload_n dX7_worthiestSet_14 3 rfl ?_
  refine z_iload_n dX7_worthiestSet_15 2 rfl ?_
  refine z_icmp_ge dX7_worthiestSet_16 hx3 hx2 (tgt := 48) rfl (fun h6 => ?_) (fun h6 => ?_)
  · refine z_iload_n dX7_worthiestSet_48 1 rfl ?_
    exact z_iret dX7_worthiestSet_49 rfl rfl hx1
  · refine z_aload_n dX7_worthiestSet_19 0 rfl ?_
    refine z_iload_n dX7_worthiestSet_20 3 rfl ?_
    refine z_callS1 dX7_worthiestSet_21 rfl (ct_X7_worthOf n x3 m hx3) k_990 k_991 k_6 k_992 zn_X7_worthOf ⟨rfl, rfl, Nat.le_of_ble_eq_true rfl, Nat.le_of_ble_eq_true rfl⟩ (Nat.le_of_ble_eq_true rfl) rfl (fun v7 m8 h9 ho10 => ?_)
    refine z_aload_n dX7_worthiestSet_24 0 rfl ?_
    refine z_iload_n dX7_worthiestSet_25 1 rfl ?_
    refine z_callS1 dX7_worthiestSet_26 rfl (ct_X7_worthOf n x1 m8 hx1) k_990 k_991 k_6 k_992 zn_X7_worthOf ⟨rfl, rfl, Nat.le_of_ble_eq_true rfl, Nat.le_of_ble_eq_true rfl⟩ (Nat.le_of_ble_eq_true rfl) rfl (fun v11 m12 h13 ho14 => ?_)
    refine z_icmp_le dX7_worthiestSet_29 h9 h13 (tgt := 42) rfl (fun h15 => ?_) (fun h15 => ?_)
    · refine z_iinc dX7_worthiestSet_42 (lv' := [(3, .int (mI (x3 + 1))), (0, .ref (ad 1)), (1, .int (mI x1)), (2, .int (mI x2))]) 3 rfl (by decide) rfl (fun h16 => ?_)
      refine z_goto dX7_worthiestSet_45 (tgt := 14) rfl ?_
      exact zG_lvk (hr14 x1 x2 (x3 + 1) m12 hx1 hx2 h16) [1, 2, 3, 0] rfl
    · refine z_aload_n dX7_worthiestSet_32 0 rfl ?_
      refine z_iload_n dX7_worthiestSet_33 3 rfl ?_
      refine z_callS4 dX7_worthiestSet_34 rfl (ct_X7_leftIsEnough n x3 m12 hx3) k_993 k_994 k_6 k_995 zn_X7_leftIsEnough ⟨rfl, rfl, Nat.le_of_ble_eq_true rfl, Nat.le_of_ble_eq_true rfl⟩ (Nat.le_of_ble_eq_true rfl) rfl (fun v17 m18 h19 ho20 => ?_)
      refine z_if_eq dX7_worthiestSet_37 (zb01 h19) (tgt := 42) rfl (fun h21 => ?_) (fun h21 => ?_)
      · refine z_iinc dX7_worthiestSet_42 (lv' := [(3, .int (mI (x3 + 1))), (0, .ref (ad 1)), (1, .int (mI x1)), (2, .int (mI x2))]) 3 rfl (by decide) rfl (fun h22 => ?_)
        refine z_goto dX7_worthiestSet_45 (tgt := 14) rfl ?_
        exact zG_lvk (hr14 x1 x2 (x3 + 1) m18 hx1 hx2 h22) [1, 2, 3, 0] rfl
      · refine z_iload_n dX7_worthiestSet_40 3 rfl ?_
        refine z_istore_n dX7_worthiestSet_41 (lv' := [(1, .int (mI x3)), (0, .ref (ad 1)), (2, .int (mI x2)), (3, .int (mI x3))]) (by decide) rfl ?_
        refine z_iinc dX7_worthiestSet_42 (lv' := [(3, .int (mI (x3 + 1))), (1, .int (mI x3)), (0, .ref (ad 1)), (2, .int (mI x2))]) 3 rfl (by decide) rfl (fun h23 => ?_)
        refine z_goto dX7_worthiestSet_45 (tgt := 14) rfl ?_
        exact zG_lvk (hr14 x3 x2 (x3 + 1) m18 hx3 hx2 h23) [2, 1, 3, 0] rfl
theorem TL_X7_worthiestSet_14 {ad sc sv : Nat → Nat} (n : Nat) : ∀ q : Nat, ∀ (x1 : Int) (x2 : Int) (x3 : Int) (m : ZMem), R32 x1 → R32 x2 → R32 x3 → zG LX ad sc sv M_X7_worthiestSet 14 [(0, .ref (ad 1)), (1, .int (mI x1)), (2, .int (mI x2)), (3, .int (mI x3))] [] m (L_X7_worthiestSet_14 n q x1 x2 x3 m) := by
  intro q
  induction q with
  | zero => intros; exact zG_none
  | succ q ih => exact T_X7_worthiestSet_14 n (L_X7_worthiestSet_14 n q) ih
set_option maxRecDepth 20000 in
theorem ct_X7_worthiestSet {ad sc sv : Nat → Nat} (n : Nat) (m : ZMem) : zCT LX ad sc sv M_X7_worthiestSet yX7_worthiestSet [.ref (ad 1)] m (F_X7_worthiestSet n m) := by
  refine zCT_of (lv := [(0, .ref (ad 1))]) (by decide) rfl (Nat.le_of_ble_eq_true rfl) rfl ?_
  unfold F_X7_worthiestSet
  refine z_iconst dX7_worthiestSet_0 ?_
  refine z_istore_n dX7_worthiestSet_1 (lv' := [(1, .int (mI 0)), (0, .ref (ad 1))]) (by decide) rfl ?_
  refine z_iconst dX7_worthiestSet_2 ?_
  refine z_aload_n dX7_worthiestSet_3 1 rfl ?_
  refine z_getR dX7_worthiestSet_4 (k := 9) (j := 12) zc_X3 lx_1 rfl (by decide) k_100 ?_
  refine z_callV1 dX7_worthiestSet_7 rfl (ct_X9_size n 12 zt_12 m) zc_X9 lx_12 k_630 k_276 k_277 k_3 k_278 zn_X9_size ⟨rfl, rfl, Nat.le_of_ble_eq_true rfl, Nat.le_of_ble_eq_true rfl⟩ (Nat.le_of_ble_eq_true rfl) rfl (fun v1 m2 h3 ho4 => ?_)
  refine z_ishl dX7_worthiestSet_10 (fun h5 => ?_)
  refine z_istore_n dX7_worthiestSet_11 (lv' := [(2, .int (mI (1 * 2 ^ (v1 : Int).toNat))), (1, .int (mI 0)), (0, .ref (ad 1))]) (by decide) rfl ?_
  refine z_iconst dX7_worthiestSet_12 ?_
  refine z_istore_n dX7_worthiestSet_13 (lv' := [(3, .int (mI 1)), (2, .int (mI (1 * 2 ^ (v1 : Int).toNat))), (1, .int (mI 0)), (0, .ref (ad 1))]) (by decide) rfl ?_
  exact zG_lvk (TL_X7_worthiestSet_14 n n 0 (1 * 2 ^ (v1 : Int).toNat) 1 m2 (by decide) h5 (by decide)) [3, 2, 1, 0] rfl
set_option maxRecDepth 20000 in
theorem ct_X8_rest {ad sc sv : Nat → Nat} (n : Nat) (a0 : Int) (a1 : Int) (m : ZMem) (ha0 : R32 a0) (ha1 : R32 a1) : zCT LX ad sc sv M_X8_rest yX8_rest [.int (mI a0), .int (mI a1)] m (F_X8_rest n a0 a1 m) := by
  refine zCT_of (lv := [(0, .int (mI a0)), (1, .int (mI a1))]) (by decide) rfl (Nat.le_of_ble_eq_true rfl) rfl ?_
  unfold F_X8_rest
  refine z_iload_n dX8_rest_0 1 rfl ?_
  refine z_iconst dX8_rest_1 ?_
  refine z_icmp_ge dX8_rest_2 ha1 (by decide) (tgt := 9) rfl (fun h1 => ?_) (fun h1 => ?_)
  · refine z_iload_n dX8_rest_9 0 rfl ?_
    refine z_iload_n dX8_rest_10 1 rfl ?_
    refine z_irem dX8_rest_11 ha0 ha1 (fun h2 => ?_)
    exact z_iret dX8_rest_12 rfl rfl h2
  · refine z_iconst dX8_rest_5 ?_
    refine z_goto dX8_rest_6 (tgt := 12) rfl ?_
    exact z_iret dX8_rest_12 rfl rfl (by decide)
set_option maxRecDepth 20000 in
theorem T_X8_commonDivisor_7 {ad sc sv : Nat → Nat} (n : Nat) (r7 : Int → Int → Int → ZMem → ZR) (hr7 : ∀ (x2 : Int) (x3 : Int) (x4 : Int) (m : ZMem), R32 x2 → R32 x3 → R32 x4 → zG LX ad sc sv M_X8_commonDivisor 7 [(2, .int (mI x2)), (3, .int (mI x3)), (4, .int (mI x4))] [] m (r7 x2 x3 x4 m)) : ∀ (x2 : Int) (x3 : Int) (x4 : Int) (m : ZMem), R32 x2 → R32 x3 → R32 x4 → zG LX ad sc sv M_X8_commonDivisor 7 [(2, .int (mI x2)), (3, .int (mI x3)), (4, .int (mI x4))] [] m (B_X8_commonDivisor_7 n r7 x2 x3 x4 m) := by
  intro x2 x3 x4 m hx2 hx3 hx4
  unfold B_X8_commonDivisor_7
  refine z_iload dX8_commonDivisor_7 2 rfl ?_
  refine z_bipush dX8_commonDivisor_9 (x := 64) (by decide +kernel) ?_
  refine z_icmp_ge dX8_commonDivisor_11 hx4 (by decide) (tgt := 36) rfl (fun h1 => ?_) (fun h1 => ?_)
  · refine z_iload_n dX8_commonDivisor_36 0 rfl ?_
    exact z_iret dX8_commonDivisor_37 rfl rfl hx2
  · refine z_iload_n dX8_commonDivisor_14 1 rfl ?_
    refine z_if_le dX8_commonDivisor_15 hx3 (tgt := 36) rfl (fun h2 => ?_) (fun h2 => ?_)
    · refine z_iload_n dX8_commonDivisor_36 0 rfl ?_
      exact z_iret dX8_commonDivisor_37 rfl rfl hx2
    · refine z_iload_n dX8_commonDivisor_18 0 rfl ?_
      refine z_iload_n dX8_commonDivisor_19 1 rfl ?_
      refine z_callS1 dX8_commonDivisor_20 rfl (ct_X8_rest n x2 x3 m hx2 hx3) k_518 k_519 k_15 k_520 zn_X8_rest ⟨rfl, rfl, Nat.le_of_ble_eq_true rfl, Nat.le_of_ble_eq_true rfl⟩ (Nat.le_of_ble_eq_true rfl) rfl (fun v3 m4 h5 ho6 => ?_)
      refine z_istore dX8_commonDivisor_23 (lv' := [(5, .int (mI v3)), (2, .int (mI x2)), (3, .int (mI x3)), (4, .int (mI x4))]) (by decide) rfl ?_
      refine z_iload_n dX8_commonDivisor_25 2 rfl ?_
      refine z_istore_n dX8_commonDivisor_26 (lv' := [(2, .int (mI x3)), (5, .int (mI v3)), (3, .int (mI x3)), (4, .int (mI x4))]) (by decide) rfl ?_
      refine z_iload dX8_commonDivisor_27 1 rfl ?_
      refine z_istore_n dX8_commonDivisor_29 (lv' := [(3, .int (mI v3)), (2, .int (mI x3)), (5, .int (mI v3)), (4, .int (mI x4))]) (by decide) rfl ?_
      refine z_iinc dX8_commonDivisor_30 (lv' := [(4, .int (mI (x4 + 1))), (3, .int (mI v3)), (2, .int (mI x3)), (5, .int (mI v3))]) 3 rfl (by decide) rfl (fun h7 => ?_)
      refine z_goto dX8_commonDivisor_33 (tgt := 7) rfl ?_
      exact zG_lvk (hr7 x3 v3 (x4 + 1) m4 hx3 h5 h7) [2, 1, 0] rfl
theorem TL_X8_commonDivisor_7 {ad sc sv : Nat → Nat} (n : Nat) : ∀ q : Nat, ∀ (x2 : Int) (x3 : Int) (x4 : Int) (m : ZMem), R32 x2 → R32 x3 → R32 x4 → zG LX ad sc sv M_X8_commonDivisor 7 [(2, .int (mI x2)), (3, .int (mI x3)), (4, .int (mI x4))] [] m (L_X8_commonDivisor_7 n q x2 x3 x4 m) := by
  intro q
  induction q with
  | zero => intros; exact zG_none
  | succ q ih => exact T_X8_commonDivisor_7 n (L_X8_commonDivisor_7 n q) ih
set_option maxRecDepth 20000 in
theorem ct_X8_commonDivisor {ad sc sv : Nat → Nat} (n : Nat) (a0 : Int) (a1 : Int) (m : ZMem) (ha0 : R32 a0) (ha1 : R32 a1) : zCT LX ad sc sv M_X8_commonDivisor yX8_commonDivisor [.int (mI a0), .int (mI a1)] m (F_X8_commonDivisor n a0 a1 m) := by
  refine zCT_of (lv := [(0, .int (mI a0)), (1, .int (mI a1))]) (by decide) rfl (Nat.le_of_ble_eq_true rfl) rfl ?_
  unfold F_X8_commonDivisor
  refine z_iload_n dX8_commonDivisor_0 0 rfl ?_
  refine z_istore_n dX8_commonDivisor_1 (lv' := [(2, .int (mI a0)), (0, .int (mI a0)), (1, .int (mI a1))]) (by decide) rfl ?_
  refine z_iload_n dX8_commonDivisor_2 2 rfl ?_
  refine z_istore_n dX8_commonDivisor_3 (lv' := [(3, .int (mI a1)), (2, .int (mI a0)), (0, .int (mI a0)), (1, .int (mI a1))]) (by decide) rfl ?_
  refine z_iconst dX8_commonDivisor_4 ?_
  refine z_istore dX8_commonDivisor_5 (lv' := [(4, .int (mI 0)), (3, .int (mI a1)), (2, .int (mI a0)), (0, .int (mI a0)), (1, .int (mI a1))]) (by decide) rfl ?_
  exact zG_lvk (TL_X8_commonDivisor_7 n n a0 a1 0 m ha0 ha1 (by decide)) [2, 1, 0] rfl
set_option maxRecDepth 20000 in
theorem ct_X8_inLeastTerms {ad sc sv : Nat → Nat} (n : Nat) (a0 : Int) (a1 : Int) (a2 : Int) (m : ZMem) (ha0 : R32 a0) (ha1 : R32 a1) (ha2 : R32 a2) : zCT LX ad sc sv M_X8_inLeastTerms yX8_inLeastTerms [.int (mI a0), .int (mI a1), .int (mI a2)] m (F_X8_inLeastTerms n a0 a1 a2 m) := by
  refine zCT_of (lv := [(0, .int (mI a0)), (1, .int (mI a1)), (2, .int (mI a2))]) (by decide) rfl (Nat.le_of_ble_eq_true rfl) rfl ?_
  unfold F_X8_inLeastTerms
  refine z_iload_n dX8_inLeastTerms_0 2 rfl ?_
  refine z_if_ne dX8_inLeastTerms_1 ha2 (tgt := 8) rfl (fun h1 => ?_) (fun h1 => ?_)
  · refine z_iload_n dX8_inLeastTerms_4 0 rfl ?_
    refine z_goto dX8_inLeastTerms_5 (tgt := 9) rfl ?_
    refine z_iload_n dX8_inLeastTerms_9 0 rfl ?_
    refine z_iload_n dX8_inLeastTerms_10 1 rfl ?_
    refine z_callS1 dX8_inLeastTerms_11 rfl (ct_X8_commonDivisor n a0 a1 m ha0 ha1) k_515 k_516 k_15 k_517 zn_X8_commonDivisor ⟨rfl, rfl, Nat.le_of_ble_eq_true rfl, Nat.le_of_ble_eq_true rfl⟩ (Nat.le_of_ble_eq_true rfl) rfl (fun v2 m3 h4 ho5 => ?_)
    refine z_callS1 dX8_inLeastTerms_14 rfl (ct_X8_cut n a0 v2 m3 ha0 h4) k_521 k_522 k_15 k_523 zn_X8_cut ⟨rfl, rfl, Nat.le_of_ble_eq_true rfl, Nat.le_of_ble_eq_true rfl⟩ (Nat.le_of_ble_eq_true rfl) rfl (fun v6 m7 h8 ho9 => ?_)
    exact z_iret dX8_inLeastTerms_17 rfl rfl h8
  · refine z_iload_n dX8_inLeastTerms_8 1 rfl ?_
    refine z_iload_n dX8_inLeastTerms_9 0 rfl ?_
    refine z_iload_n dX8_inLeastTerms_10 1 rfl ?_
    refine z_callS1 dX8_inLeastTerms_11 rfl (ct_X8_commonDivisor n a0 a1 m ha0 ha1) k_515 k_516 k_15 k_517 zn_X8_commonDivisor ⟨rfl, rfl, Nat.le_of_ble_eq_true rfl, Nat.le_of_ble_eq_true rfl⟩ (Nat.le_of_ble_eq_true rfl) rfl (fun v10 m11 h12 ho13 => ?_)
    refine z_callS1 dX8_inLeastTerms_14 rfl (ct_X8_cut n a1 v10 m11 ha1 h12) k_521 k_522 k_15 k_523 zn_X8_cut ⟨rfl, rfl, Nat.le_of_ble_eq_true rfl, Nat.le_of_ble_eq_true rfl⟩ (Nat.le_of_ble_eq_true rfl) rfl (fun v14 m15 h16 ho17 => ?_)
    exact z_iret dX8_inLeastTerms_17 rfl rfl h16
set_option maxRecDepth 20000 in
theorem ct_X9_full {ad sc sv : Nat → Nat} (n : Nat) (t : Nat) (ht : zTab LX t) (m : ZMem) : zCT LX ad sc sv M_X9_full yX9_full [.ref (ad t)] m (F_X9_full n t m) := by
  refine zCT_of (lv := [(0, .ref (ad t))]) (by decide) rfl (Nat.le_of_ble_eq_true rfl) rfl ?_
  unfold F_X9_full
  refine z_aload_n dX9_full_0 0 rfl ?_
  refine z_getI dX9_full_1 (k := 3) zc_X9 ht.1 rfl (by decide) k_46 (fun h1 => ?_)
  refine z_aload_n dX9_full_4 0 rfl ?_
  refine z_getI dX9_full_5 (k := 1) zc_X9 ht.1 rfl (by decide) k_44 (fun h2 => ?_)
  refine z_icmp_lt dX9_full_8 h1 h2 (tgt := 15) rfl (fun h3 => ?_) (fun h3 => ?_)
  · refine z_iconst dX9_full_15 ?_
    exact z_zret dX9_full_16 rfl rfl (by decide)
  · refine z_iconst dX9_full_11 ?_
    refine z_goto dX9_full_12 (tgt := 16) rfl ?_
    exact z_zret dX9_full_16 rfl rfl (by decide)
set_option maxRecDepth 20000 in
theorem ct_X9_exchange {ad sc sv : Nat → Nat} (n : Nat) (t : Nat) (ht : zTab LX t) (a0 : Int) (a1 : Int) (a2 : Int) (m : ZMem) (ha0 : R32 a0) (ha1 : R32 a1) (ha2 : R32 a2) : zCT LX ad sc sv M_X9_exchange yX9_exchange [.ref (ad t), .int (mI a0), .int (mI a1), .int (mI a2)] m (F_X9_exchange n t a0 a1 a2 m) := by
  refine zCT_of (lv := [(0, .ref (ad t)), (1, .int (mI a0)), (2, .int (mI a1)), (3, .int (mI a2))]) (by decide) rfl (Nat.le_of_ble_eq_true rfl) rfl ?_
  unfold F_X9_exchange
  refine z_aload_n dX9_exchange_0 0 rfl ?_
  refine z_iload_n dX9_exchange_1 1 rfl ?_
  refine z_iload_n dX9_exchange_2 2 rfl ?_
  refine z_callV1 dX9_exchange_3 rfl (ct_X9_at n t ht a0 a1 m ha0 ha1) zc_X9 ht.1 k_485 k_264 k_265 k_3 k_266 zn_X9_at ⟨rfl, rfl, Nat.le_of_ble_eq_true rfl, Nat.le_of_ble_eq_true rfl⟩ (Nat.le_of_ble_eq_true rfl) rfl (fun v1 m2 h3 ho4 => ?_)
  refine z_istore dX9_exchange_6 (lv' := [(4, .int (mI v1)), (0, .ref (ad t)), (1, .int (mI a0)), (2, .int (mI a1)), (3, .int (mI a2))]) (by decide) rfl ?_
  refine z_aload_n dX9_exchange_8 1 rfl ?_
  refine z_iload_n dX9_exchange_9 2 rfl ?_
  refine z_iload_n dX9_exchange_10 3 rfl ?_
  refine z_iload_n dX9_exchange_11 4 rfl ?_
  refine z_callV0 dX9_exchange_12 rfl (ct_X9_put n t ht a0 a1 a2 m2 ha0 ha1 ha2) zc_X9 ht.1 k_486 k_268 k_269 k_3 k_270 zn_X9_put ⟨rfl, rfl, Nat.le_of_ble_eq_true rfl, Nat.le_of_ble_eq_true rfl⟩ (Nat.le_of_ble_eq_true rfl) rfl (fun v5 m6 ho8 => ?_)
  refine z_iload dX9_exchange_15 0 rfl ?_
  exact z_iret dX9_exchange_17 rfl rfl h3
set_option maxRecDepth 20000 in
theorem T_X9_holds_2 {ad sc sv : Nat → Nat} (n : Nat) (t : Nat) (ht : zTab LX t) (r2 : Int → Int → ZMem → ZR) (hr2 : ∀ (x1 : Int) (x2 : Int) (m : ZMem), R32 x1 → R32 x2 → zG LX ad sc sv M_X9_holds 2 [(0, .ref (ad t)), (1, .int (mI x1)), (2, .int (mI x2))] [] m (r2 x1 x2 m)) : ∀ (x1 : Int) (x2 : Int) (m : ZMem), R32 x1 → R32 x2 → zG LX ad sc sv M_X9_holds 2 [(0, .ref (ad t)), (1, .int (mI x1)), (2, .int (mI x2))] [] m (B_X9_holds_2 n t r2 x1 x2 m) := by
  intro x1 x2 m hx1 hx2
  unfold B_X9_holds_2
  refine z_iload_n dX9_holds_2 2 rfl ?_
  refine z_aload_n dX9_holds_3 0 rfl ?_
  refine z_getI dX9_holds_4 (k := 3) zc_X9 ht.1 rfl (by decide) k_46 (fun h1 => ?_)
  refine z_icmp_ge dX9_holds_7 hx2 h1 (tgt := 28) rfl (fun h2 => ?_) (fun h2 => ?_)
  · refine z_iconst dX9_holds_28 ?_
    exact z_zret dX9_holds_29 rfl rfl (by decide)
  · refine z_aload_n dX9_holds_10 0 rfl ?_
    refine z_iload_n dX9_holds_11 2 rfl ?_
    refine z_iconst dX9_holds_12 ?_
    refine z_callV1 dX9_holds_13 rfl (ct_X9_at n t ht x2 0 m hx2 (by decide)) zc_X9 ht.1 k_485 k_264 k_265 k_3 k_266 zn_X9_at ⟨rfl, rfl, Nat.le_of_ble_eq_true rfl, Nat.le_of_ble_eq_true rfl⟩ (Nat.le_of_ble_eq_true rfl) rfl (fun v3 m4 h5 ho6 => ?_)
    refine z_iload_n dX9_holds_16 1 rfl ?_
    refine z_icmp_ne dX9_holds_17 h5 hx1 (tgt := 22) rfl (fun h7 => ?_) (fun h7 => ?_)
    · refine z_iconst dX9_holds_20 ?_
      exact z_zret dX9_holds_21 rfl rfl (by decide)
    · refine z_iinc dX9_holds_22 (lv' := [(2, .int (mI (x2 + 1))), (0, .ref (ad t)), (1, .int (mI x1))]) 2 rfl (by decide) rfl (fun h8 => ?_)
      refine z_goto dX9_holds_25 (tgt := 2) rfl ?_
      exact zG_lvk (hr2 x1 (x2 + 1) m4 hx1 h8) [1, 2, 0] rfl
theorem TL_X9_holds_2 {ad sc sv : Nat → Nat} (n : Nat) (t : Nat) (ht : zTab LX t) : ∀ q : Nat, ∀ (x1 : Int) (x2 : Int) (m : ZMem), R32 x1 → R32 x2 → zG LX ad sc sv M_X9_holds 2 [(0, .ref (ad t)), (1, .int (mI x1)), (2, .int (mI x2))] [] m (L_X9_holds_2 n t q x1 x2 m) := by
  intro q
  induction q with
  | zero => intros; exact zG_none
  | succ q ih => exact T_X9_holds_2 n t ht (L_X9_holds_2 n t q) ih
set_option maxRecDepth 20000 in
theorem ct_X9_holds {ad sc sv : Nat → Nat} (n : Nat) (t : Nat) (ht : zTab LX t) (a0 : Int) (m : ZMem) (ha0 : R32 a0) : zCT LX ad sc sv M_X9_holds yX9_holds [.ref (ad t), .int (mI a0)] m (F_X9_holds n t a0 m) := by
  refine zCT_of (lv := [(0, .ref (ad t)), (1, .int (mI a0))]) (by decide) rfl (Nat.le_of_ble_eq_true rfl) rfl ?_
  unfold F_X9_holds
  refine z_iconst dX9_holds_0 ?_
  refine z_istore_n dX9_holds_1 (lv' := [(2, .int (mI 0)), (0, .ref (ad t)), (1, .int (mI a0))]) (by decide) rfl ?_
  exact zG_lvk (TL_X9_holds_2 n t ht n a0 0 m ha0 (by decide)) [1, 2, 0] rfl
set_option maxRecDepth 20000 in
theorem ct_X9_dropLast {ad sc sv : Nat → Nat} (n : Nat) (t : Nat) (ht : zTab LX t) (m : ZMem) : zCT LX ad sc sv M_X9_dropLast yX9_dropLast [.ref (ad t)] m (F_X9_dropLast n t m) := by
  refine zCT_of (lv := [(0, .ref (ad t))]) (by decide) rfl (Nat.le_of_ble_eq_true rfl) rfl ?_
  unfold F_X9_dropLast
  refine z_aload_n dX9_dropLast_0 0 rfl ?_
  refine z_aload_n dX9_dropLast_1 0 rfl ?_
  refine z_getI dX9_dropLast_2 (k := 3) zc_X9 ht.1 rfl (by decide) k_46 (fun h1 => ?_)
  refine z_iconst dX9_dropLast_5 ?_
  refine z_isub dX9_dropLast_6 (fun h2 => ?_)
  refine z_iconst dX9_dropLast_7 ?_
  refine z_mmax dX9_dropLast_8 h2 (by decide) k_40 k_41 k_4 k_42 (Nat.le_of_ble_eq_true rfl) (Nat.le_of_ble_eq_true rfl) (fun h3 => ?_)
  refine z_putI dX9_dropLast_11 (k := 3) zc_X9 ht.1 rfl (by decide) rfl rfl h3 k_46 ?_
  exact z_vret dX9_dropLast_14 rfl rfl
set_option maxRecDepth 20000 in
theorem T_X9_dropFirst_12 {ad sc sv : Nat → Nat} (n : Nat) (t : Nat) (ht : zTab LX t) (r2 : Int → ZMem → ZR) (r12 : Int → Int → ZMem → ZR) (hr2 : ∀ (x1 : Int) (m : ZMem), R32 x1 → zG LX ad sc sv M_X9_dropFirst 2 [(0, .ref (ad t)), (1, .int (mI x1))] [] m (r2 x1 m)) (hr12 : ∀ (x1 : Int) (x2 : Int) (m : ZMem), R32 x1 → R32 x2 → zG LX ad sc sv M_X9_dropFirst 12 [(0, .ref (ad t)), (1, .int (mI x1)), (2, .int (mI x2))] [] m (r12 x1 x2 m)) : ∀ (x1 : Int) (x2 : Int) (m : ZMem), R32 x1 → R32 x2 → zG LX ad sc sv M_X9_dropFirst 12 [(0, .ref (ad t)), (1, .int (mI x1)), (2, .int (mI x2))] [] m (B_X9_dropFirst_12 n t r2 r12 x1 x2 m) := by
  intro x1 x2 m hx1 hx2
  unfold B_X9_dropFirst_12
  refine z_iload_n dX9_dropFirst_12 2 rfl ?_
  refine z_aload_n dX9_dropFirst_13 0 rfl ?_
  refine z_getI dX9_dropFirst_14 (k := 2) zc_X9 ht.1 rfl (by decide) k_45 (fun h7 => ?_)
  refine z_icmp_ge dX9_dropFirst_17 hx2 h7 (tgt := 40) rfl (fun h8 => ?_) (fun h8 => ?_)
  · refine z_iinc dX9_dropFirst_40 (lv' := [(1, .int (mI (x1 + 1))), (0, .ref (ad t)), (2, .int (mI x2))]) 1 rfl (by decide) rfl (fun h9 => ?_)
    refine z_goto dX9_dropFirst_43 (tgt := 2) rfl ?_
    exact zG_lvk (hr2 (x1 + 1) m h9) [1, 0] rfl
  · refine z_aload_n dX9_dropFirst_20 0 rfl ?_
    refine z_iload_n dX9_dropFirst_21 1 rfl ?_
    refine z_iconst dX9_dropFirst_22 ?_
    refine z_isub dX9_dropFirst_23 (fun h10 => ?_)
    refine z_iload_n dX9_dropFirst_24 2 rfl ?_
    refine z_aload_n dX9_dropFirst_25 0 rfl ?_
    refine z_iload_n dX9_dropFirst_26 1 rfl ?_
    refine z_iload_n dX9_dropFirst_27 2 rfl ?_
    refine z_callV1 dX9_dropFirst_28 rfl (ct_X9_at n t ht x1 x2 m hx1 hx2) zc_X9 ht.1 k_485 k_264 k_265 k_3 k_266 zn_X9_at ⟨rfl, rfl, Nat.le_of_ble_eq_true rfl, Nat.le_of_ble_eq_true rfl⟩ (Nat.le_of_ble_eq_true rfl) rfl (fun v11 m12 h13 ho14 => ?_)
    refine z_callV0 dX9_dropFirst_31 rfl (ct_X9_put n t ht (x1 - 1) x2 v11 m12 h10 hx2 h13) zc_X9 ht.1 k_486 k_268 k_269 k_3 k_270 zn_X9_put ⟨rfl, rfl, Nat.le_of_ble_eq_true rfl, Nat.le_of_ble_eq_true rfl⟩ (Nat.le_of_ble_eq_true rfl) rfl (fun v15 m16 ho18 => ?_)
    refine z_iinc dX9_dropFirst_34 (lv' := [(2, .int (mI (x2 + 1))), (0, .ref (ad t)), (1, .int (mI x1))]) 2 rfl (by decide) rfl (fun h19 => ?_)
    refine z_goto dX9_dropFirst_37 (tgt := 12) rfl ?_
    exact zG_lvk (hr12 x1 (x2 + 1) m16 hx1 h19) [1, 2, 0] rfl
theorem TL_X9_dropFirst_12 {ad sc sv : Nat → Nat} (n : Nat) (t : Nat) (ht : zTab LX t) (r2 : Int → ZMem → ZR) (hr2 : ∀ (x1 : Int) (m : ZMem), R32 x1 → zG LX ad sc sv M_X9_dropFirst 2 [(0, .ref (ad t)), (1, .int (mI x1))] [] m (r2 x1 m)) : ∀ q : Nat, ∀ (x1 : Int) (x2 : Int) (m : ZMem), R32 x1 → R32 x2 → zG LX ad sc sv M_X9_dropFirst 12 [(0, .ref (ad t)), (1, .int (mI x1)), (2, .int (mI x2))] [] m (L_X9_dropFirst_12 n t r2 q x1 x2 m) := by
  intro q
  induction q with
  | zero => intros; exact zG_none
  | succ q ih => exact T_X9_dropFirst_12 n t ht r2 (L_X9_dropFirst_12 n t r2 q) hr2 ih
set_option maxRecDepth 20000 in
theorem T_X9_dropFirst_2 {ad sc sv : Nat → Nat} (n : Nat) (t : Nat) (ht : zTab LX t) (r2 : Int → ZMem → ZR) (hr2 : ∀ (x1 : Int) (m : ZMem), R32 x1 → zG LX ad sc sv M_X9_dropFirst 2 [(0, .ref (ad t)), (1, .int (mI x1))] [] m (r2 x1 m)) : ∀ (x1 : Int) (m : ZMem), R32 x1 → zG LX ad sc sv M_X9_dropFirst 2 [(0, .ref (ad t)), (1, .int (mI x1))] [] m (B_X9_dropFirst_2 n t r2 x1 m) := by
  intro x1 m hx1
  unfold B_X9_dropFirst_2
  refine z_iload_n dX9_dropFirst_2 1 rfl ?_
  refine z_aload_n dX9_dropFirst_3 0 rfl ?_
  refine z_getI dX9_dropFirst_4 (k := 3) zc_X9 ht.1 rfl (by decide) k_46 (fun h1 => ?_)
  refine z_icmp_ge dX9_dropFirst_7 hx1 h1 (tgt := 46) rfl (fun h2 => ?_) (fun h2 => ?_)
  · refine z_aload_n dX9_dropFirst_46 0 rfl ?_
    refine z_callV0 dX9_dropFirst_47 rfl (ct_X9_dropLast n t ht m) zc_X9 ht.1 k_487 k_488 k_489 k_3 k_490 zn_X9_dropLast ⟨rfl, rfl, Nat.le_of_ble_eq_true rfl, Nat.le_of_ble_eq_true rfl⟩ (Nat.le_of_ble_eq_true rfl) rfl (fun v3 m4 ho6 => ?_)
    exact z_vret dX9_dropFirst_50 rfl rfl
  · refine z_iconst dX9_dropFirst_10 ?_
    refine z_istore_n dX9_dropFirst_11 (lv' := [(2, .int (mI 0)), (0, .ref (ad t)), (1, .int (mI x1))]) (by decide) rfl ?_
    exact zG_lvk (TL_X9_dropFirst_12 n t ht r2 hr2 n x1 0 m hx1 (by decide)) [1, 2, 0] rfl
theorem TL_X9_dropFirst_2 {ad sc sv : Nat → Nat} (n : Nat) (t : Nat) (ht : zTab LX t) : ∀ q : Nat, ∀ (x1 : Int) (m : ZMem), R32 x1 → zG LX ad sc sv M_X9_dropFirst 2 [(0, .ref (ad t)), (1, .int (mI x1))] [] m (L_X9_dropFirst_2 n t q x1 m) := by
  intro q
  induction q with
  | zero => intros; exact zG_none
  | succ q ih => exact T_X9_dropFirst_2 n t ht (L_X9_dropFirst_2 n t q) ih
set_option maxRecDepth 20000 in
theorem ct_X9_dropFirst {ad sc sv : Nat → Nat} (n : Nat) (t : Nat) (ht : zTab LX t) (m : ZMem) : zCT LX ad sc sv M_X9_dropFirst yX9_dropFirst [.ref (ad t)] m (F_X9_dropFirst n t m) := by
  refine zCT_of (lv := [(0, .ref (ad t))]) (by decide) rfl (Nat.le_of_ble_eq_true rfl) rfl ?_
  unfold F_X9_dropFirst
  refine z_iconst dX9_dropFirst_0 ?_
  refine z_istore_n dX9_dropFirst_1 (lv' := [(1, .int (mI 1)), (0, .ref (ad t))]) (by decide) rfl ?_
  exact zG_lvk (TL_X9_dropFirst_2 n t ht n 1 m (by decide)) [1, 0] rfl
set_option maxRecDepth 20000 in
theorem ct_X10_area {ad sc sv : Nat → Nat} (n : Nat) (a0 : Int) (m : ZMem) (ha0 : R32 a0) : zCT LX ad sc sv M_X10_area yX10_area [.ref (ad 1), .int (mI a0)] m (F_X10_area n a0 m) := by
  refine zCT_of (lv := [(0, .ref (ad 1)), (1, .int (mI a0))]) (by decide) rfl (Nat.le_of_ble_eq_true rfl) rfl ?_
  unfold F_X10_area
  refine z_aload_n dX10_area_0 0 rfl ?_
  refine z_getR dX10_area_1 (k := 5) (j := 4) zc_X3 lx_1 rfl (by decide) k_87 ?_
  refine z_iload_n dX10_area_4 1 rfl ?_
  refine z_iconst dX10_area_5 ?_
  refine z_callV1 dX10_area_6 rfl (ct_X9_at n 4 zt_4 a0 1 m ha0 (by decide)) zc_X9 lx_4 k_581 k_264 k_265 k_3 k_266 zn_X9_at ⟨rfl, rfl, Nat.le_of_ble_eq_true rfl, Nat.le_of_ble_eq_true rfl⟩ (Nat.le_of_ble_eq_true rfl) rfl (fun v1 m2 h3 ho4 => ?_)
  refine z_istore_n dX10_area_9 (lv' := [(2, .int (mI v1)), (0, .ref (ad 1)), (1, .int (mI a0))]) (by decide) rfl ?_
  refine z_aload_n dX10_area_10 1 rfl ?_
  refine z_getR dX10_area_11 (k := 5) (j := 4) zc_X3 lx_1 rfl (by decide) k_87 ?_
  refine z_iload_n dX10_area_14 2 rfl ?_
  refine z_iconst dX10_area_15 ?_
  refine z_callV1 dX10_area_16 rfl (ct_X9_at n 4 zt_4 a0 0 m2 ha0 (by decide)) zc_X9 lx_4 k_581 k_264 k_265 k_3 k_266 zn_X9_at ⟨rfl, rfl, Nat.le_of_ble_eq_true rfl, Nat.le_of_ble_eq_true rfl⟩ (Nat.le_of_ble_eq_true rfl) rfl (fun v5 m6 h7 ho8 => ?_)
  refine z_iconst dX10_area_19 ?_
  refine z_icmp_ne dX10_area_20 h7 (by decide) (tgt := 28) rfl (fun h9 => ?_) (fun h9 => ?_)
  · refine z_bipush dX10_area_23 (x := 14) (by decide +kernel) ?_
    refine z_goto dX10_area_25 (tgt := 30) rfl ?_
    refine z_iload_n dX10_area_30 0 rfl ?_
    refine z_imul dX10_area_31 (fun h10 => ?_)
    refine z_iload_n dX10_area_32 0 rfl ?_
    refine z_imul dX10_area_33 (fun h11 => ?_)
    exact z_iret dX10_area_34 rfl rfl h11
  · refine z_bipush dX10_area_28 (x := 11) (by decide +kernel) ?_
    refine z_iload_n dX10_area_30 0 rfl ?_
    refine z_imul dX10_area_31 (fun h12 => ?_)
    refine z_iload_n dX10_area_32 0 rfl ?_
    refine z_imul dX10_area_33 (fun h13 => ?_)
    exact z_iret dX10_area_34 rfl rfl h13
set_option maxRecDepth 20000 in
theorem ct_X10_minutesIn {ad sc sv : Nat → Nat} (n : Nat) (a0 : Int) (m : ZMem) (ha0 : R32 a0) : zCT LX ad sc sv M_X10_minutesIn yX10_minutesIn [.ref (ad 1), .int (mI a0)] m (F_X10_minutesIn n a0 m) := by
  refine zCT_of (lv := [(0, .ref (ad 1)), (1, .int (mI a0))]) (by decide) rfl (Nat.le_of_ble_eq_true rfl) rfl ?_
  unfold F_X10_minutesIn
  refine z_aload_n dX10_minutesIn_0 0 rfl ?_
  refine z_getI dX10_minutesIn_1 (k := 3) zc_X3 lx_1 rfl (by decide) k_78 (fun h1 => ?_)
  refine z_aload_n dX10_minutesIn_4 0 rfl ?_
  refine z_getI dX10_minutesIn_5 (k := 1) zc_X3 lx_1 rfl (by decide) k_72 (fun h2 => ?_)
  refine z_imul dX10_minutesIn_8 (fun h3 => ?_)
  refine z_aload_n dX10_minutesIn_9 0 rfl ?_
  refine z_iconst dX10_minutesIn_10 ?_
  refine z_callS1 dX10_minutesIn_11 rfl (ct_X10_area n 0 m (by decide)) k_585 k_579 k_17 k_580 zn_X10_area ⟨rfl, rfl, Nat.le_of_ble_eq_true rfl, Nat.le_of_ble_eq_true rfl⟩ (Nat.le_of_ble_eq_true rfl) rfl (fun v4 m5 h6 ho7 => ?_)
  refine z_imul dX10_minutesIn_14 (fun h8 => ?_)
  refine z_istore_n dX10_minutesIn_15 (lv' := [(2, .int (mI (((m 1 3) * (m 1 1)) * v4))), (0, .ref (ad 1)), (1, .int (mI a0))]) (by decide) rfl ?_
  refine z_iload_n dX10_minutesIn_16 0 rfl ?_
  refine z_aload_n dX10_minutesIn_17 1 rfl ?_
  refine z_getI dX10_minutesIn_18 (k := 0) zc_X3 lx_1 rfl (by decide) k_65 (fun h9 => ?_)
  refine z_aload_n dX10_minutesIn_21 1 rfl ?_
  refine z_iload_n dX10_minutesIn_22 2 rfl ?_
  refine z_callS1 dX10_minutesIn_23 rfl (ct_X10_area n a0 m5 ha0) k_585 k_579 k_17 k_580 zn_X10_area ⟨rfl, rfl, Nat.le_of_ble_eq_true rfl, Nat.le_of_ble_eq_true rfl⟩ (Nat.le_of_ble_eq_true rfl) rfl (fun v10 m11 h12 ho13 => ?_)
  refine z_imul dX10_minutesIn_26 (fun h14 => ?_)
  refine z_callS1 dX10_minutesIn_27 rfl (ct_X8_nearest n (((m 1 3) * (m 1 1)) * v4) ((m5 1 0) * v10) m11 h8 h14) k_586 k_459 k_15 k_460 zn_X8_nearest ⟨rfl, rfl, Nat.le_of_ble_eq_true rfl, Nat.le_of_ble_eq_true rfl⟩ (Nat.le_of_ble_eq_true rfl) rfl (fun v15 m16 h17 ho18 => ?_)
  refine z_istore_n dX10_minutesIn_30 (lv' := [(3, .int (mI v15)), (2, .int (mI (((m 1 3) * (m 1 1)) * v4))), (0, .ref (ad 1)), (1, .int (mI a0))]) (by decide) rfl ?_
  refine z_iload_n dX10_minutesIn_31 0 rfl ?_
  refine z_aload_n dX10_minutesIn_32 2 rfl ?_
  refine z_getI dX10_minutesIn_33 (k := 3) zc_X3 lx_1 rfl (by decide) k_78 (fun h19 => ?_)
  refine z_iconst dX10_minutesIn_36 ?_
  refine z_idiv dX10_minutesIn_37 h19 (by decide) (fun h20 => ?_)
  refine z_iconst dX10_minutesIn_38 ?_
  refine z_mmax dX10_minutesIn_39 h20 (by decide) k_587 k_41 k_4 k_42 (Nat.le_of_ble_eq_true rfl) (Nat.le_of_ble_eq_true rfl) (fun h21 => ?_)
  refine z_mmax dX10_minutesIn_42 h17 h21 k_587 k_41 k_4 k_42 (Nat.le_of_ble_eq_true rfl) (Nat.le_of_ble_eq_true rfl) (fun h22 => ?_)
  refine z_sipush dX10_minutesIn_45 (x := 999) (by decide +kernel) ?_
  refine z_mmin dX10_minutesIn_48 h22 (by decide) k_588 k_62 k_4 k_63 (Nat.le_of_ble_eq_true rfl) (Nat.le_of_ble_eq_true rfl) (fun h23 => ?_)
  exact z_iret dX10_minutesIn_51 rfl rfl h23
set_option maxRecDepth 20000 in
theorem ct_X10_depthApart {ad sc sv : Nat → Nat} (n : Nat) (a0 : Int) (m : ZMem) (ha0 : R32 a0) : zCT LX ad sc sv M_X10_depthApart yX10_depthApart [.ref (ad 1), .int (mI a0)] m (F_X10_depthApart n a0 m) := by
  refine zCT_of (lv := [(0, .ref (ad 1)), (1, .int (mI a0))]) (by decide) rfl (Nat.le_of_ble_eq_true rfl) rfl ?_
  unfold F_X10_depthApart
  refine z_aload_n dX10_depthApart_0 0 rfl ?_
  refine z_getI dX10_depthApart_1 (k := 1) zc_X3 lx_1 rfl (by decide) k_72 (fun h1 => ?_)
  refine z_aload_n dX10_depthApart_4 0 rfl ?_
  refine z_iconst dX10_depthApart_5 ?_
  refine z_callS1 dX10_depthApart_6 rfl (ct_X10_area n 0 m (by decide)) k_585 k_579 k_17 k_580 zn_X10_area ⟨rfl, rfl, Nat.le_of_ble_eq_true rfl, Nat.le_of_ble_eq_true rfl⟩ (Nat.le_of_ble_eq_true rfl) rfl (fun v2 m3 h4 ho5 => ?_)
  refine z_imul dX10_depthApart_9 (fun h6 => ?_)
  refine z_aload_n dX10_depthApart_10 0 rfl ?_
  refine z_getI dX10_depthApart_11 (k := 0) zc_X3 lx_1 rfl (by decide) k_65 (fun h7 => ?_)
  refine z_aload_n dX10_depthApart_14 0 rfl ?_
  refine z_iload_n dX10_depthApart_15 1 rfl ?_
  refine z_callS1 dX10_depthApart_16 rfl (ct_X10_area n a0 m3 ha0) k_585 k_579 k_17 k_580 zn_X10_area ⟨rfl, rfl, Nat.le_of_ble_eq_true rfl, Nat.le_of_ble_eq_true rfl⟩ (Nat.le_of_ble_eq_true rfl) rfl (fun v8 m9 h10 ho11 => ?_)
  refine z_imul dX10_depthApart_19 (fun h12 => ?_)
  refine z_isub dX10_depthApart_20 (fun h13 => ?_)
  refine z_mabs dX10_depthApart_21 h13 k_607 k_466 k_4 k_467 (Nat.le_of_ble_eq_true rfl) (Nat.le_of_ble_eq_true rfl) (fun h14 => ?_)
  refine z_i2l dX10_depthApart_24 h14 (fun h15 => ?_)
  exact z_lret dX10_depthApart_25 rfl rfl h15
set_option maxRecDepth 20000 in
theorem ct_X10_isNearer {ad sc sv : Nat → Nat} (n : Nat) (a0 : Int) (a1 : Int) (m : ZMem) (ha0 : R32 a0) (ha1 : R32 a1) : zCT LX ad sc sv M_X10_isNearer yX10_isNearer [.ref (ad 1), .int (mI a0), .int (mI a1)] m (F_X10_isNearer n a0 a1 m) := by
  refine zCT_of (lv := [(0, .ref (ad 1)), (1, .int (mI a0)), (2, .int (mI a1))]) (by decide) rfl (Nat.le_of_ble_eq_true rfl) rfl ?_
  unfold F_X10_isNearer
  refine z_aload_n dX10_isNearer_0 0 rfl ?_
  refine z_iload_n dX10_isNearer_1 1 rfl ?_
  refine z_callS2 dX10_isNearer_2 rfl (ct_X10_depthApart n a0 m ha0) k_604 k_605 k_17 k_606 zn_X10_depthApart ⟨rfl, rfl, Nat.le_of_ble_eq_true rfl, Nat.le_of_ble_eq_true rfl⟩ (Nat.le_of_ble_eq_true rfl) rfl (fun v1 m2 h3 ho4 => ?_)
  refine z_aload_n dX10_isNearer_5 0 rfl ?_
  refine z_iload_n dX10_isNearer_6 2 rfl ?_
  refine z_callS1 dX10_isNearer_7 rfl (ct_X10_area n a1 m2 ha1) k_585 k_579 k_17 k_580 zn_X10_area ⟨rfl, rfl, Nat.le_of_ble_eq_true rfl, Nat.le_of_ble_eq_true rfl⟩ (Nat.le_of_ble_eq_true rfl) rfl (fun v5 m6 h7 ho8 => ?_)
  refine z_i2l dX10_isNearer_10 h7 (fun h9 => ?_)
  refine z_lmul dX10_isNearer_11 (fun h10 => ?_)
  refine z_aload_n dX10_isNearer_12 0 rfl ?_
  refine z_iload_n dX10_isNearer_13 2 rfl ?_
  refine z_callS2 dX10_isNearer_14 rfl (ct_X10_depthApart n a1 m6 ha1) k_604 k_605 k_17 k_606 zn_X10_depthApart ⟨rfl, rfl, Nat.le_of_ble_eq_true rfl, Nat.le_of_ble_eq_true rfl⟩ (Nat.le_of_ble_eq_true rfl) rfl (fun v11 m12 h13 ho14 => ?_)
  refine z_aload_n dX10_isNearer_17 0 rfl ?_
  refine z_iload_n dX10_isNearer_18 1 rfl ?_
  refine z_callS1 dX10_isNearer_19 rfl (ct_X10_area n a0 m12 ha0) k_585 k_579 k_17 k_580 zn_X10_area ⟨rfl, rfl, Nat.le_of_ble_eq_true rfl, Nat.le_of_ble_eq_true rfl⟩ (Nat.le_of_ble_eq_true rfl) rfl (fun v15 m16 h17 ho18 => ?_)
  refine z_i2l dX10_isNearer_22 h17 (fun h19 => ?_)
  refine z_lmul dX10_isNearer_23 (fun h20 => ?_)
  refine z_lcmp dX10_isNearer_24 h10 h20 (fun h21 => ?_)
  refine z_if_ge dX10_isNearer_25 h21 (tgt := 32) rfl (fun h22 => ?_) (fun h22 => ?_)
  · refine z_iconst dX10_isNearer_32 ?_
    exact z_zret dX10_isNearer_33 rfl rfl (by decide)
  · refine z_iconst dX10_isNearer_28 ?_
    refine z_goto dX10_isNearer_29 (tgt := 33) rfl ?_
    exact z_zret dX10_isNearer_33 rfl rfl (by decide)
set_option maxRecDepth 20000 in
theorem T_X10_nearestTin_5 {ad sc sv : Nat → Nat} (n : Nat) (r5 : Int → Int → ZMem → ZR) (hr5 : ∀ (x1 : Int) (x2 : Int) (m : ZMem), R32 x1 → R32 x2 → zG LX ad sc sv M_X10_nearestTin 5 [(0, .ref (ad 1)), (1, .int (mI x1)), (2, .int (mI x2))] [] m (r5 x1 x2 m)) : ∀ (x1 : Int) (x2 : Int) (m : ZMem), R32 x1 → R32 x2 → zG LX ad sc sv M_X10_nearestTin 5 [(0, .ref (ad 1)), (1, .int (mI x1)), (2, .int (mI x2))] [] m (B_X10_nearestTin_5 n r5 x1 x2 m) := by
  intro x1 x2 m hx1 hx2
  unfold B_X10_nearestTin_5
  refine z_iload_n dX10_nearestTin_5 2 rfl ?_
  refine z_aload_n dX10_nearestTin_6 0 rfl ?_
  refine z_getR dX10_nearestTin_7 (k := 5) (j := 4) zc_X3 lx_1 rfl (by decide) k_87 ?_
  refine z_callV1 dX10_nearestTin_10 rfl (ct_X9_size n 4 zt_4 m) zc_X9 lx_4 k_600 k_276 k_277 k_3 k_278 zn_X9_size ⟨rfl, rfl, Nat.le_of_ble_eq_true rfl, Nat.le_of_ble_eq_true rfl⟩ (Nat.le_of_ble_eq_true rfl) rfl (fun v1 m2 h3 ho4 => ?_)
  refine z_icmp_ge dX10_nearestTin_13 hx2 h3 (tgt := 39) rfl (fun h5 => ?_) (fun h5 => ?_)
  · refine z_iload_n dX10_nearestTin_39 1 rfl ?_
    exact z_iret dX10_nearestTin_40 rfl rfl hx1
  · refine z_iload_n dX10_nearestTin_16 1 rfl ?_
    refine z_bipush dX10_nearestTin_17 (x := (-9)) (by decide +kernel) ?_
    refine z_icmp_eq dX10_nearestTin_19 hx1 (by decide) (tgt := 31) rfl (fun h6 => ?_) (fun h6 => ?_)
    · refine z_iload_n dX10_nearestTin_31 2 rfl ?_
      refine z_istore_n dX10_nearestTin_32 (lv' := [(1, .int (mI x2)), (0, .ref (ad 1)), (2, .int (mI x2))]) (by decide) rfl ?_
      refine z_iinc dX10_nearestTin_33 (lv' := [(2, .int (mI (x2 + 1))), (1, .int (mI x2)), (0, .ref (ad 1))]) 2 rfl (by decide) rfl (fun h7 => ?_)
      refine z_goto dX10_nearestTin_36 (tgt := 5) rfl ?_
      exact zG_lvk (hr5 x2 (x2 + 1) m2 hx2 h7) [2, 1, 0] rfl
    · refine z_aload_n dX10_nearestTin_22 0 rfl ?_
      refine z_iload_n dX10_nearestTin_23 2 rfl ?_
      refine z_iload_n dX10_nearestTin_24 1 rfl ?_
      refine z_callS4 dX10_nearestTin_25 rfl (ct_X10_isNearer n x2 x1 m2 hx2 hx1) k_601 k_602 k_17 k_603 zn_X10_isNearer ⟨rfl, rfl, Nat.le_of_ble_eq_true rfl, Nat.le_of_ble_eq_true rfl⟩ (Nat.le_of_ble_eq_true rfl) rfl (fun v8 m9 h10 ho11 => ?_)
      refine z_if_eq dX10_nearestTin_28 (zb01 h10) (tgt := 33) rfl (fun h12 => ?_) (fun h12 => ?_)
      · refine z_iinc dX10_nearestTin_33 (lv' := [(2, .int (mI (x2 + 1))), (0, .ref (ad 1)), (1, .int (mI x1))]) 2 rfl (by decide) rfl (fun h13 => ?_)
        refine z_goto dX10_nearestTin_36 (tgt := 5) rfl ?_
        exact zG_lvk (hr5 x1 (x2 + 1) m9 hx1 h13) [1, 2, 0] rfl
      · refine z_iload_n dX10_nearestTin_31 2 rfl ?_
        refine z_istore_n dX10_nearestTin_32 (lv' := [(1, .int (mI x2)), (0, .ref (ad 1)), (2, .int (mI x2))]) (by decide) rfl ?_
        refine z_iinc dX10_nearestTin_33 (lv' := [(2, .int (mI (x2 + 1))), (1, .int (mI x2)), (0, .ref (ad 1))]) 2 rfl (by decide) rfl (fun h14 => ?_)
        refine z_goto dX10_nearestTin_36 (tgt := 5) rfl ?_
        exact zG_lvk (hr5 x2 (x2 + 1) m9 hx2 h14) [2, 1, 0] rfl
theorem TL_X10_nearestTin_5 {ad sc sv : Nat → Nat} (n : Nat) : ∀ q : Nat, ∀ (x1 : Int) (x2 : Int) (m : ZMem), R32 x1 → R32 x2 → zG LX ad sc sv M_X10_nearestTin 5 [(0, .ref (ad 1)), (1, .int (mI x1)), (2, .int (mI x2))] [] m (L_X10_nearestTin_5 n q x1 x2 m) := by
  intro q
  induction q with
  | zero => intros; exact zG_none
  | succ q ih => exact T_X10_nearestTin_5 n (L_X10_nearestTin_5 n q) ih
set_option maxRecDepth 20000 in
theorem ct_X10_nearestTin {ad sc sv : Nat → Nat} (n : Nat) (m : ZMem) : zCT LX ad sc sv M_X10_nearestTin yX10_nearestTin [.ref (ad 1)] m (F_X10_nearestTin n m) := by
  refine zCT_of (lv := [(0, .ref (ad 1))]) (by decide) rfl (Nat.le_of_ble_eq_true rfl) rfl ?_
  unfold F_X10_nearestTin
  refine z_bipush dX10_nearestTin_0 (x := (-9)) (by decide +kernel) ?_
  refine z_istore_n dX10_nearestTin_2 (lv' := [(1, .int (mI (-9))), (0, .ref (ad 1))]) (by decide) rfl ?_
  refine z_iconst dX10_nearestTin_3 ?_
  refine z_istore_n dX10_nearestTin_4 (lv' := [(2, .int (mI 0)), (1, .int (mI (-9))), (0, .ref (ad 1))]) (by decide) rfl ?_
  exact zG_lvk (TL_X10_nearestTin_5 n n (-9) 0 m (by decide) (by decide)) [2, 1, 0] rfl
set_option maxRecDepth 20000 in
theorem T_X10_nearestPair_24 {ad sc sv : Nat → Nat} (n : Nat) (r8 : Int → Int → Int → ZMem → ZR) (r24 : Int → Int → Int → Int → ZMem → ZR) (hr8 : ∀ (x1 : Int) (x2 : Int) (x3 : Int) (m : ZMem), R32 x1 → R32 x2 → R32 x3 → zG LX ad sc sv M_X10_nearestPair 8 [(0, .ref (ad 1)), (1, .int (mI x1)), (2, .int (mI x2)), (3, .int (mI x3))] [] m (r8 x1 x2 x3 m)) (hr24 : ∀ (x1 : Int) (x2 : Int) (x3 : Int) (x4 : Int) (m : ZMem), R32 x1 → R32 x2 → R32 x3 → R32 x4 → zG LX ad sc sv M_X10_nearestPair 24 [(0, .ref (ad 1)), (1, .int (mI x1)), (2, .int (mI x2)), (3, .int (mI x3)), (4, .int (mI x4))] [] m (r24 x1 x2 x3 x4 m)) : ∀ (x1 : Int) (x2 : Int) (x3 : Int) (x4 : Int) (m : ZMem), R32 x1 → R32 x2 → R32 x3 → R32 x4 → zG LX ad sc sv M_X10_nearestPair 24 [(0, .ref (ad 1)), (1, .int (mI x1)), (2, .int (mI x2)), (3, .int (mI x3)), (4, .int (mI x4))] [] m (B_X10_nearestPair_24 n r8 r24 x1 x2 x3 x4 m) := by
  intro x1 x2 x3 x4 m hx1 hx2 hx3 hx4
  unfold B_X10_nearestPair_24
  refine z_iload dX10_nearestPair_24 4 rfl ?_
  refine z_aload_n dX10_nearestPair_26 0 rfl ?_
  refine z_getR dX10_nearestPair_27 (k := 5) (j := 4) zc_X3 lx_1 rfl (by decide) k_87 ?_
  refine z_callV1 dX10_nearestPair_30 rfl (ct_X9_size n 4 zt_4 m) zc_X9 lx_4 k_600 k_276 k_277 k_3 k_278 zn_X9_size ⟨rfl, rfl, Nat.le_of_ble_eq_true rfl, Nat.le_of_ble_eq_true rfl⟩ (Nat.le_of_ble_eq_true rfl) rfl (fun v7 m8 h9 ho10 => ?_)
  refine z_icmp_ge dX10_nearestPair_33 hx4 h9 (tgt := 96) rfl (fun h11 => ?_) (fun h11 => ?_)
  · refine z_iinc dX10_nearestPair_96 (lv' := [(3, .int (mI (x3 + 1))), (0, .ref (ad 1)), (1, .int (mI x1)), (2, .int (mI x2)), (4, .int (mI x4))]) 3 rfl (by decide) rfl (fun h12 => ?_)
    refine z_goto dX10_nearestPair_99 (tgt := 8) rfl ?_
    exact zG_lvk (hr8 x1 x2 (x3 + 1) m8 hx1 hx2 h12) [1, 2, 3, 0] rfl
  · refine z_aload_n dX10_nearestPair_36 0 rfl ?_
    refine z_iload_n dX10_nearestPair_37 3 rfl ?_
    refine z_callS1 dX10_nearestPair_38 rfl (ct_X10_area n x3 m8 hx3) k_585 k_579 k_17 k_580 zn_X10_area ⟨rfl, rfl, Nat.le_of_ble_eq_true rfl, Nat.le_of_ble_eq_true rfl⟩ (Nat.le_of_ble_eq_true rfl) rfl (fun v13 m14 h15 ho16 => ?_)
    refine z_aload_n dX10_nearestPair_41 0 rfl ?_
    refine z_iload dX10_nearestPair_42 4 rfl ?_
    refine z_callS1 dX10_nearestPair_44 rfl (ct_X10_area n x4 m14 hx4) k_585 k_579 k_17 k_580 zn_X10_area ⟨rfl, rfl, Nat.le_of_ble_eq_true rfl, Nat.le_of_ble_eq_true rfl⟩ (Nat.le_of_ble_eq_true rfl) rfl (fun v17 m18 h19 ho20 => ?_)
    refine z_iadd dX10_nearestPair_47 (fun h21 => ?_)
    refine z_aload_n dX10_nearestPair_48 0 rfl ?_
    refine z_getI dX10_nearestPair_49 (k := 0) zc_X3 lx_1 rfl (by decide) k_65 (fun h22 => ?_)
    refine z_imul dX10_nearestPair_52 (fun h23 => ?_)
    refine z_istore dX10_nearestPair_53 (lv' := [(5, .int (mI ((v13 + v17) * (m18 1 0)))), (0, .ref (ad 1)), (1, .int (mI x1)), (2, .int (mI x2)), (3, .int (mI x3)), (4, .int (mI x4))]) (by decide) rfl ?_
    refine z_iload dX10_nearestPair_55 0 rfl ?_
    refine z_aload_n dX10_nearestPair_57 1 rfl ?_
    refine z_iconst dX10_nearestPair_58 ?_
    refine z_callS1 dX10_nearestPair_59 rfl (ct_X10_area n 0 m18 (by decide)) k_585 k_579 k_17 k_580 zn_X10_area ⟨rfl, rfl, Nat.le_of_ble_eq_true rfl, Nat.le_of_ble_eq_true rfl⟩ (Nat.le_of_ble_eq_true rfl) rfl (fun v24 m25 h26 ho27 => ?_)
    refine z_aload_n dX10_nearestPair_62 1 rfl ?_
    refine z_getI dX10_nearestPair_63 (k := 1) zc_X3 lx_1 rfl (by decide) k_72 (fun h28 => ?_)
    refine z_imul dX10_nearestPair_66 (fun h29 => ?_)
    refine z_isub dX10_nearestPair_67 (fun h30 => ?_)
    refine z_mabs dX10_nearestPair_68 h30 k_607 k_466 k_4 k_467 (Nat.le_of_ble_eq_true rfl) (Nat.le_of_ble_eq_true rfl) (fun h31 => ?_)
    refine z_istore dX10_nearestPair_71 (lv' := [(6, .int (mI (zabs (((v13 + v17) * (m18 1 0)) - (v24 * (m25 1 1)))))), (5, .int (mI ((v13 + v17) * (m18 1 0)))), (0, .ref (ad 1)), (1, .int (mI x1)), (2, .int (mI x2)), (3, .int (mI x3)), (4, .int (mI x4))]) (by decide) rfl ?_
    refine z_iload dX10_nearestPair_73 0 rfl ?_
    refine z_iload_n dX10_nearestPair_75 4 rfl ?_
    refine z_icmp_ge dX10_nearestPair_76 h31 hx2 (tgt := 90) rfl (fun h32 => ?_) (fun h32 => ?_)
    · refine z_iinc dX10_nearestPair_90 (lv' := [(4, .int (mI (x4 + 1))), (6, .int (mI (zabs (((v13 + v17) * (m18 1 0)) - (v24 * (m25 1 1)))))), (5, .int (mI ((v13 + v17) * (m18 1 0)))), (0, .ref (ad 1)), (1, .int (mI x1)), (2, .int (mI x2)), (3, .int (mI x3))]) 6 rfl (by decide) rfl (fun h33 => ?_)
      refine z_goto dX10_nearestPair_93 (tgt := 24) rfl ?_
      exact zG_lvk (hr24 x1 x2 x3 (x4 + 1) m25 hx1 hx2 hx3 h33) [3, 4, 5, 6, 0] rfl
    · refine z_bipush dX10_nearestPair_79 (x := 10) (by decide +kernel) ?_
      refine z_iload_n dX10_nearestPair_81 5 rfl ?_
      refine z_imul dX10_nearestPair_82 (fun h34 => ?_)
      refine z_iload dX10_nearestPair_83 6 rfl ?_
      refine z_iadd dX10_nearestPair_85 (fun h35 => ?_)
      refine z_istore_n dX10_nearestPair_86 (lv' := [(1, .int (mI ((10 * x3) + x4))), (6, .int (mI (zabs (((v13 + v17) * (m18 1 0)) - (v24 * (m25 1 1)))))), (5, .int (mI ((v13 + v17) * (m18 1 0)))), (0, .ref (ad 1)), (2, .int (mI x2)), (3, .int (mI x3)), (4, .int (mI x4))]) (by decide) rfl ?_
      refine z_iload dX10_nearestPair_87 1 rfl ?_
      refine z_istore_n dX10_nearestPair_89 (lv' := [(2, .int (mI (zabs (((v13 + v17) * (m18 1 0)) - (v24 * (m25 1 1)))))), (1, .int (mI ((10 * x3) + x4))), (6, .int (mI (zabs (((v13 + v17) * (m18 1 0)) - (v24 * (m25 1 1)))))), (5, .int (mI ((v13 + v17) * (m18 1 0)))), (0, .ref (ad 1)), (3, .int (mI x3)), (4, .int (mI x4))]) (by decide) rfl ?_
      refine z_iinc dX10_nearestPair_90 (lv' := [(4, .int (mI (x4 + 1))), (2, .int (mI (zabs (((v13 + v17) * (m18 1 0)) - (v24 * (m25 1 1)))))), (1, .int (mI ((10 * x3) + x4))), (6, .int (mI (zabs (((v13 + v17) * (m18 1 0)) - (v24 * (m25 1 1)))))), (5, .int (mI ((v13 + v17) * (m18 1 0)))), (0, .ref (ad 1)), (3, .int (mI x3))]) 6 rfl (by decide) rfl (fun h36 => ?_)
      refine z_goto dX10_nearestPair_93 (tgt := 24) rfl ?_
      exact zG_lvk (hr24 ((10 * x3) + x4) (zabs (((v13 + v17) * (m18 1 0)) - (v24 * (m25 1 1)))) x3 (x4 + 1) m25 h35 h31 hx3 h36) [5, 2, 1, 6, 0] rfl
theorem TL_X10_nearestPair_24 {ad sc sv : Nat → Nat} (n : Nat) (r8 : Int → Int → Int → ZMem → ZR) (hr8 : ∀ (x1 : Int) (x2 : Int) (x3 : Int) (m : ZMem), R32 x1 → R32 x2 → R32 x3 → zG LX ad sc sv M_X10_nearestPair 8 [(0, .ref (ad 1)), (1, .int (mI x1)), (2, .int (mI x2)), (3, .int (mI x3))] [] m (r8 x1 x2 x3 m)) : ∀ q : Nat, ∀ (x1 : Int) (x2 : Int) (x3 : Int) (x4 : Int) (m : ZMem), R32 x1 → R32 x2 → R32 x3 → R32 x4 → zG LX ad sc sv M_X10_nearestPair 24 [(0, .ref (ad 1)), (1, .int (mI x1)), (2, .int (mI x2)), (3, .int (mI x3)), (4, .int (mI x4))] [] m (L_X10_nearestPair_24 n r8 q x1 x2 x3 x4 m) := by
  intro q
  induction q with
  | zero => intros; exact zG_none
  | succ q ih => exact T_X10_nearestPair_24 n r8 (L_X10_nearestPair_24 n r8 q) hr8 ih
set_option maxRecDepth 20000 in
theorem T_X10_nearestPair_8 {ad sc sv : Nat → Nat} (n : Nat) (r8 : Int → Int → Int → ZMem → ZR) (hr8 : ∀ (x1 : Int) (x2 : Int) (x3 : Int) (m : ZMem), R32 x1 → R32 x2 → R32 x3 → zG LX ad sc sv M_X10_nearestPair 8 [(0, .ref (ad 1)), (1, .int (mI x1)), (2, .int (mI x2)), (3, .int (mI x3))] [] m (r8 x1 x2 x3 m)) : ∀ (x1 : Int) (x2 : Int) (x3 : Int) (m : ZMem), R32 x1 → R32 x2 → R32 x3 → zG LX ad sc sv M_X10_nearestPair 8 [(0, .ref (ad 1)), (1, .int (mI x1)), (2, .int (mI x2)), (3, .int (mI x3))] [] m (B_X10_nearestPair_8 n r8 x1 x2 x3 m) := by
  intro x1 x2 x3 m hx1 hx2 hx3
  unfold B_X10_nearestPair_8
  refine z_iload_n dX10_nearestPair_8 3 rfl ?_
  refine z_aload_n dX10_nearestPair_9 0 rfl ?_
  refine z_getR dX10_nearestPair_10 (k := 5) (j := 4) zc_X3 lx_1 rfl (by decide) k_87 ?_
  refine z_callV1 dX10_nearestPair_13 rfl (ct_X9_size n 4 zt_4 m) zc_X9 lx_4 k_600 k_276 k_277 k_3 k_278 zn_X9_size ⟨rfl, rfl, Nat.le_of_ble_eq_true rfl, Nat.le_of_ble_eq_true rfl⟩ (Nat.le_of_ble_eq_true rfl) rfl (fun v1 m2 h3 ho4 => ?_)
  refine z_icmp_ge dX10_nearestPair_16 hx3 h3 (tgt := 102) rfl (fun h5 => ?_) (fun h5 => ?_)
  · refine z_iload_n dX10_nearestPair_102 1 rfl ?_
    exact z_iret dX10_nearestPair_103 rfl rfl hx1
  · refine z_iload_n dX10_nearestPair_19 3 rfl ?_
    refine z_iconst dX10_nearestPair_20 ?_
    refine z_iadd dX10_nearestPair_21 (fun h6 => ?_)
    refine z_istore dX10_nearestPair_22 (lv' := [(4, .int (mI (x3 + 1))), (0, .ref (ad 1)), (1, .int (mI x1)), (2, .int (mI x2)), (3, .int (mI x3))]) (by decide) rfl ?_
    exact zG_lvk (TL_X10_nearestPair_24 n r8 hr8 n x1 x2 x3 (x3 + 1) m2 hx1 hx2 hx3 h6) [1, 2, 3, 4, 0] rfl
theorem TL_X10_nearestPair_8 {ad sc sv : Nat → Nat} (n : Nat) : ∀ q : Nat, ∀ (x1 : Int) (x2 : Int) (x3 : Int) (m : ZMem), R32 x1 → R32 x2 → R32 x3 → zG LX ad sc sv M_X10_nearestPair 8 [(0, .ref (ad 1)), (1, .int (mI x1)), (2, .int (mI x2)), (3, .int (mI x3))] [] m (L_X10_nearestPair_8 n q x1 x2 x3 m) := by
  intro q
  induction q with
  | zero => intros; exact zG_none
  | succ q ih => exact T_X10_nearestPair_8 n (L_X10_nearestPair_8 n q) ih
set_option maxRecDepth 20000 in
theorem ct_X10_nearestPair {ad sc sv : Nat → Nat} (n : Nat) (m : ZMem) : zCT LX ad sc sv M_X10_nearestPair yX10_nearestPair [.ref (ad 1)] m (F_X10_nearestPair n m) := by
  refine zCT_of (lv := [(0, .ref (ad 1))]) (by decide) rfl (Nat.le_of_ble_eq_true rfl) rfl ?_
  unfold F_X10_nearestPair
  refine z_bipush dX10_nearestPair_0 (x := (-9)) (by decide +kernel) ?_
  refine z_istore_n dX10_nearestPair_2 (lv' := [(1, .int (mI (-9))), (0, .ref (ad 1))]) (by decide) rfl ?_
  refine z_ldc dX10_nearestPair_3 (x := 1000000000) k_970 ?_
  refine z_istore_n dX10_nearestPair_5 (lv' := [(2, .int (mI 1000000000)), (1, .int (mI (-9))), (0, .ref (ad 1))]) (by decide) rfl ?_
  refine z_iconst dX10_nearestPair_6 ?_
  refine z_istore_n dX10_nearestPair_7 (lv' := [(3, .int (mI 0)), (2, .int (mI 1000000000)), (1, .int (mI (-9))), (0, .ref (ad 1))]) (by decide) rfl ?_
  exact zG_lvk (TL_X10_nearestPair_8 n n (-9) 1000000000 0 m (by decide) (by decide) (by decide)) [3, 2, 1, 0] rfl
set_option maxRecDepth 20000 in
theorem ct_X11_either {ad sc sv : Nat → Nat} (n : Nat) (a0 : Int) (a1 : Int) (a2 : Int) (a3 : Int) (m : ZMem) (ha0 : R32 a0) (ha1 : R32 a1) (ha2 : R32 a2) (ha3 : R32 a3) : zCT LX ad sc sv M_X11_either yX11_either [.int (mI a0), .int (mI a1), .int (mI a2), .int (mI a3)] m (F_X11_either n a0 a1 a2 a3 m) := by
  refine zCT_of (lv := [(0, .int (mI a0)), (1, .int (mI a1)), (2, .int (mI a2)), (3, .int (mI a3))]) (by decide) rfl (Nat.le_of_ble_eq_true rfl) rfl ?_
  unfold F_X11_either
  refine z_iload_n dX11_either_0 2 rfl ?_
  refine z_iload_n dX11_either_1 3 rfl ?_
  refine z_mmin dX11_either_2 ha2 ha3 k_242 k_62 k_4 k_63 (Nat.le_of_ble_eq_true rfl) (Nat.le_of_ble_eq_true rfl) (fun h1 => ?_)
  refine z_iload_n dX11_either_5 0 rfl ?_
  refine z_icmp_ge dX11_either_6 h1 ha0 (tgt := 12) rfl (fun h2 => ?_) (fun h2 => ?_)
  · refine z_iload_n dX11_either_12 2 rfl ?_
    refine z_iload_n dX11_either_13 3 rfl ?_
    refine z_mmax dX11_either_14 ha2 ha3 k_243 k_41 k_4 k_42 (Nat.le_of_ble_eq_true rfl) (Nat.le_of_ble_eq_true rfl) (fun h3 => ?_)
    refine z_iload_n dX11_either_17 1 rfl ?_
    refine z_icmp_le dX11_either_18 h3 ha1 (tgt := 26) rfl (fun h4 => ?_) (fun h4 => ?_)
    · refine z_iconst dX11_either_26 ?_
      exact z_iret dX11_either_27 rfl rfl (by decide)
    · refine z_bipush dX11_either_21 (x := (-6)) (by decide +kernel) ?_
      refine z_goto dX11_either_23 (tgt := 27) rfl ?_
      exact z_iret dX11_either_27 rfl rfl (by decide)
  · refine z_bipush dX11_either_9 (x := (-4)) (by decide +kernel) ?_
    exact z_iret dX11_either_11 rfl rfl (by decide)
set_option maxRecDepth 20000 in
theorem ct_X11_outside {ad sc sv : Nat → Nat} (n : Nat) (a0 : Int) (a1 : Int) (a2 : Int) (m : ZMem) (ha0 : R32 a0) (ha1 : R32 a1) (ha2 : R32 a2) : zCT LX ad sc sv M_X11_outside yX11_outside [.int (mI a0), .int (mI a1), .int (mI a2)] m (F_X11_outside n a0 a1 a2 m) := by
  refine zCT_of (lv := [(0, .int (mI a0)), (1, .int (mI a1)), (2, .int (mI a2))]) (by decide) rfl (Nat.le_of_ble_eq_true rfl) rfl ?_
  unfold F_X11_outside
  refine z_iload_n dX11_outside_0 0 rfl ?_
  refine z_iload_n dX11_outside_1 1 rfl ?_
  refine z_iload_n dX11_outside_2 2 rfl ?_
  refine z_iload_n dX11_outside_3 2 rfl ?_
  refine z_callS1 dX11_outside_4 rfl (ct_X11_either n a0 a1 a2 a2 m ha0 ha1 ha2 ha2) k_239 k_240 k_1 k_241 zn_X11_either ⟨rfl, rfl, Nat.le_of_ble_eq_true rfl, Nat.le_of_ble_eq_true rfl⟩ (Nat.le_of_ble_eq_true rfl) rfl (fun v1 m2 h3 ho4 => ?_)
  exact z_iret dX11_outside_7 rfl rfl h3
set_option maxRecDepth 20000 in
theorem ct_X11_noRoom {ad sc sv : Nat → Nat} (n : Nat) (u : Nat) (hu : zTab LX u) (m : ZMem) : zCT LX ad sc sv M_X11_noRoom yX11_noRoom [.ref (ad u)] m (F_X11_noRoom n u m) := by
  refine zCT_of (lv := [(0, .ref (ad u))]) (by decide) rfl (Nat.le_of_ble_eq_true rfl) rfl ?_
  unfold F_X11_noRoom
  refine z_aload_n dX11_noRoom_0 0 rfl ?_
  refine z_callV4 dX11_noRoom_1 rfl (ct_X9_full n u hu m) zc_X9 hu.1 k_251 k_252 k_253 k_3 k_254 zn_X9_full ⟨rfl, rfl, Nat.le_of_ble_eq_true rfl, Nat.le_of_ble_eq_true rfl⟩ (Nat.le_of_ble_eq_true rfl) rfl (fun v1 m2 h3 ho4 => ?_)
  refine z_if_eq dX11_noRoom_4 (zb01 h3) (tgt := 12) rfl (fun h5 => ?_) (fun h5 => ?_)
  · refine z_iconst dX11_noRoom_12 ?_
    exact z_iret dX11_noRoom_13 rfl rfl (by decide)
  · refine z_bipush dX11_noRoom_7 (x := (-6)) (by decide +kernel) ?_
    refine z_goto dX11_noRoom_9 (tgt := 13) rfl ?_
    exact z_iret dX11_noRoom_13 rfl rfl (by decide)
set_option maxRecDepth 20000 in
theorem ct_X11_refused {ad sc sv : Nat → Nat} (n : Nat) (a0 : Int) (a1 : Int) (a2 : Int) (m : ZMem) (ha0 : R32 a0) (ha1 : R32 a1) (ha2 : R32 a2) : zCT LX ad sc sv M_X11_refused yX11_refused [.ref (ad 0), .int (mI a0), .int (mI a1), .int (mI a2)] m (F_X11_refused n a0 a1 a2 m) := by
  refine zCT_of (lv := [(0, .ref (ad 0)), (1, .int (mI a0)), (2, .int (mI a1)), (3, .int (mI a2))]) (by decide) rfl (Nat.le_of_ble_eq_true rfl) rfl ?_
  unfold F_X11_refused
  refine z_iload_n dX11_refused_0 1 rfl ?_
  refine z_if_eq dX11_refused_1 ha0 (tgt := 8) rfl (fun h1 => ?_) (fun h1 => ?_)
  · refine z_iload_n dX11_refused_8 2 rfl ?_
    refine z_if_eq dX11_refused_9 ha1 (tgt := 16) rfl (fun h2 => ?_) (fun h2 => ?_)
    · refine z_iload_n dX11_refused_16 3 rfl ?_
      refine z_istore dX11_refused_17 (lv' := [(4, .int (mI a2)), (0, .ref (ad 0)), (1, .int (mI a0)), (2, .int (mI a1)), (3, .int (mI a2))]) (by decide) rfl ?_
      refine z_iload dX11_refused_19 0 rfl ?_
      refine z_if_eq dX11_refused_21 ha2 (tgt := 48) rfl (fun h3 => ?_) (fun h3 => ?_)
      · refine z_iload dX11_refused_48 0 rfl ?_
        exact z_iret dX11_refused_50 rfl rfl ha2
      · refine z_aload_n dX11_refused_24 1 rfl ?_
        refine z_getR dX11_refused_25 (k := 7) (j := 49) zc_X11 lx_0 rfl (by decide) k_202 ?_
        refine z_iload dX11_refused_28 0 rfl ?_
        refine z_ineg dX11_refused_30 (fun h4 => ?_)
        refine z_iconst dX11_refused_31 ?_
        refine z_aload_n dX11_refused_32 1 rfl ?_
        refine z_getR dX11_refused_33 (k := 7) (j := 49) zc_X11 lx_0 rfl (by decide) k_202 ?_
        refine z_iload dX11_refused_36 0 rfl ?_
        refine z_ineg dX11_refused_38 (fun h5 => ?_)
        refine z_iconst dX11_refused_39 ?_
        refine z_callV1 dX11_refused_40 rfl (ct_X9_at n 49 zt_49 (-a2) 0 m h5 (by decide)) zc_X9 lx_49 k_263 k_264 k_265 k_3 k_266 zn_X9_at ⟨rfl, rfl, Nat.le_of_ble_eq_true rfl, Nat.le_of_ble_eq_true rfl⟩ (Nat.le_of_ble_eq_true rfl) rfl (fun v6 m7 h8 ho9 => ?_)
        refine z_iconst dX11_refused_43 ?_
        refine z_iadd dX11_refused_44 (fun h10 => ?_)
        refine z_callV0 dX11_refused_45 rfl (ct_X9_put n 49 zt_49 (-a2) 0 (v6 + 1) m7 h5 (by decide) h10) zc_X9 lx_49 k_267 k_268 k_269 k_3 k_270 zn_X9_put ⟨rfl, rfl, Nat.le_of_ble_eq_true rfl, Nat.le_of_ble_eq_true rfl⟩ (Nat.le_of_ble_eq_true rfl) rfl (fun v11 m12 ho14 => ?_)
        refine z_iload dX11_refused_48 0 rfl ?_
        exact z_iret dX11_refused_50 rfl rfl ha2
    · refine z_iload_n dX11_refused_12 2 rfl ?_
      refine z_goto dX11_refused_13 (tgt := 17) rfl ?_
      refine z_istore dX11_refused_17 (lv' := [(4, .int (mI a1)), (0, .ref (ad 0)), (1, .int (mI a0)), (2, .int (mI a1)), (3, .int (mI a2))]) (by decide) rfl ?_
      refine z_iload dX11_refused_19 0 rfl ?_
      refine z_if_eq dX11_refused_21 ha1 (tgt := 48) rfl (fun h15 => ?_) (fun h15 => ?_)
      · refine z_iload dX11_refused_48 0 rfl ?_
        exact z_iret dX11_refused_50 rfl rfl ha1
      · refine z_aload_n dX11_refused_24 1 rfl ?_
        refine z_getR dX11_refused_25 (k := 7) (j := 49) zc_X11 lx_0 rfl (by decide) k_202 ?_
        refine z_iload dX11_refused_28 0 rfl ?_
        refine z_ineg dX11_refused_30 (fun h16 => ?_)
        refine z_iconst dX11_refused_31 ?_
        refine z_aload_n dX11_refused_32 1 rfl ?_
        refine z_getR dX11_refused_33 (k := 7) (j := 49) zc_X11 lx_0 rfl (by decide) k_202 ?_
        refine z_iload dX11_refused_36 0 rfl ?_
        refine z_ineg dX11_refused_38 (fun h17 => ?_)
        refine z_iconst dX11_refused_39 ?_
        refine z_callV1 dX11_refused_40 rfl (ct_X9_at n 49 zt_49 (-a1) 0 m h17 (by decide)) zc_X9 lx_49 k_263 k_264 k_265 k_3 k_266 zn_X9_at ⟨rfl, rfl, Nat.le_of_ble_eq_true rfl, Nat.le_of_ble_eq_true rfl⟩ (Nat.le_of_ble_eq_true rfl) rfl (fun v18 m19 h20 ho21 => ?_)
        refine z_iconst dX11_refused_43 ?_
        refine z_iadd dX11_refused_44 (fun h22 => ?_)
        refine z_callV0 dX11_refused_45 rfl (ct_X9_put n 49 zt_49 (-a1) 0 (v18 + 1) m19 h17 (by decide) h22) zc_X9 lx_49 k_267 k_268 k_269 k_3 k_270 zn_X9_put ⟨rfl, rfl, Nat.le_of_ble_eq_true rfl, Nat.le_of_ble_eq_true rfl⟩ (Nat.le_of_ble_eq_true rfl) rfl (fun v23 m24 ho26 => ?_)
        refine z_iload dX11_refused_48 0 rfl ?_
        exact z_iret dX11_refused_50 rfl rfl ha1
  · refine z_iload_n dX11_refused_4 1 rfl ?_
    refine z_goto dX11_refused_5 (tgt := 17) rfl ?_
    refine z_istore dX11_refused_17 (lv' := [(4, .int (mI a0)), (0, .ref (ad 0)), (1, .int (mI a0)), (2, .int (mI a1)), (3, .int (mI a2))]) (by decide) rfl ?_
    refine z_iload dX11_refused_19 0 rfl ?_
    refine z_if_eq dX11_refused_21 ha0 (tgt := 48) rfl (fun h27 => ?_) (fun h27 => ?_)
    · refine z_iload dX11_refused_48 0 rfl ?_
      exact z_iret dX11_refused_50 rfl rfl ha0
    · refine z_aload_n dX11_refused_24 1 rfl ?_
      refine z_getR dX11_refused_25 (k := 7) (j := 49) zc_X11 lx_0 rfl (by decide) k_202 ?_
      refine z_iload dX11_refused_28 0 rfl ?_
      refine z_ineg dX11_refused_30 (fun h28 => ?_)
      refine z_iconst dX11_refused_31 ?_
      refine z_aload_n dX11_refused_32 1 rfl ?_
      refine z_getR dX11_refused_33 (k := 7) (j := 49) zc_X11 lx_0 rfl (by decide) k_202 ?_
      refine z_iload dX11_refused_36 0 rfl ?_
      refine z_ineg dX11_refused_38 (fun h29 => ?_)
      refine z_iconst dX11_refused_39 ?_
      refine z_callV1 dX11_refused_40 rfl (ct_X9_at n 49 zt_49 (-a0) 0 m h29 (by decide)) zc_X9 lx_49 k_263 k_264 k_265 k_3 k_266 zn_X9_at ⟨rfl, rfl, Nat.le_of_ble_eq_true rfl, Nat.le_of_ble_eq_true rfl⟩ (Nat.le_of_ble_eq_true rfl) rfl (fun v30 m31 h32 ho33 => ?_)
      refine z_iconst dX11_refused_43 ?_
      refine z_iadd dX11_refused_44 (fun h34 => ?_)
      refine z_callV0 dX11_refused_45 rfl (ct_X9_put n 49 zt_49 (-a0) 0 (v30 + 1) m31 h29 (by decide) h34) zc_X9 lx_49 k_267 k_268 k_269 k_3 k_270 zn_X9_put ⟨rfl, rfl, Nat.le_of_ble_eq_true rfl, Nat.le_of_ble_eq_true rfl⟩ (Nat.le_of_ble_eq_true rfl) rfl (fun v35 m36 ho38 => ?_)
      refine z_iload dX11_refused_48 0 rfl ?_
      exact z_iret dX11_refused_50 rfl rfl ha0
set_option maxRecDepth 20000 in
theorem ct_X11_refused_ {ad sc sv : Nat → Nat} (n : Nat) (a0 : Int) (a1 : Int) (m : ZMem) (ha0 : R32 a0) (ha1 : R32 a1) : zCT LX ad sc sv M_X11_refused_ yX11_refused_ [.ref (ad 0), .int (mI a0), .int (mI a1)] m (F_X11_refused_ n a0 a1 m) := by
  refine zCT_of (lv := [(0, .ref (ad 0)), (1, .int (mI a0)), (2, .int (mI a1))]) (by decide) rfl (Nat.le_of_ble_eq_true rfl) rfl ?_
  unfold F_X11_refused_
  refine z_aload_n dX11_refused__0 0 rfl ?_
  refine z_iload_n dX11_refused__1 1 rfl ?_
  refine z_iload_n dX11_refused__2 2 rfl ?_
  refine z_iconst dX11_refused__3 ?_
  refine z_callV1 dX11_refused__4 rfl (ct_X11_refused n a0 a1 0 m ha0 ha1 (by decide)) zc_X11 lx_0 k_259 k_261 kp_1 k_1 k_262 zn_X11_refused ⟨rfl, rfl, Nat.le_of_ble_eq_true rfl, Nat.le_of_ble_eq_true rfl⟩ (Nat.le_of_ble_eq_true rfl) rfl (fun v1 m2 h3 ho4 => ?_)
  exact z_iret dX11_refused__7 rfl rfl h3
set_option maxRecDepth 20000 in
theorem ct_X11_feed {ad sc sv : Nat → Nat} (n : Nat) (a0 : Int) (m : ZMem) (ha0 : R32 a0) : zCT LX ad sc sv M_X11_feed yX11_feed [.ref (ad 0), .int (mI a0)] m (F_X11_feed n a0 m) := by
  refine zCT_of (lv := [(0, .ref (ad 0)), (1, .int (mI a0))]) (by decide) rfl (Nat.le_of_ble_eq_true rfl) rfl ?_
  unfold F_X11_feed
  refine z_aload_n dX11_feed_0 0 rfl ?_
  refine z_iconst dX11_feed_1 ?_
  refine z_sipush dX11_feed_2 (x := 255) (by decide +kernel) ?_
  refine z_iload_n dX11_feed_5 1 rfl ?_
  refine z_callS1 dX11_feed_6 rfl (ct_X11_outside n 0 255 a0 m (by decide) (by decide) ha0) k_236 k_237 k_1 k_238 zn_X11_outside ⟨rfl, rfl, Nat.le_of_ble_eq_true rfl, Nat.le_of_ble_eq_true rfl⟩ (Nat.le_of_ble_eq_true rfl) rfl (fun v1 m2 h3 ho4 => ?_)
  refine z_aload_n dX11_feed_9 0 rfl ?_
  refine z_getR dX11_feed_10 (k := 4) (j := 40) zc_X11 lx_0 rfl (by decide) k_199 ?_
  refine z_callV3 dX11_feed_13 rfl (ct_X1_letters n m2) zc_X1 lx_40 k_244 k_245 k_246 k_5 k_247 zn_X1_letters ⟨rfl, rfl, Nat.le_of_ble_eq_true rfl, Nat.le_of_ble_eq_true rfl⟩ (Nat.le_of_ble_eq_true rfl) rfl (fun v5 m6 ho8 => ?_)
  obtain ⟨rfl, -⟩ := zret_inj ho8
  show zG LX ad sc sv M_X11_feed 16 _ (.ref (ad 41) :: _) _ _
  refine z_callS1 dX11_feed_16 rfl (ct_X11_noRoom n 41 zt_41 m6) k_248 k_249 k_1 k_250 zn_X11_noRoom ⟨rfl, rfl, Nat.le_of_ble_eq_true rfl, Nat.le_of_ble_eq_true rfl⟩ (Nat.le_of_ble_eq_true rfl) rfl (fun v9 m10 h11 ho12 => ?_)
  refine z_callV1 dX11_feed_19 rfl (ct_X11_refused_ n v1 v9 m10 h3 h11) zc_X11 lx_0 k_255 k_257 kp_0 k_1 k_258 zn_X11_refused_ ⟨rfl, rfl, Nat.le_of_ble_eq_true rfl, Nat.le_of_ble_eq_true rfl⟩ (Nat.le_of_ble_eq_true rfl) rfl (fun v13 m14 h15 ho16 => ?_)
  refine z_istore_n dX11_feed_22 (lv' := [(2, .int (mI v13)), (0, .ref (ad 0)), (1, .int (mI a0))]) (by decide) rfl ?_
  refine z_iload_n dX11_feed_23 0 rfl ?_
  refine z_if_eq dX11_feed_24 h15 (tgt := 29) rfl (fun h17 => ?_) (fun h17 => ?_)
  · refine z_aload_n dX11_feed_29 1 rfl ?_
    refine z_getR dX11_feed_30 (k := 4) (j := 40) zc_X11 lx_0 rfl (by decide) k_199 ?_
    refine z_callV3 dX11_feed_33 rfl (ct_X1_letters n m14) zc_X1 lx_40 k_244 k_245 k_246 k_5 k_247 zn_X1_letters ⟨rfl, rfl, Nat.le_of_ble_eq_true rfl, Nat.le_of_ble_eq_true rfl⟩ (Nat.le_of_ble_eq_true rfl) rfl (fun v18 m19 ho21 => ?_)
    obtain ⟨rfl, -⟩ := zret_inj ho21
    show zG LX ad sc sv M_X11_feed 36 _ (.ref (ad 41) :: _) _ _
    refine z_iload_n dX11_feed_36 2 rfl ?_
    refine z_callV1 dX11_feed_37 rfl (ct_X9_add n 41 zt_41 a0 m19 ha0) zc_X9 lx_41 k_271 k_272 k_273 k_3 k_274 zn_X9_add ⟨rfl, rfl, Nat.le_of_ble_eq_true rfl, Nat.le_of_ble_eq_true rfl⟩ (Nat.le_of_ble_eq_true rfl) rfl (fun v22 m23 h24 ho25 => ?_)
    refine z_pop dX11_feed_40 rfl ?_
    refine z_aload_n dX11_feed_41 1 rfl ?_
    refine z_getR dX11_feed_42 (k := 4) (j := 40) zc_X11 lx_0 rfl (by decide) k_199 ?_
    refine z_callV3 dX11_feed_45 rfl (ct_X1_letters n m23) zc_X1 lx_40 k_244 k_245 k_246 k_5 k_247 zn_X1_letters ⟨rfl, rfl, Nat.le_of_ble_eq_true rfl, Nat.le_of_ble_eq_true rfl⟩ (Nat.le_of_ble_eq_true rfl) rfl (fun v26 m27 ho29 => ?_)
    obtain ⟨rfl, -⟩ := zret_inj ho29
    show zG LX ad sc sv M_X11_feed 48 _ (.ref (ad 41) :: _) _ _
    refine z_callV1 dX11_feed_48 rfl (ct_X9_size n 41 zt_41 m27) zc_X9 lx_41 k_275 k_276 k_277 k_3 k_278 zn_X9_size ⟨rfl, rfl, Nat.le_of_ble_eq_true rfl, Nat.le_of_ble_eq_true rfl⟩ (Nat.le_of_ble_eq_true rfl) rfl (fun v30 m31 h32 ho33 => ?_)
    exact z_iret dX11_feed_51 rfl rfl h32
  · refine z_iload_n dX11_feed_27 0 rfl ?_
    exact z_iret dX11_feed_28 rfl rfl h15
set_option maxRecDepth 20000 in
theorem ct_X11_book {ad sc sv : Nat → Nat} (n : Nat) (m : ZMem) : zCT LX ad sc sv M_X11_book yX11_book [.ref (ad 0)] m (F_X11_book n m) := by
  refine zCT_of (lv := [(0, .ref (ad 0))]) (by decide) rfl (Nat.le_of_ble_eq_true rfl) rfl ?_
  unfold F_X11_book
  refine z_aload_n dX11_book_0 0 rfl ?_
  refine z_getR dX11_book_1 (k := 2) (j := 27) zc_X11 lx_0 rfl (by decide) k_197 ?_
  refine z_aload_n dX11_book_4 0 rfl ?_
  refine z_getR dX11_book_5 (k := 0) (j := 1) zc_X11 lx_0 rfl (by decide) k_195 ?_
  refine z_callV0 dX11_book_8 rfl (ct_X3_copyFrom n 27 1 zk_27 zk_1 m) zc_X3 lx_27 k_283 k_284 k_285 k_2 k_286 zn_X3_copyFrom ⟨rfl, rfl, Nat.le_of_ble_eq_true rfl, Nat.le_of_ble_eq_true rfl⟩ (Nat.le_of_ble_eq_true rfl) rfl (fun v1 m2 ho4 => ?_)
  refine z_aload_n dX11_book_11 0 rfl ?_
  refine z_getR dX11_book_12 (k := 4) (j := 40) zc_X11 lx_0 rfl (by decide) k_199 ?_
  refine z_aload_n dX11_book_15 0 rfl ?_
  refine z_getR dX11_book_16 (k := 2) (j := 27) zc_X11 lx_0 rfl (by decide) k_197 ?_
  refine z_callV1 dX11_book_19 rfl (ct_X1_tellTo n m2) zc_X1 lx_40 k_291 k_292 k_293 k_5 k_294 zn_X1_tellTo ⟨rfl, rfl, Nat.le_of_ble_eq_true rfl, Nat.le_of_ble_eq_true rfl⟩ (Nat.le_of_ble_eq_true rfl) rfl (fun v5 m6 h7 ho8 => ?_)
  refine z_istore_n dX11_book_22 (lv' := [(1, .int (mI v5)), (0, .ref (ad 0))]) (by decide) rfl ?_
  refine z_iload_n dX11_book_23 0 rfl ?_
  refine z_if_le dX11_book_24 h7 (tgt := 47) rfl (fun h9 => ?_) (fun h9 => ?_)
  · refine z_iload_n dX11_book_47 0 rfl ?_
    exact z_iret dX11_book_48 rfl rfl h7
  · refine z_aload_n dX11_book_27 1 rfl ?_
    refine z_getR dX11_book_28 (k := 0) (j := 1) zc_X11 lx_0 rfl (by decide) k_195 ?_
    refine z_aload_n dX11_book_31 1 rfl ?_
    refine z_getR dX11_book_32 (k := 2) (j := 27) zc_X11 lx_0 rfl (by decide) k_197 ?_
    refine z_callV0 dX11_book_35 rfl (ct_X3_copyFrom n 1 27 zk_1 zk_27 m6) zc_X3 lx_1 k_283 k_284 k_285 k_2 k_286 zn_X3_copyFrom ⟨rfl, rfl, Nat.le_of_ble_eq_true rfl, Nat.le_of_ble_eq_true rfl⟩ (Nat.le_of_ble_eq_true rfl) rfl (fun v10 m11 ho13 => ?_)
    refine z_aload_n dX11_book_38 1 rfl ?_
    refine z_getR dX11_book_39 (k := 6) (j := 47) zc_X11 lx_0 rfl (by decide) k_201 ?_
    refine z_iconst dX11_book_42 ?_
    refine z_iconst dX11_book_43 ?_
    refine z_callV0 dX11_book_44 rfl (ct_X9_reset n 47 zt_47 0 0 m11 (by decide) (by decide)) zc_X9 lx_47 k_194 k_58 k_59 k_3 k_60 zn_X9_reset ⟨rfl, rfl, Nat.le_of_ble_eq_true rfl, Nat.le_of_ble_eq_true rfl⟩ (Nat.le_of_ble_eq_true rfl) rfl (fun v14 m15 ho17 => ?_)
    refine z_iload_n dX11_book_47 0 rfl ?_
    exact z_iret dX11_book_48 rfl rfl h7
set_option maxRecDepth 20000 in
theorem ct_X11_noSuch {ad sc sv : Nat → Nat} (n : Nat) (u : Nat) (hu : zTab LX u) (a0 : Int) (m : ZMem) (ha0 : R32 a0) : zCT LX ad sc sv M_X11_noSuch yX11_noSuch [.ref (ad u), .int (mI a0)] m (F_X11_noSuch n u a0 m) := by
  refine zCT_of (lv := [(0, .ref (ad u)), (1, .int (mI a0))]) (by decide) rfl (Nat.le_of_ble_eq_true rfl) rfl ?_
  unfold F_X11_noSuch
  refine z_aload_n dX11_noSuch_0 0 rfl ?_
  refine z_iload_n dX11_noSuch_1 1 rfl ?_
  refine z_callV4 dX11_noSuch_2 rfl (ct_X9_has n u hu a0 m ha0) zc_X9 hu.1 k_445 k_415 k_416 k_3 k_417 zn_X9_has ⟨rfl, rfl, Nat.le_of_ble_eq_true rfl, Nat.le_of_ble_eq_true rfl⟩ (Nat.le_of_ble_eq_true rfl) rfl (fun v1 m2 h3 ho4 => ?_)
  refine z_if_eq dX11_noSuch_5 (zb01 h3) (tgt := 12) rfl (fun h5 => ?_) (fun h5 => ?_)
  · refine z_iconst dX11_noSuch_12 ?_
    exact z_iret dX11_noSuch_13 rfl rfl (by decide)
  · refine z_iconst dX11_noSuch_8 ?_
    refine z_goto dX11_noSuch_9 (tgt := 13) rfl ?_
    exact z_iret dX11_noSuch_13 rfl rfl (by decide)
set_option maxRecDepth 20000 in
theorem ct_X11_noPart {ad sc sv : Nat → Nat} (n : Nat) (a0 : Int) (m : ZMem) (ha0 : R32 a0) : zCT LX ad sc sv M_X11_noPart yX11_noPart [.ref (ad 0), .int (mI a0)] m (F_X11_noPart n a0 m) := by
  refine zCT_of (lv := [(0, .ref (ad 0)), (1, .int (mI a0))]) (by decide) rfl (Nat.le_of_ble_eq_true rfl) rfl ?_
  unfold F_X11_noPart
  refine z_aload_n dX11_noPart_0 0 rfl ?_
  refine z_getR dX11_noPart_1 (k := 0) (j := 1) zc_X11 lx_0 rfl (by decide) k_195 ?_
  refine z_getR dX11_noPart_4 (k := 4) (j := 2) zc_X3 lx_1 rfl (by decide) k_84 ?_
  refine z_iload_n dX11_noPart_7 1 rfl ?_
  refine z_callS1 dX11_noPart_8 rfl (ct_X11_noSuch n 2 zt_2 a0 m ha0) k_442 k_443 k_1 k_444 zn_X11_noSuch ⟨rfl, rfl, Nat.le_of_ble_eq_true rfl, Nat.le_of_ble_eq_true rfl⟩ (Nat.le_of_ble_eq_true rfl) rfl (fun v1 m2 h3 ho4 => ?_)
  exact z_iret dX11_noPart_11 rfl rfl h3
set_option maxRecDepth 20000 in
theorem ct_X11_noChoice {ad sc sv : Nat → Nat} (n : Nat) (a0 : Int) (a1 : Int) (m : ZMem) (ha0 : R32 a0) (ha1 : R32 a1) : zCT LX ad sc sv M_X11_noChoice yX11_noChoice [.int (mI a0), .int (mI a1)] m (F_X11_noChoice n a0 a1 m) := by
  refine zCT_of (lv := [(0, .int (mI a0)), (1, .int (mI a1))]) (by decide) rfl (Nat.le_of_ble_eq_true rfl) rfl ?_
  unfold F_X11_noChoice
  refine z_iload_n dX11_noChoice_0 0 rfl ?_
  refine z_if_lt dX11_noChoice_1 ha0 (tgt := 9) rfl (fun h1 => ?_) (fun h1 => ?_)
  · refine z_bipush dX11_noChoice_9 (x := (-2)) (by decide +kernel) ?_
    refine z_goto dX11_noChoice_11 (tgt := 15) rfl ?_
    exact z_iret dX11_noChoice_15 rfl rfl (by decide)
  · refine z_iload_n dX11_noChoice_4 0 rfl ?_
    refine z_iload_n dX11_noChoice_5 1 rfl ?_
    refine z_icmp_le dX11_noChoice_6 ha0 ha1 (tgt := 14) rfl (fun h2 => ?_) (fun h2 => ?_)
    · refine z_iconst dX11_noChoice_14 ?_
      exact z_iret dX11_noChoice_15 rfl rfl (by decide)
    · refine z_bipush dX11_noChoice_9 (x := (-2)) (by decide +kernel) ?_
      refine z_goto dX11_noChoice_11 (tgt := 15) rfl ?_
      exact z_iret dX11_noChoice_15 rfl rfl (by decide)
set_option maxRecDepth 20000 in
theorem ct_X11_part {ad sc sv : Nat → Nat} (n : Nat) (a0 : Int) (a1 : Int) (m : ZMem) (ha0 : R32 a0) (ha1 : R32 a1) : zCT LX ad sc sv M_X11_part yX11_part [.ref (ad 0), .int (mI a0), .int (mI a1)] m (F_X11_part n a0 a1 m) := by
  refine zCT_of (lv := [(0, .ref (ad 0)), (1, .int (mI a0)), (2, .int (mI a1))]) (by decide) rfl (Nat.le_of_ble_eq_true rfl) rfl ?_
  unfold F_X11_part
  refine z_aload_n dX11_part_0 0 rfl ?_
  refine z_aload_n dX11_part_1 0 rfl ?_
  refine z_iload_n dX11_part_2 1 rfl ?_
  refine z_callV1 dX11_part_3 rfl (ct_X11_noPart n a0 m ha0) zc_X11 lx_0 k_438 k_440 kp_18 k_1 k_441 zn_X11_noPart ⟨rfl, rfl, Nat.le_of_ble_eq_true rfl, Nat.le_of_ble_eq_true rfl⟩ (Nat.le_of_ble_eq_true rfl) rfl (fun v1 m2 h3 ho4 => ?_)
  refine z_iload_n dX11_part_6 2 rfl ?_
  refine z_bipush dX11_part_7 (x := 6) (by decide +kernel) ?_
  refine z_callS1 dX11_part_9 rfl (ct_X11_noChoice n a1 6 m2 ha1 (by decide)) k_446 k_447 k_1 k_448 zn_X11_noChoice ⟨rfl, rfl, Nat.le_of_ble_eq_true rfl, Nat.le_of_ble_eq_true rfl⟩ (Nat.le_of_ble_eq_true rfl) rfl (fun v5 m6 h7 ho8 => ?_)
  refine z_callV1 dX11_part_12 rfl (ct_X11_refused_ n v1 v5 m6 h3 h7) zc_X11 lx_0 k_255 k_257 kp_0 k_1 k_258 zn_X11_refused_ ⟨rfl, rfl, Nat.le_of_ble_eq_true rfl, Nat.le_of_ble_eq_true rfl⟩ (Nat.le_of_ble_eq_true rfl) rfl (fun v9 m10 h11 ho12 => ?_)
  refine z_istore_n dX11_part_15 (lv' := [(3, .int (mI v9)), (0, .ref (ad 0)), (1, .int (mI a0)), (2, .int (mI a1))]) (by decide) rfl ?_
  refine z_iload_n dX11_part_16 0 rfl ?_
  refine z_if_eq dX11_part_17 h11 (tgt := 22) rfl (fun h13 => ?_) (fun h13 => ?_)
  · refine z_iload_n dX11_part_22 3 rfl ?_
    refine z_iconst dX11_part_23 ?_
    refine z_icmp_ne dX11_part_24 ha1 (by decide) (tgt := 36) rfl (fun h14 => ?_) (fun h14 => ?_)
    · refine z_aload_n dX11_part_27 1 rfl ?_
      refine z_getR dX11_part_28 (k := 0) (j := 1) zc_X11 lx_0 rfl (by decide) k_195 ?_
      refine z_iload_n dX11_part_31 2 rfl ?_
      refine z_callV1 dX11_part_32 rfl (ct_X3_takenNow n a0 m10 ha0) zc_X3 lx_1 k_449 k_450 k_451 k_2 k_452 zn_X3_takenNow ⟨rfl, rfl, Nat.le_of_ble_eq_true rfl, Nat.le_of_ble_eq_true rfl⟩ (Nat.le_of_ble_eq_true rfl) rfl (fun v15 m16 h17 ho18 => ?_)
      exact z_iret dX11_part_35 rfl rfl h17
    · refine z_iload_n dX11_part_36 3 rfl ?_
      refine z_bipush dX11_part_37 (x := 6) (by decide +kernel) ?_
      refine z_icmp_ne dX11_part_39 ha1 (by decide) (tgt := 53) rfl (fun h19 => ?_) (fun h19 => ?_)
      · refine z_aload_n dX11_part_42 1 rfl ?_
        refine z_getR dX11_part_43 (k := 0) (j := 1) zc_X11 lx_0 rfl (by decide) k_195 ?_
        refine z_iload_n dX11_part_46 2 rfl ?_
        refine z_callV1 dX11_part_47 rfl (ct_X3_left n a0 m10 ha0) zc_X3 lx_1 k_468 k_469 k_470 k_2 k_471 zn_X3_left ⟨rfl, rfl, Nat.le_of_ble_eq_true rfl, Nat.le_of_ble_eq_true rfl⟩ (Nat.le_of_ble_eq_true rfl) rfl (fun v20 m21 h22 ho23 => ?_)
        refine z_goto dX11_part_50 (tgt := 65) rfl ?_
        exact z_iret dX11_part_65 rfl rfl h22
      · refine z_aload_n dX11_part_53 1 rfl ?_
        refine z_getR dX11_part_54 (k := 0) (j := 1) zc_X11 lx_0 rfl (by decide) k_195 ?_
        refine z_getR dX11_part_57 (k := 4) (j := 2) zc_X3 lx_1 rfl (by decide) k_84 ?_
        refine z_iload_n dX11_part_60 2 rfl ?_
        refine z_iload_n dX11_part_61 3 rfl ?_
        refine z_callV1 dX11_part_62 rfl (ct_X9_at n 2 zt_2 a0 a1 m10 ha0 ha1) zc_X9 lx_2 k_263 k_264 k_265 k_3 k_266 zn_X9_at ⟨rfl, rfl, Nat.le_of_ble_eq_true rfl, Nat.le_of_ble_eq_true rfl⟩ (Nat.le_of_ble_eq_true rfl) rfl (fun v24 m25 h26 ho27 => ?_)
        exact z_iret dX11_part_65 rfl rfl h26
  · refine z_iload_n dX11_part_20 0 rfl ?_
    exact z_iret dX11_part_21 rfl rfl h11
set_option maxRecDepth 20000 in
theorem ct_X11_refused__ {ad sc sv : Nat → Nat} (n : Nat) (a0 : Int) (m : ZMem) (ha0 : R32 a0) : zCT LX ad sc sv M_X11_refused__ yX11_refused__ [.ref (ad 0), .int (mI a0)] m (F_X11_refused__ n a0 m) := by
  refine zCT_of (lv := [(0, .ref (ad 0)), (1, .int (mI a0))]) (by decide) rfl (Nat.le_of_ble_eq_true rfl) rfl ?_
  unfold F_X11_refused__
  refine z_aload_n dX11_refused___0 0 rfl ?_
  refine z_iload_n dX11_refused___1 1 rfl ?_
  refine z_iconst dX11_refused___2 ?_
  refine z_iconst dX11_refused___3 ?_
  refine z_callV1 dX11_refused___4 rfl (ct_X11_refused n a0 0 0 m ha0 (by decide) (by decide)) zc_X11 lx_0 k_259 k_261 kp_1 k_1 k_262 zn_X11_refused ⟨rfl, rfl, Nat.le_of_ble_eq_true rfl, Nat.le_of_ble_eq_true rfl⟩ (Nat.le_of_ble_eq_true rfl) rfl (fun v1 m2 h3 ho4 => ?_)
  exact z_iret dX11_refused___7 rfl rfl h3
set_option maxRecDepth 20000 in
theorem ct_X11_guests {ad sc sv : Nat → Nat} (n : Nat) (a0 : Int) (m : ZMem) (ha0 : R32 a0) : zCT LX ad sc sv M_X11_guests yX11_guests [.ref (ad 0), .int (mI a0)] m (F_X11_guests n a0 m) := by
  refine zCT_of (lv := [(0, .ref (ad 0)), (1, .int (mI a0))]) (by decide) rfl (Nat.le_of_ble_eq_true rfl) rfl ?_
  unfold F_X11_guests
  refine z_aload_n dX11_guests_0 0 rfl ?_
  refine z_iconst dX11_guests_1 ?_
  refine z_bipush dX11_guests_2 (x := 24) (by decide +kernel) ?_
  refine z_iload_n dX11_guests_4 1 rfl ?_
  refine z_callS1 dX11_guests_5 rfl (ct_X11_outside n 1 24 a0 m (by decide) (by decide) ha0) k_236 k_237 k_1 k_238 zn_X11_outside ⟨rfl, rfl, Nat.le_of_ble_eq_true rfl, Nat.le_of_ble_eq_true rfl⟩ (Nat.le_of_ble_eq_true rfl) rfl (fun v1 m2 h3 ho4 => ?_)
  refine z_callV1 dX11_guests_8 rfl (ct_X11_refused__ n v1 m2 h3) zc_X11 lx_0 k_477 k_479 kp_19 k_1 k_480 zn_X11_refused__ ⟨rfl, rfl, Nat.le_of_ble_eq_true rfl, Nat.le_of_ble_eq_true rfl⟩ (Nat.le_of_ble_eq_true rfl) rfl (fun v5 m6 h7 ho8 => ?_)
  refine z_istore_n dX11_guests_11 (lv' := [(2, .int (mI v5)), (0, .ref (ad 0)), (1, .int (mI a0))]) (by decide) rfl ?_
  refine z_iload_n dX11_guests_12 0 rfl ?_
  refine z_if_eq dX11_guests_13 h7 (tgt := 18) rfl (fun h9 => ?_) (fun h9 => ?_)
  · refine z_aload_n dX11_guests_18 1 rfl ?_
    refine z_getR dX11_guests_19 (k := 0) (j := 1) zc_X11 lx_0 rfl (by decide) k_195 ?_
    refine z_getI dX11_guests_22 (k := 1) zc_X3 lx_1 rfl (by decide) k_74 (fun h10 => ?_)
    refine z_istore_n dX11_guests_25 (lv' := [(3, .int (mI (m6 1 1))), (2, .int (mI v5)), (0, .ref (ad 0)), (1, .int (mI a0))]) (by decide) rfl ?_
    refine z_aload_n dX11_guests_26 2 rfl ?_
    refine z_getR dX11_guests_27 (k := 6) (j := 47) zc_X11 lx_0 rfl (by decide) k_201 ?_
    refine z_callV4 dX11_guests_30 rfl (ct_X9_full n 47 zt_47 m6) zc_X9 lx_47 k_251 k_252 k_253 k_3 k_254 zn_X9_full ⟨rfl, rfl, Nat.le_of_ble_eq_true rfl, Nat.le_of_ble_eq_true rfl⟩ (Nat.le_of_ble_eq_true rfl) rfl (fun v11 m12 h13 ho14 => ?_)
    refine z_if_eq dX11_guests_33 (zb01 h13) (tgt := 43) rfl (fun h15 => ?_) (fun h15 => ?_)
    · refine z_aload_n dX11_guests_43 2 rfl ?_
      refine z_getR dX11_guests_44 (k := 6) (j := 47) zc_X11 lx_0 rfl (by decide) k_201 ?_
      refine z_iload_n dX11_guests_47 0 rfl ?_
      refine z_callV1 dX11_guests_48 rfl (ct_X9_add n 47 zt_47 (m6 1 1) m12 h10) zc_X9 lx_47 k_271 k_272 k_273 k_3 k_274 zn_X9_add ⟨rfl, rfl, Nat.le_of_ble_eq_true rfl, Nat.le_of_ble_eq_true rfl⟩ (Nat.le_of_ble_eq_true rfl) rfl (fun v16 m17 h18 ho19 => ?_)
      refine z_pop dX11_guests_51 rfl ?_
      refine z_aload_n dX11_guests_52 2 rfl ?_
      refine z_getR dX11_guests_53 (k := 0) (j := 1) zc_X11 lx_0 rfl (by decide) k_195 ?_
      refine z_iload_n dX11_guests_56 3 rfl ?_
      refine z_putI dX11_guests_57 (k := 1) zc_X3 lx_1 rfl (by decide) rfl rfl ha0 k_74 ?_
      refine z_iload_n dX11_guests_60 0 rfl ?_
      exact z_iret dX11_guests_61 rfl rfl h10
    · refine z_aload_n dX11_guests_36 2 rfl ?_
      refine z_getR dX11_guests_37 (k := 6) (j := 47) zc_X11 lx_0 rfl (by decide) k_201 ?_
      refine z_callV0 dX11_guests_40 rfl (ct_X9_dropFirst n 47 zt_47 m12) zc_X9 lx_47 k_481 k_482 k_483 k_3 k_484 zn_X9_dropFirst ⟨rfl, rfl, Nat.le_of_ble_eq_true rfl, Nat.le_of_ble_eq_true rfl⟩ (Nat.le_of_ble_eq_true rfl) rfl (fun v20 m21 ho23 => ?_)
      refine z_aload_n dX11_guests_43 2 rfl ?_
      refine z_getR dX11_guests_44 (k := 6) (j := 47) zc_X11 lx_0 rfl (by decide) k_201 ?_
      refine z_iload_n dX11_guests_47 0 rfl ?_
      refine z_callV1 dX11_guests_48 rfl (ct_X9_add n 47 zt_47 (m6 1 1) m21 h10) zc_X9 lx_47 k_271 k_272 k_273 k_3 k_274 zn_X9_add ⟨rfl, rfl, Nat.le_of_ble_eq_true rfl, Nat.le_of_ble_eq_true rfl⟩ (Nat.le_of_ble_eq_true rfl) rfl (fun v24 m25 h26 ho27 => ?_)
      refine z_pop dX11_guests_51 rfl ?_
      refine z_aload_n dX11_guests_52 2 rfl ?_
      refine z_getR dX11_guests_53 (k := 0) (j := 1) zc_X11 lx_0 rfl (by decide) k_195 ?_
      refine z_iload_n dX11_guests_56 3 rfl ?_
      refine z_putI dX11_guests_57 (k := 1) zc_X3 lx_1 rfl (by decide) rfl rfl ha0 k_74 ?_
      refine z_iload_n dX11_guests_60 0 rfl ?_
      exact z_iret dX11_guests_61 rfl rfl h10
  · refine z_iload_n dX11_guests_16 0 rfl ?_
    exact z_iret dX11_guests_17 rfl rfl h7
set_option maxRecDepth 20000 in
theorem ct_X11_partBecomes {ad sc sv : Nat → Nat} (n : Nat) (a0 : Int) (a1 : Int) (a2 : Int) (m : ZMem) (ha0 : R32 a0) (ha1 : R32 a1) (ha2 : R32 a2) : zCT LX ad sc sv M_X11_partBecomes yX11_partBecomes [.ref (ad 0), .int (mI a0), .int (mI a1), .int (mI a2)] m (F_X11_partBecomes n a0 a1 a2 m) := by
  refine zCT_of (lv := [(0, .ref (ad 0)), (1, .int (mI a0)), (2, .int (mI a1)), (3, .int (mI a2))]) (by decide) rfl (Nat.le_of_ble_eq_true rfl) rfl ?_
  unfold F_X11_partBecomes
  refine z_aload_n dX11_partBecomes_0 0 rfl ?_
  refine z_aload_n dX11_partBecomes_1 0 rfl ?_
  refine z_iload_n dX11_partBecomes_2 1 rfl ?_
  refine z_callV1 dX11_partBecomes_3 rfl (ct_X11_noPart n a0 m ha0) zc_X11 lx_0 k_438 k_440 kp_18 k_1 k_441 zn_X11_noPart ⟨rfl, rfl, Nat.le_of_ble_eq_true rfl, Nat.le_of_ble_eq_true rfl⟩ (Nat.le_of_ble_eq_true rfl) rfl (fun v1 m2 h3 ho4 => ?_)
  refine z_iconst dX11_partBecomes_6 ?_
  refine z_bipush dX11_partBecomes_7 (x := 99) (by decide +kernel) ?_
  refine z_iload_n dX11_partBecomes_9 3 rfl ?_
  refine z_callS1 dX11_partBecomes_10 rfl (ct_X11_outside n 0 99 a2 m2 (by decide) (by decide) ha2) k_236 k_237 k_1 k_238 zn_X11_outside ⟨rfl, rfl, Nat.le_of_ble_eq_true rfl, Nat.le_of_ble_eq_true rfl⟩ (Nat.le_of_ble_eq_true rfl) rfl (fun v5 m6 h7 ho8 => ?_)
  refine z_callV1 dX11_partBecomes_13 rfl (ct_X11_refused_ n v1 v5 m6 h3 h7) zc_X11 lx_0 k_255 k_257 kp_0 k_1 k_258 zn_X11_refused_ ⟨rfl, rfl, Nat.le_of_ble_eq_true rfl, Nat.le_of_ble_eq_true rfl⟩ (Nat.le_of_ble_eq_true rfl) rfl (fun v9 m10 h11 ho12 => ?_)
  refine z_istore dX11_partBecomes_16 (lv' := [(4, .int (mI v9)), (0, .ref (ad 0)), (1, .int (mI a0)), (2, .int (mI a1)), (3, .int (mI a2))]) (by decide) rfl ?_
  refine z_iload dX11_partBecomes_18 0 rfl ?_
  refine z_if_eq dX11_partBecomes_20 h11 (tgt := 28) rfl (fun h13 => ?_) (fun h13 => ?_)
  · refine z_aload_n dX11_partBecomes_28 1 rfl ?_
    refine z_getR dX11_partBecomes_29 (k := 0) (j := 1) zc_X11 lx_0 rfl (by decide) k_195 ?_
    refine z_getR dX11_partBecomes_32 (k := 4) (j := 2) zc_X3 lx_1 rfl (by decide) k_84 ?_
    refine z_iload_n dX11_partBecomes_35 2 rfl ?_
    refine z_iload_n dX11_partBecomes_36 3 rfl ?_
    refine z_iload_n dX11_partBecomes_37 4 rfl ?_
    refine z_callV1 dX11_partBecomes_38 rfl (ct_X9_exchange n 2 zt_2 a0 a1 a2 m10 ha0 ha1 ha2) zc_X9 lx_2 k_499 k_500 k_501 k_3 k_502 zn_X9_exchange ⟨rfl, rfl, Nat.le_of_ble_eq_true rfl, Nat.le_of_ble_eq_true rfl⟩ (Nat.le_of_ble_eq_true rfl) rfl (fun v14 m15 h16 ho17 => ?_)
    exact z_iret dX11_partBecomes_41 rfl rfl h16
  · refine z_iload dX11_partBecomes_23 0 rfl ?_
    refine z_goto dX11_partBecomes_25 (tgt := 41) rfl ?_
    exact z_iret dX11_partBecomes_41 rfl rfl h11
set_option maxRecDepth 20000 in
theorem ct_X11_house {ad sc sv : Nat → Nat} (n : Nat) (a0 : Int) (a1 : Int) (m : ZMem) (ha0 : R32 a0) (ha1 : R32 a1) : zCT LX ad sc sv M_X11_house yX11_house [.ref (ad 0), .int (mI a0), .int (mI a1)] m (F_X11_house n a0 a1 m) := by
  refine zCT_of (lv := [(0, .ref (ad 0)), (1, .int (mI a0)), (2, .int (mI a1))]) (by decide) rfl (Nat.le_of_ble_eq_true rfl) rfl ?_
  unfold F_X11_house
  refine z_aload_n dX11_house_0 0 rfl ?_
  refine z_iload_n dX11_house_1 1 rfl ?_
  refine z_iconst dX11_house_2 ?_
  refine z_iload_n dX11_house_3 2 rfl ?_
  refine z_callV1 dX11_house_4 rfl (ct_X11_partBecomes n a0 4 a1 m ha0 (by decide) ha1) zc_X11 lx_0 k_495 k_497 kp_20 k_1 k_498 zn_X11_partBecomes ⟨rfl, rfl, Nat.le_of_ble_eq_true rfl, Nat.le_of_ble_eq_true rfl⟩ (Nat.le_of_ble_eq_true rfl) rfl (fun v1 m2 h3 ho4 => ?_)
  exact z_iret dX11_house_7 rfl rfl h3
set_option maxRecDepth 20000 in
theorem T_X11_set_19 {ad sc sv : Nat → Nat} (n : Nat) : ∀ (x1 : Int) (x2 : Int) (s0 : Int) (s1 : Int) (s2 : Int) (m : ZMem), R32 x1 → R32 x2 → R32 s0 → R32 s1 → R32 s2 → zG LX ad sc sv M_X11_set 19 [(0, .ref (ad 0)), (1, .int (mI x1)), (2, .int (mI x2))] [.int (mI s0), .int (mI s1), .int (mI s2), .ref (ad 0)] m (B_X11_set_19 n x1 x2 s0 s1 s2 m) := by
  intro x1 x2 s0 s1 s2 m hx1 hx2 hs0 hs1 hs2
  unfold B_X11_set_19
  refine z_iload_n dX11_set_19 2 rfl ?_
  refine z_callS1 dX11_set_20 rfl (ct_X11_outside n s1 s0 x2 m hs1 hs0 hx2) k_236 k_237 k_1 k_238 zn_X11_outside ⟨rfl, rfl, Nat.le_of_ble_eq_true rfl, Nat.le_of_ble_eq_true rfl⟩ (Nat.le_of_ble_eq_true rfl) rfl (fun v6 m7 h8 ho9 => ?_)
  refine z_callV1 dX11_set_23 rfl (ct_X11_refused_ n s2 v6 m7 hs2 h8) zc_X11 lx_0 k_255 k_257 kp_0 k_1 k_258 zn_X11_refused_ ⟨rfl, rfl, Nat.le_of_ble_eq_true rfl, Nat.le_of_ble_eq_true rfl⟩ (Nat.le_of_ble_eq_true rfl) rfl (fun v10 m11 h12 ho13 => ?_)
  refine z_istore_n dX11_set_26 (lv' := [(3, .int (mI v10)), (0, .ref (ad 0)), (1, .int (mI x1)), (2, .int (mI x2))]) (by decide) rfl ?_
  refine z_iload_n dX11_set_27 0 rfl ?_
  refine z_if_eq dX11_set_28 h12 (tgt := 33) rfl (fun h14 => ?_) (fun h14 => ?_)
  · refine z_iload_n dX11_set_33 2 rfl ?_
    refine z_if_ne dX11_set_34 hx1 (tgt := 47) rfl (fun h15 => ?_) (fun h15 => ?_)
    · refine z_aload_n dX11_set_37 1 rfl ?_
      refine z_getR dX11_set_38 (k := 0) (j := 1) zc_X11 lx_0 rfl (by decide) k_195 ?_
      refine z_getI dX11_set_41 (k := 2) zc_X3 lx_1 rfl (by decide) k_76 (fun h16 => ?_)
      refine z_goto dX11_set_44 (tgt := 54) rfl ?_
      refine z_istore dX11_set_54 (lv' := [(4, .int (mI (m11 1 2))), (3, .int (mI v10)), (0, .ref (ad 0)), (1, .int (mI x1)), (2, .int (mI x2))]) (by decide) rfl ?_
      refine z_iload_n dX11_set_56 3 rfl ?_
      refine z_if_ne dX11_set_57 hx1 (tgt := 71) rfl (fun h17 => ?_) (fun h17 => ?_)
      · refine z_aload_n dX11_set_60 2 rfl ?_
        refine z_getR dX11_set_61 (k := 0) (j := 1) zc_X11 lx_0 rfl (by decide) k_195 ?_
        refine z_iload_n dX11_set_64 4 rfl ?_
        refine z_putI dX11_set_65 (k := 2) zc_X3 lx_1 rfl (by decide) rfl rfl hx2 k_76 ?_
        refine z_goto dX11_set_68 (tgt := 79) rfl ?_
        refine z_iload dX11_set_79 0 rfl ?_
        exact z_iret dX11_set_81 rfl rfl h16
      · refine z_aload_n dX11_set_71 2 rfl ?_
        refine z_getR dX11_set_72 (k := 0) (j := 1) zc_X11 lx_0 rfl (by decide) k_195 ?_
        refine z_iload_n dX11_set_75 4 rfl ?_
        refine z_putI dX11_set_76 (k := 3) zc_X3 lx_1 rfl (by decide) rfl rfl hx2 k_79 ?_
        refine z_iload dX11_set_79 0 rfl ?_
        exact z_iret dX11_set_81 rfl rfl h16
    · refine z_aload_n dX11_set_47 1 rfl ?_
      refine z_getR dX11_set_48 (k := 0) (j := 1) zc_X11 lx_0 rfl (by decide) k_195 ?_
      refine z_getI dX11_set_51 (k := 3) zc_X3 lx_1 rfl (by decide) k_79 (fun h18 => ?_)
      refine z_istore dX11_set_54 (lv' := [(4, .int (mI (m11 1 3))), (3, .int (mI v10)), (0, .ref (ad 0)), (1, .int (mI x1)), (2, .int (mI x2))]) (by decide) rfl ?_
      refine z_iload_n dX11_set_56 3 rfl ?_
      refine z_if_ne dX11_set_57 hx1 (tgt := 71) rfl (fun h19 => ?_) (fun h19 => ?_)
      · refine z_aload_n dX11_set_60 2 rfl ?_
        refine z_getR dX11_set_61 (k := 0) (j := 1) zc_X11 lx_0 rfl (by decide) k_195 ?_
        refine z_iload_n dX11_set_64 4 rfl ?_
        refine z_putI dX11_set_65 (k := 2) zc_X3 lx_1 rfl (by decide) rfl rfl hx2 k_76 ?_
        refine z_goto dX11_set_68 (tgt := 79) rfl ?_
        refine z_iload dX11_set_79 0 rfl ?_
        exact z_iret dX11_set_81 rfl rfl h18
      · refine z_aload_n dX11_set_71 2 rfl ?_
        refine z_getR dX11_set_72 (k := 0) (j := 1) zc_X11 lx_0 rfl (by decide) k_195 ?_
        refine z_iload_n dX11_set_75 4 rfl ?_
        refine z_putI dX11_set_76 (k := 3) zc_X3 lx_1 rfl (by decide) rfl rfl hx2 k_79 ?_
        refine z_iload dX11_set_79 0 rfl ?_
        exact z_iret dX11_set_81 rfl rfl h18
  · refine z_iload_n dX11_set_31 0 rfl ?_
    exact z_iret dX11_set_32 rfl rfl h12
set_option maxRecDepth 20000 in
theorem ct_X11_set {ad sc sv : Nat → Nat} (n : Nat) (a0 : Int) (a1 : Int) (m : ZMem) (ha0 : R32 a0) (ha1 : R32 a1) : zCT LX ad sc sv M_X11_set yX11_set [.ref (ad 0), .int (mI a0), .int (mI a1)] m (F_X11_set n a0 a1 m) := by
  refine zCT_of (lv := [(0, .ref (ad 0)), (1, .int (mI a0)), (2, .int (mI a1))]) (by decide) rfl (Nat.le_of_ble_eq_true rfl) rfl ?_
  unfold F_X11_set
  refine z_aload_n dX11_set_0 0 rfl ?_
  refine z_iload_n dX11_set_1 1 rfl ?_
  refine z_iconst dX11_set_2 ?_
  refine z_callS1 dX11_set_3 rfl (ct_X11_noChoice n a0 1 m ha0 (by decide)) k_446 k_447 k_1 k_448 zn_X11_noChoice ⟨rfl, rfl, Nat.le_of_ble_eq_true rfl, Nat.le_of_ble_eq_true rfl⟩ (Nat.le_of_ble_eq_true rfl) rfl (fun v1 m2 h3 ho4 => ?_)
  refine z_iconst dX11_set_6 ?_
  refine z_iload_n dX11_set_7 1 rfl ?_
  refine z_if_ne dX11_set_8 ha0 (tgt := 17) rfl (fun h5 => ?_) (fun h5 => ?_)
  · refine z_sipush dX11_set_11 (x := 999) (by decide +kernel) ?_
    refine z_goto dX11_set_14 (tgt := 19) rfl ?_
    exact zG_lvk (T_X11_set_19 n a0 a1 999 1 v1 m2 ha0 ha1 (by decide) (by decide) h3) [0, 1, 2] rfl
  · refine z_bipush dX11_set_17 (x := 99) (by decide +kernel) ?_
    exact zG_lvk (T_X11_set_19 n a0 a1 99 1 v1 m2 ha0 ha1 (by decide) (by decide) h3) [0, 1, 2] rfl
set_option maxRecDepth 20000 in
theorem ct_X11_share {ad sc sv : Nat → Nat} (n : Nat) (a0 : Int) (a1 : Int) (a2 : Int) (m : ZMem) (ha0 : R32 a0) (ha1 : R32 a1) (ha2 : R32 a2) : zCT LX ad sc sv M_X11_share yX11_share [.ref (ad 0), .int (mI a0), .int (mI a1), .int (mI a2)] m (F_X11_share n a0 a1 a2 m) := by
  refine zCT_of (lv := [(0, .ref (ad 0)), (1, .int (mI a0)), (2, .int (mI a1)), (3, .int (mI a2))]) (by decide) rfl (Nat.le_of_ble_eq_true rfl) rfl ?_
  unfold F_X11_share
  refine z_aload_n dX11_share_0 0 rfl ?_
  refine z_aload_n dX11_share_1 0 rfl ?_
  refine z_iload_n dX11_share_2 1 rfl ?_
  refine z_callV1 dX11_share_3 rfl (ct_X11_noPart n a0 m ha0) zc_X11 lx_0 k_438 k_440 kp_18 k_1 k_441 zn_X11_noPart ⟨rfl, rfl, Nat.le_of_ble_eq_true rfl, Nat.le_of_ble_eq_true rfl⟩ (Nat.le_of_ble_eq_true rfl) rfl (fun v1 m2 h3 ho4 => ?_)
  refine z_iconst dX11_share_6 ?_
  refine z_bipush dX11_share_7 (x := 24) (by decide +kernel) ?_
  refine z_iload_n dX11_share_9 2 rfl ?_
  refine z_callS1 dX11_share_10 rfl (ct_X11_outside n 1 24 a1 m2 (by decide) (by decide) ha1) k_236 k_237 k_1 k_238 zn_X11_outside ⟨rfl, rfl, Nat.le_of_ble_eq_true rfl, Nat.le_of_ble_eq_true rfl⟩ (Nat.le_of_ble_eq_true rfl) rfl (fun v5 m6 h7 ho8 => ?_)
  refine z_iload_n dX11_share_13 3 rfl ?_
  refine z_iconst dX11_share_14 ?_
  refine z_callS1 dX11_share_15 rfl (ct_X11_noChoice n a2 1 m6 ha2 (by decide)) k_446 k_447 k_1 k_448 zn_X11_noChoice ⟨rfl, rfl, Nat.le_of_ble_eq_true rfl, Nat.le_of_ble_eq_true rfl⟩ (Nat.le_of_ble_eq_true rfl) rfl (fun v9 m10 h11 ho12 => ?_)
  refine z_callV1 dX11_share_18 rfl (ct_X11_refused n v1 v5 v9 m10 h3 h7 h11) zc_X11 lx_0 k_259 k_261 kp_1 k_1 k_262 zn_X11_refused ⟨rfl, rfl, Nat.le_of_ble_eq_true rfl, Nat.le_of_ble_eq_true rfl⟩ (Nat.le_of_ble_eq_true rfl) rfl (fun v13 m14 h15 ho16 => ?_)
  refine z_istore dX11_share_21 (lv' := [(4, .int (mI v13)), (0, .ref (ad 0)), (1, .int (mI a0)), (2, .int (mI a1)), (3, .int (mI a2))]) (by decide) rfl ?_
  refine z_iload dX11_share_23 0 rfl ?_
  refine z_if_eq dX11_share_25 h15 (tgt := 36) rfl (fun h17 => ?_) (fun h17 => ?_)
  · refine z_aload_n dX11_share_36 1 rfl ?_
    refine z_getR dX11_share_37 (k := 0) (j := 1) zc_X11 lx_0 rfl (by decide) k_195 ?_
    refine z_getR dX11_share_40 (k := 4) (j := 2) zc_X3 lx_1 rfl (by decide) k_84 ?_
    refine z_iload_n dX11_share_43 2 rfl ?_
    refine z_iconst dX11_share_44 ?_
    refine z_callV1 dX11_share_45 rfl (ct_X9_at n 2 zt_2 a0 3 m14 ha0 (by decide)) zc_X9 lx_2 k_263 k_264 k_265 k_3 k_266 zn_X9_at ⟨rfl, rfl, Nat.le_of_ble_eq_true rfl, Nat.le_of_ble_eq_true rfl⟩ (Nat.le_of_ble_eq_true rfl) rfl (fun v18 m19 h20 ho21 => ?_)
    refine z_iload_n dX11_share_48 3 rfl ?_
    refine z_imul dX11_share_49 (fun h22 => ?_)
    refine z_aload_n dX11_share_50 1 rfl ?_
    refine z_getR dX11_share_51 (k := 0) (j := 1) zc_X11 lx_0 rfl (by decide) k_195 ?_
    refine z_getI dX11_share_54 (k := 0) zc_X3 lx_1 rfl (by decide) k_67 (fun h23 => ?_)
    refine z_iload_n dX11_share_57 4 rfl ?_
    refine z_callS1 dX11_share_58 rfl (ct_X8_inLeastTerms n (v18 * a1) (m19 1 0) a2 m19 h22 h23 ha2) k_512 k_513 k_15 k_514 zn_X8_inLeastTerms ⟨rfl, rfl, Nat.le_of_ble_eq_true rfl, Nat.le_of_ble_eq_true rfl⟩ (Nat.le_of_ble_eq_true rfl) rfl (fun v24 m25 h26 ho27 => ?_)
    refine z_i2l dX11_share_61 h26 (fun h28 => ?_)
    exact z_lret dX11_share_62 rfl rfl h28
  · refine z_ldc2 dX11_share_28 (x := 4000000000000000000) k_511 ?_
    refine z_iload dX11_share_31 0 rfl ?_
    refine z_i2l dX11_share_33 h15 (fun h29 => ?_)
    refine z_lsub dX11_share_34 (fun h30 => ?_)
    exact z_lret dX11_share_35 rfl rfl h30
set_option maxRecDepth 20000 in
theorem T_X11_off_15 {ad sc sv : Nat → Nat} (n : Nat) : ∀ (x1 : Int) (x2 : Int) (s0 : Int) (m : ZMem), R32 x1 → R32 x2 → R32 s0 → zG LX ad sc sv M_X11_off 15 [(0, .ref (ad 0)), (1, .int (mI x1)), (2, .int (mI x2))] [.int (mI s0), .ref (ad 0)] m (B_X11_off_15 n x1 x2 s0 m) := by
  intro x1 x2 s0 m hx1 hx2 hs0
  unfold B_X11_off_15
  refine z_iload_n dX11_off_15 2 rfl ?_
  refine z_iconst dX11_off_16 ?_
  refine z_callS1 dX11_off_17 rfl (ct_X11_noChoice n x2 1 m hx2 (by decide)) k_446 k_447 k_1 k_448 zn_X11_noChoice ⟨rfl, rfl, Nat.le_of_ble_eq_true rfl, Nat.le_of_ble_eq_true rfl⟩ (Nat.le_of_ble_eq_true rfl) rfl (fun v6 m7 h8 ho9 => ?_)
  refine z_callV1 dX11_off_20 rfl (ct_X11_refused_ n s0 v6 m7 hs0 h8) zc_X11 lx_0 k_255 k_257 kp_0 k_1 k_258 zn_X11_refused_ ⟨rfl, rfl, Nat.le_of_ble_eq_true rfl, Nat.le_of_ble_eq_true rfl⟩ (Nat.le_of_ble_eq_true rfl) rfl (fun v10 m11 h12 ho13 => ?_)
  refine z_istore_n dX11_off_23 (lv' := [(3, .int (mI v10)), (0, .ref (ad 0)), (1, .int (mI x1)), (2, .int (mI x2))]) (by decide) rfl ?_
  refine z_iload_n dX11_off_24 0 rfl ?_
  refine z_if_eq dX11_off_25 h12 (tgt := 35) rfl (fun h14 => ?_) (fun h14 => ?_)
  · refine z_iload_n dX11_off_35 2 rfl ?_
    refine z_iconst dX11_off_36 ?_
    refine z_icmp_ne dX11_off_37 hx1 (by decide) (tgt := 57) rfl (fun h15 => ?_) (fun h15 => ?_)
    · refine z_aload_n dX11_off_40 1 rfl ?_
      refine z_getR dX11_off_41 (k := 0) (j := 1) zc_X11 lx_0 rfl (by decide) k_195 ?_
      refine z_aload_n dX11_off_44 1 rfl ?_
      refine z_getR dX11_off_45 (k := 0) (j := 1) zc_X11 lx_0 rfl (by decide) k_195 ?_
      refine z_getI dX11_off_48 (k := 1) zc_X3 lx_1 rfl (by decide) k_74 (fun h16 => ?_)
      refine z_callV1 dX11_off_51 rfl (ct_X3_allOff n (m11 1 1) m11 h16) zc_X3 lx_1 k_528 k_529 k_530 k_2 k_531 zn_X3_allOff ⟨rfl, rfl, Nat.le_of_ble_eq_true rfl, Nat.le_of_ble_eq_true rfl⟩ (Nat.le_of_ble_eq_true rfl) rfl (fun v17 m18 h19 ho20 => ?_)
      refine z_goto dX11_off_54 (tgt := 79) rfl ?_
      refine z_istore dX11_off_79 (lv' := [(4, .int (mI v17)), (3, .int (mI v10)), (0, .ref (ad 0)), (1, .int (mI x1)), (2, .int (mI x2))]) (by decide) rfl ?_
      refine z_iload dX11_off_81 0 rfl ?_
      refine z_aload_n dX11_off_83 2 rfl ?_
      refine z_getR dX11_off_84 (k := 0) (j := 1) zc_X11 lx_0 rfl (by decide) k_195 ?_
      refine z_getI dX11_off_87 (k := 0) zc_X3 lx_1 rfl (by decide) k_67 (fun h21 => ?_)
      refine z_iload_n dX11_off_90 4 rfl ?_
      refine z_callS1 dX11_off_91 rfl (ct_X8_inLeastTerms n v17 (m18 1 0) x2 m18 h19 h21 hx2) k_512 k_513 k_15 k_514 zn_X8_inLeastTerms ⟨rfl, rfl, Nat.le_of_ble_eq_true rfl, Nat.le_of_ble_eq_true rfl⟩ (Nat.le_of_ble_eq_true rfl) rfl (fun v22 m23 h24 ho25 => ?_)
      refine z_i2l dX11_off_94 h24 (fun h26 => ?_)
      exact z_lret dX11_off_95 rfl rfl h26
    · refine z_aload_n dX11_off_57 1 rfl ?_
      refine z_getR dX11_off_58 (k := 0) (j := 1) zc_X11 lx_0 rfl (by decide) k_195 ?_
      refine z_iload_n dX11_off_61 2 rfl ?_
      refine z_aload_n dX11_off_62 1 rfl ?_
      refine z_getR dX11_off_63 (k := 0) (j := 1) zc_X11 lx_0 rfl (by decide) k_195 ?_
      refine z_getI dX11_off_66 (k := 1) zc_X3 lx_1 rfl (by decide) k_74 (fun h27 => ?_)
      refine z_aload_n dX11_off_69 1 rfl ?_
      refine z_getR dX11_off_70 (k := 0) (j := 1) zc_X11 lx_0 rfl (by decide) k_195 ?_
      refine z_getI dX11_off_73 (k := 0) zc_X3 lx_1 rfl (by decide) k_67 (fun h28 => ?_)
      refine z_callV1 dX11_off_76 rfl (ct_X3_offAtCost n x1 (m11 1 1) (m11 1 0) m11 hx1 h27 h28) zc_X3 lx_1 k_541 k_534 k_535 k_2 k_536 zn_X3_offAtCost ⟨rfl, rfl, Nat.le_of_ble_eq_true rfl, Nat.le_of_ble_eq_true rfl⟩ (Nat.le_of_ble_eq_true rfl) rfl (fun v29 m30 h31 ho32 => ?_)
      refine z_istore dX11_off_79 (lv' := [(4, .int (mI v29)), (3, .int (mI v10)), (0, .ref (ad 0)), (1, .int (mI x1)), (2, .int (mI x2))]) (by decide) rfl ?_
      refine z_iload dX11_off_81 0 rfl ?_
      refine z_aload_n dX11_off_83 2 rfl ?_
      refine z_getR dX11_off_84 (k := 0) (j := 1) zc_X11 lx_0 rfl (by decide) k_195 ?_
      refine z_getI dX11_off_87 (k := 0) zc_X3 lx_1 rfl (by decide) k_67 (fun h33 => ?_)
      refine z_iload_n dX11_off_90 4 rfl ?_
      refine z_callS1 dX11_off_91 rfl (ct_X8_inLeastTerms n v29 (m30 1 0) x2 m30 h31 h33 hx2) k_512 k_513 k_15 k_514 zn_X8_inLeastTerms ⟨rfl, rfl, Nat.le_of_ble_eq_true rfl, Nat.le_of_ble_eq_true rfl⟩ (Nat.le_of_ble_eq_true rfl) rfl (fun v34 m35 h36 ho37 => ?_)
      refine z_i2l dX11_off_94 h36 (fun h38 => ?_)
      exact z_lret dX11_off_95 rfl rfl h38
  · refine z_ldc2 dX11_off_28 (x := 4000000000000000000) k_511 ?_
    refine z_iload_n dX11_off_31 0 rfl ?_
    refine z_i2l dX11_off_32 h12 (fun h39 => ?_)
    refine z_lsub dX11_off_33 (fun h40 => ?_)
    exact z_lret dX11_off_34 rfl rfl h40
set_option maxRecDepth 20000 in
theorem ct_X11_off {ad sc sv : Nat → Nat} (n : Nat) (a0 : Int) (a1 : Int) (m : ZMem) (ha0 : R32 a0) (ha1 : R32 a1) : zCT LX ad sc sv M_X11_off yX11_off [.ref (ad 0), .int (mI a0), .int (mI a1)] m (F_X11_off n a0 a1 m) := by
  refine zCT_of (lv := [(0, .ref (ad 0)), (1, .int (mI a0)), (2, .int (mI a1))]) (by decide) rfl (Nat.le_of_ble_eq_true rfl) rfl ?_
  unfold F_X11_off
  refine z_aload_n dX11_off_0 0 rfl ?_
  refine z_iload_n dX11_off_1 1 rfl ?_
  refine z_iconst dX11_off_2 ?_
  refine z_icmp_ne dX11_off_3 ha0 (by decide) (tgt := 10) rfl (fun h1 => ?_) (fun h1 => ?_)
  · refine z_iconst dX11_off_6 ?_
    refine z_goto dX11_off_7 (tgt := 15) rfl ?_
    exact zG_lvk (T_X11_off_15 n a0 a1 0 m ha0 ha1 (by decide)) [0, 1, 2] rfl
  · refine z_aload_n dX11_off_10 0 rfl ?_
    refine z_iload_n dX11_off_11 1 rfl ?_
    refine z_callV1 dX11_off_12 rfl (ct_X11_noPart n a0 m ha0) zc_X11 lx_0 k_438 k_440 kp_18 k_1 k_441 zn_X11_noPart ⟨rfl, rfl, Nat.le_of_ble_eq_true rfl, Nat.le_of_ble_eq_true rfl⟩ (Nat.le_of_ble_eq_true rfl) rfl (fun v2 m3 h4 ho5 => ?_)
    exact zG_lvk (T_X11_off_15 n a0 a1 v2 m3 ha0 ha1 h4) [0, 1, 2] rfl
set_option maxRecDepth 20000 in
theorem ct_X11_best {ad sc sv : Nat → Nat} (n : Nat) (a0 : Int) (a1 : Int) (m : ZMem) (ha0 : R32 a0) (ha1 : R32 a1) : zCT LX ad sc sv M_X11_best yX11_best [.ref (ad 0), .int (mI a0), .int (mI a1)] m (F_X11_best n a0 a1 m) := by
  refine zCT_of (lv := [(0, .ref (ad 0)), (1, .int (mI a0)), (2, .int (mI a1))]) (by decide) rfl (Nat.le_of_ble_eq_true rfl) rfl ?_
  unfold F_X11_best
  refine z_aload_n dX11_best_0 0 rfl ?_
  refine z_iconst dX11_best_1 ?_
  refine z_bipush dX11_best_2 (x := 24) (by decide +kernel) ?_
  refine z_iload_n dX11_best_4 1 rfl ?_
  refine z_iload_n dX11_best_5 2 rfl ?_
  refine z_callS1 dX11_best_6 rfl (ct_X11_either n 1 24 a0 a1 m (by decide) (by decide) ha0 ha1) k_239 k_240 k_1 k_241 zn_X11_either ⟨rfl, rfl, Nat.le_of_ble_eq_true rfl, Nat.le_of_ble_eq_true rfl⟩ (Nat.le_of_ble_eq_true rfl) rfl (fun v1 m2 h3 ho4 => ?_)
  refine z_iload_n dX11_best_9 1 rfl ?_
  refine z_iload_n dX11_best_10 2 rfl ?_
  refine z_icmp_le dX11_best_11 ha0 ha1 (tgt := 19) rfl (fun h5 => ?_) (fun h5 => ?_)
  · refine z_iconst dX11_best_19 ?_
    refine z_callV1 dX11_best_20 rfl (ct_X11_refused_ n v1 0 m2 h3 (by decide)) zc_X11 lx_0 k_255 k_257 kp_0 k_1 k_258 zn_X11_refused_ ⟨rfl, rfl, Nat.le_of_ble_eq_true rfl, Nat.le_of_ble_eq_true rfl⟩ (Nat.le_of_ble_eq_true rfl) rfl (fun v6 m7 h8 ho9 => ?_)
    refine z_istore_n dX11_best_23 (lv' := [(3, .int (mI v6)), (0, .ref (ad 0)), (1, .int (mI a0)), (2, .int (mI a1))]) (by decide) rfl ?_
    refine z_iload_n dX11_best_24 0 rfl ?_
    refine z_if_eq dX11_best_25 h8 (tgt := 32) rfl (fun h10 => ?_) (fun h10 => ?_)
    · refine z_aload_n dX11_best_32 1 rfl ?_
      refine z_getR dX11_best_33 (k := 0) (j := 1) zc_X11 lx_0 rfl (by decide) k_195 ?_
      refine z_iload_n dX11_best_36 2 rfl ?_
      refine z_iload_n dX11_best_37 3 rfl ?_
      refine z_callS1 dX11_best_38 rfl (ct_X6_leastOff n a0 a1 m7 ha0 ha1) k_546 k_547 k_16 k_548 zn_X6_leastOff ⟨rfl, rfl, Nat.le_of_ble_eq_true rfl, Nat.le_of_ble_eq_true rfl⟩ (Nat.le_of_ble_eq_true rfl) rfl (fun v11 m12 h13 ho14 => ?_)
      exact z_iret dX11_best_41 rfl rfl h13
    · refine z_iload_n dX11_best_28 0 rfl ?_
      refine z_goto dX11_best_29 (tgt := 41) rfl ?_
      exact z_iret dX11_best_41 rfl rfl h8
  · refine z_bipush dX11_best_14 (x := (-3)) (by decide +kernel) ?_
    refine z_goto dX11_best_16 (tgt := 20) rfl ?_
    refine z_callV1 dX11_best_20 rfl (ct_X11_refused_ n v1 (-3) m2 h3 (by decide)) zc_X11 lx_0 k_255 k_257 kp_0 k_1 k_258 zn_X11_refused_ ⟨rfl, rfl, Nat.le_of_ble_eq_true rfl, Nat.le_of_ble_eq_true rfl⟩ (Nat.le_of_ble_eq_true rfl) rfl (fun v15 m16 h17 ho18 => ?_)
    refine z_istore_n dX11_best_23 (lv' := [(3, .int (mI v15)), (0, .ref (ad 0)), (1, .int (mI a0)), (2, .int (mI a1))]) (by decide) rfl ?_
    refine z_iload_n dX11_best_24 0 rfl ?_
    refine z_if_eq dX11_best_25 h17 (tgt := 32) rfl (fun h19 => ?_) (fun h19 => ?_)
    · refine z_aload_n dX11_best_32 1 rfl ?_
      refine z_getR dX11_best_33 (k := 0) (j := 1) zc_X11 lx_0 rfl (by decide) k_195 ?_
      refine z_iload_n dX11_best_36 2 rfl ?_
      refine z_iload_n dX11_best_37 3 rfl ?_
      refine z_callS1 dX11_best_38 rfl (ct_X6_leastOff n a0 a1 m16 ha0 ha1) k_546 k_547 k_16 k_548 zn_X6_leastOff ⟨rfl, rfl, Nat.le_of_ble_eq_true rfl, Nat.le_of_ble_eq_true rfl⟩ (Nat.le_of_ble_eq_true rfl) rfl (fun v20 m21 h22 ho23 => ?_)
      exact z_iret dX11_best_41 rfl rfl h22
    · refine z_iload_n dX11_best_28 0 rfl ?_
      refine z_goto dX11_best_29 (tgt := 41) rfl ?_
      exact z_iret dX11_best_41 rfl rfl h17
set_option maxRecDepth 20000 in
theorem ct_X11_out {ad sc sv : Nat → Nat} (n : Nat) (a0 : Int) (m : ZMem) (ha0 : R32 a0) : zCT LX ad sc sv M_X11_out yX11_out [.ref (ad 0), .int (mI a0)] m (F_X11_out n a0 m) := by
  refine zCT_of (lv := [(0, .ref (ad 0)), (1, .int (mI a0))]) (by decide) rfl (Nat.le_of_ble_eq_true rfl) rfl ?_
  unfold F_X11_out
  refine z_aload_n dX11_out_0 0 rfl ?_
  refine z_iload_n dX11_out_1 1 rfl ?_
  refine z_iconst dX11_out_2 ?_
  refine z_icmp_ge dX11_out_3 ha0 (by decide) (tgt := 11) rfl (fun h1 => ?_) (fun h1 => ?_)
  · refine z_iconst dX11_out_11 ?_
    refine z_callV1 dX11_out_12 rfl (ct_X11_refused__ n 0 m (by decide)) zc_X11 lx_0 k_477 k_479 kp_19 k_1 k_480 zn_X11_refused__ ⟨rfl, rfl, Nat.le_of_ble_eq_true rfl, Nat.le_of_ble_eq_true rfl⟩ (Nat.le_of_ble_eq_true rfl) rfl (fun v2 m3 h4 ho5 => ?_)
    refine z_istore_n dX11_out_15 (lv' := [(2, .int (mI v2)), (0, .ref (ad 0)), (1, .int (mI a0))]) (by decide) rfl ?_
    refine z_iload_n dX11_out_16 0 rfl ?_
    refine z_if_eq dX11_out_17 h4 (tgt := 24) rfl (fun h6 => ?_) (fun h6 => ?_)
    · refine z_aload_n dX11_out_24 1 rfl ?_
      refine z_getR dX11_out_25 (k := 0) (j := 1) zc_X11 lx_0 rfl (by decide) k_195 ?_
      refine z_iload_n dX11_out_28 2 rfl ?_
      refine z_callS1 dX11_out_29 rfl (ct_X6_comesOut n a0 m3 ha0) k_554 k_555 k_16 k_556 zn_X6_comesOut ⟨rfl, rfl, Nat.le_of_ble_eq_true rfl, Nat.le_of_ble_eq_true rfl⟩ (Nat.le_of_ble_eq_true rfl) rfl (fun v7 m8 h9 ho10 => ?_)
      exact z_iret dX11_out_32 rfl rfl h9
    · refine z_iload_n dX11_out_20 0 rfl ?_
      refine z_goto dX11_out_21 (tgt := 32) rfl ?_
      exact z_iret dX11_out_32 rfl rfl h4
  · refine z_bipush dX11_out_6 (x := (-4)) (by decide +kernel) ?_
    refine z_goto dX11_out_8 (tgt := 12) rfl ?_
    refine z_callV1 dX11_out_12 rfl (ct_X11_refused__ n (-4) m (by decide)) zc_X11 lx_0 k_477 k_479 kp_19 k_1 k_480 zn_X11_refused__ ⟨rfl, rfl, Nat.le_of_ble_eq_true rfl, Nat.le_of_ble_eq_true rfl⟩ (Nat.le_of_ble_eq_true rfl) rfl (fun v11 m12 h13 ho14 => ?_)
    refine z_istore_n dX11_out_15 (lv' := [(2, .int (mI v11)), (0, .ref (ad 0)), (1, .int (mI a0))]) (by decide) rfl ?_
    refine z_iload_n dX11_out_16 0 rfl ?_
    refine z_if_eq dX11_out_17 h13 (tgt := 24) rfl (fun h15 => ?_) (fun h15 => ?_)
    · refine z_aload_n dX11_out_24 1 rfl ?_
      refine z_getR dX11_out_25 (k := 0) (j := 1) zc_X11 lx_0 rfl (by decide) k_195 ?_
      refine z_iload_n dX11_out_28 2 rfl ?_
      refine z_callS1 dX11_out_29 rfl (ct_X6_comesOut n a0 m12 ha0) k_554 k_555 k_16 k_556 zn_X6_comesOut ⟨rfl, rfl, Nat.le_of_ble_eq_true rfl, Nat.le_of_ble_eq_true rfl⟩ (Nat.le_of_ble_eq_true rfl) rfl (fun v16 m17 h18 ho19 => ?_)
      exact z_iret dX11_out_32 rfl rfl h18
    · refine z_iload_n dX11_out_20 0 rfl ?_
      refine z_goto dX11_out_21 (tgt := 32) rfl ?_
      exact z_iret dX11_out_32 rfl rfl h13
set_option maxRecDepth 20000 in
theorem T_X11_scale_21 {ad sc sv : Nat → Nat} (n : Nat) : ∀ (x1 : Int) (x2 : Int) (x3 : Int) (s0 : Int) (s1 : Int) (m : ZMem), R32 x1 → R32 x2 → R32 x3 → R32 s0 → R32 s1 → zG LX ad sc sv M_X11_scale 21 [(0, .ref (ad 0)), (1, .int (mI x1)), (2, .int (mI x2)), (3, .int (mI x3))] [.int (mI s0), .int (mI s1), .ref (ad 0)] m (B_X11_scale_21 n x1 x2 x3 s0 s1 m) := by
  intro x1 x2 x3 s0 s1 m hx1 hx2 hx3 hs0 hs1
  unfold B_X11_scale_21
  refine z_iload_n dX11_scale_21 3 rfl ?_
  refine z_iconst dX11_scale_22 ?_
  refine z_callS1 dX11_scale_23 rfl (ct_X11_noChoice n x3 2 m hx3 (by decide)) k_446 k_447 k_1 k_448 zn_X11_noChoice ⟨rfl, rfl, Nat.le_of_ble_eq_true rfl, Nat.le_of_ble_eq_true rfl⟩ (Nat.le_of_ble_eq_true rfl) rfl (fun v6 m7 h8 ho9 => ?_)
  refine z_callV1 dX11_scale_26 rfl (ct_X11_refused n s1 s0 v6 m7 hs1 hs0 h8) zc_X11 lx_0 k_259 k_261 kp_1 k_1 k_262 zn_X11_refused ⟨rfl, rfl, Nat.le_of_ble_eq_true rfl, Nat.le_of_ble_eq_true rfl⟩ (Nat.le_of_ble_eq_true rfl) rfl (fun v10 m11 h12 ho13 => ?_)
  refine z_istore dX11_scale_29 (lv' := [(4, .int (mI v10)), (0, .ref (ad 0)), (1, .int (mI x1)), (2, .int (mI x2)), (3, .int (mI x3))]) (by decide) rfl ?_
  refine z_iload dX11_scale_31 0 rfl ?_
  refine z_if_eq dX11_scale_33 h12 (tgt := 39) rfl (fun h14 => ?_) (fun h14 => ?_)
  · refine z_aload_n dX11_scale_39 1 rfl ?_
    refine z_getR dX11_scale_40 (k := 0) (j := 1) zc_X11 lx_0 rfl (by decide) k_195 ?_
    refine z_iload_n dX11_scale_43 2 rfl ?_
    refine z_iload_n dX11_scale_44 3 rfl ?_
    refine z_callS1 dX11_scale_45 rfl (ct_X6_bestScale n x1 x2 m11 hx1 hx2) k_566 k_567 k_16 k_568 zn_X6_bestScale ⟨rfl, rfl, Nat.le_of_ble_eq_true rfl, Nat.le_of_ble_eq_true rfl⟩ (Nat.le_of_ble_eq_true rfl) rfl (fun v15 m16 h17 ho18 => ?_)
    refine z_istore dX11_scale_48 (lv' := [(5, .int (mI v15)), (4, .int (mI v10)), (0, .ref (ad 0)), (1, .int (mI x1)), (2, .int (mI x2)), (3, .int (mI x3))]) (by decide) rfl ?_
    refine z_iload_n dX11_scale_50 5 rfl ?_
    refine z_if_ne dX11_scale_51 hx3 (tgt := 57) rfl (fun h19 => ?_) (fun h19 => ?_)
    · refine z_iload dX11_scale_54 0 rfl ?_
      exact z_iret dX11_scale_56 rfl rfl h17
    · refine z_aload_n dX11_scale_57 2 rfl ?_
      refine z_getR dX11_scale_58 (k := 0) (j := 1) zc_X11 lx_0 rfl (by decide) k_195 ?_
      refine z_iload dX11_scale_61 0 rfl ?_
      refine z_bipush dX11_scale_63 (x := 24) (by decide +kernel) ?_
      refine z_callV1 dX11_scale_65 rfl (ct_X3_greatestOff n v15 24 m16 h17 (by decide)) zc_X3 lx_1 k_573 k_570 k_571 k_2 k_572 zn_X3_greatestOff ⟨rfl, rfl, Nat.le_of_ble_eq_true rfl, Nat.le_of_ble_eq_true rfl⟩ (Nat.le_of_ble_eq_true rfl) rfl (fun v20 m21 h22 ho23 => ?_)
      refine z_bipush dX11_scale_68 (x := 24) (by decide +kernel) ?_
      refine z_iload_n dX11_scale_70 5 rfl ?_
      refine z_iconst dX11_scale_71 ?_
      refine z_isub dX11_scale_72 (fun h24 => ?_)
      refine z_callS1 dX11_scale_73 rfl (ct_X8_inLeastTerms n v20 24 (x3 - 1) m21 h22 (by decide) h24) k_512 k_513 k_15 k_514 zn_X8_inLeastTerms ⟨rfl, rfl, Nat.le_of_ble_eq_true rfl, Nat.le_of_ble_eq_true rfl⟩ (Nat.le_of_ble_eq_true rfl) rfl (fun v25 m26 h27 ho28 => ?_)
      exact z_iret dX11_scale_76 rfl rfl h27
  · refine z_iload dX11_scale_36 0 rfl ?_
    exact z_iret dX11_scale_38 rfl rfl h12
set_option maxRecDepth 20000 in
theorem ct_X11_scale {ad sc sv : Nat → Nat} (n : Nat) (a0 : Int) (a1 : Int) (a2 : Int) (m : ZMem) (ha0 : R32 a0) (ha1 : R32 a1) (ha2 : R32 a2) : zCT LX ad sc sv M_X11_scale yX11_scale [.ref (ad 0), .int (mI a0), .int (mI a1), .int (mI a2)] m (F_X11_scale n a0 a1 a2 m) := by
  refine zCT_of (lv := [(0, .ref (ad 0)), (1, .int (mI a0)), (2, .int (mI a1)), (3, .int (mI a2))]) (by decide) rfl (Nat.le_of_ble_eq_true rfl) rfl ?_
  unfold F_X11_scale
  refine z_aload_n dX11_scale_0 0 rfl ?_
  refine z_iconst dX11_scale_1 ?_
  refine z_sipush dX11_scale_2 (x := 240) (by decide +kernel) ?_
  refine z_iload_n dX11_scale_5 1 rfl ?_
  refine z_iload_n dX11_scale_6 2 rfl ?_
  refine z_callS1 dX11_scale_7 rfl (ct_X11_either n 1 240 a0 a1 m (by decide) (by decide) ha0 ha1) k_239 k_240 k_1 k_241 zn_X11_either ⟨rfl, rfl, Nat.le_of_ble_eq_true rfl, Nat.le_of_ble_eq_true rfl⟩ (Nat.le_of_ble_eq_true rfl) rfl (fun v1 m2 h3 ho4 => ?_)
  refine z_iload_n dX11_scale_10 1 rfl ?_
  refine z_iload_n dX11_scale_11 2 rfl ?_
  refine z_icmp_le dX11_scale_12 ha0 ha1 (tgt := 20) rfl (fun h5 => ?_) (fun h5 => ?_)
  · refine z_iconst dX11_scale_20 ?_
    exact zG_lvk (T_X11_scale_21 n a0 a1 a2 0 v1 m2 ha0 ha1 ha2 (by decide) h3) [0, 1, 2, 3] rfl
  · refine z_bipush dX11_scale_15 (x := (-3)) (by decide +kernel) ?_
    refine z_goto dX11_scale_17 (tgt := 21) rfl ?_
    exact zG_lvk (T_X11_scale_21 n a0 a1 a2 (-3) v1 m2 ha0 ha1 ha2 (by decide) h3) [0, 1, 2, 3] rfl
set_option maxRecDepth 20000 in
theorem ct_X11_tin {ad sc sv : Nat → Nat} (n : Nat) (a0 : Int) (a1 : Int) (m : ZMem) (ha0 : R32 a0) (ha1 : R32 a1) : zCT LX ad sc sv M_X11_tin yX11_tin [.ref (ad 0), .int (mI a0), .int (mI a1)] m (F_X11_tin n a0 a1 m) := by
  refine zCT_of (lv := [(0, .ref (ad 0)), (1, .int (mI a0)), (2, .int (mI a1))]) (by decide) rfl (Nat.le_of_ble_eq_true rfl) rfl ?_
  unfold F_X11_tin
  refine z_aload_n dX11_tin_0 0 rfl ?_
  refine z_aload_n dX11_tin_1 0 rfl ?_
  refine z_getR dX11_tin_2 (k := 0) (j := 1) zc_X11 lx_0 rfl (by decide) k_195 ?_
  refine z_getR dX11_tin_5 (k := 5) (j := 4) zc_X3 lx_1 rfl (by decide) k_88 ?_
  refine z_iload_n dX11_tin_8 1 rfl ?_
  refine z_callS1 dX11_tin_9 rfl (ct_X11_noSuch n 4 zt_4 a0 m ha0) k_442 k_443 k_1 k_444 zn_X11_noSuch ⟨rfl, rfl, Nat.le_of_ble_eq_true rfl, Nat.le_of_ble_eq_true rfl⟩ (Nat.le_of_ble_eq_true rfl) rfl (fun v1 m2 h3 ho4 => ?_)
  refine z_iload_n dX11_tin_12 2 rfl ?_
  refine z_iconst dX11_tin_13 ?_
  refine z_callS1 dX11_tin_14 rfl (ct_X11_noChoice n a1 3 m2 ha1 (by decide)) k_446 k_447 k_1 k_448 zn_X11_noChoice ⟨rfl, rfl, Nat.le_of_ble_eq_true rfl, Nat.le_of_ble_eq_true rfl⟩ (Nat.le_of_ble_eq_true rfl) rfl (fun v5 m6 h7 ho8 => ?_)
  refine z_callV1 dX11_tin_17 rfl (ct_X11_refused_ n v1 v5 m6 h3 h7) zc_X11 lx_0 k_255 k_257 kp_0 k_1 k_258 zn_X11_refused_ ⟨rfl, rfl, Nat.le_of_ble_eq_true rfl, Nat.le_of_ble_eq_true rfl⟩ (Nat.le_of_ble_eq_true rfl) rfl (fun v9 m10 h11 ho12 => ?_)
  refine z_istore_n dX11_tin_20 (lv' := [(3, .int (mI v9)), (0, .ref (ad 0)), (1, .int (mI a0)), (2, .int (mI a1))]) (by decide) rfl ?_
  refine z_iload_n dX11_tin_21 0 rfl ?_
  refine z_if_eq dX11_tin_22 h11 (tgt := 27) rfl (fun h13 => ?_) (fun h13 => ?_)
  · refine z_iload_n dX11_tin_27 3 rfl ?_
    refine z_iconst dX11_tin_28 ?_
    refine z_icmp_ne dX11_tin_29 ha1 (by decide) (tgt := 41) rfl (fun h14 => ?_) (fun h14 => ?_)
    · refine z_aload_n dX11_tin_32 1 rfl ?_
      refine z_getR dX11_tin_33 (k := 0) (j := 1) zc_X11 lx_0 rfl (by decide) k_195 ?_
      refine z_iload_n dX11_tin_36 2 rfl ?_
      refine z_callS1 dX11_tin_37 rfl (ct_X10_area n a0 m10 ha0) k_578 k_579 k_17 k_580 zn_X10_area ⟨rfl, rfl, Nat.le_of_ble_eq_true rfl, Nat.le_of_ble_eq_true rfl⟩ (Nat.le_of_ble_eq_true rfl) rfl (fun v15 m16 h17 ho18 => ?_)
      exact z_iret dX11_tin_40 rfl rfl h17
    · refine z_iload_n dX11_tin_41 3 rfl ?_
      refine z_iconst dX11_tin_42 ?_
      refine z_icmp_ne dX11_tin_43 ha1 (by decide) (tgt := 57) rfl (fun h19 => ?_) (fun h19 => ?_)
      · refine z_aload_n dX11_tin_46 1 rfl ?_
        refine z_getR dX11_tin_47 (k := 0) (j := 1) zc_X11 lx_0 rfl (by decide) k_195 ?_
        refine z_iload_n dX11_tin_50 2 rfl ?_
        refine z_callS1 dX11_tin_51 rfl (ct_X10_minutesIn n a0 m10 ha0) k_582 k_583 k_17 k_584 zn_X10_minutesIn ⟨rfl, rfl, Nat.le_of_ble_eq_true rfl, Nat.le_of_ble_eq_true rfl⟩ (Nat.le_of_ble_eq_true rfl) rfl (fun v20 m21 h22 ho23 => ?_)
        refine z_goto dX11_tin_54 (tgt := 69) rfl ?_
        exact z_iret dX11_tin_69 rfl rfl h22
      · refine z_aload_n dX11_tin_57 1 rfl ?_
        refine z_getR dX11_tin_58 (k := 0) (j := 1) zc_X11 lx_0 rfl (by decide) k_195 ?_
        refine z_getR dX11_tin_61 (k := 5) (j := 4) zc_X3 lx_1 rfl (by decide) k_88 ?_
        refine z_iload_n dX11_tin_64 2 rfl ?_
        refine z_iload_n dX11_tin_65 3 rfl ?_
        refine z_callV1 dX11_tin_66 rfl (ct_X9_at n 4 zt_4 a0 a1 m10 ha0 ha1) zc_X9 lx_4 k_263 k_264 k_265 k_3 k_266 zn_X9_at ⟨rfl, rfl, Nat.le_of_ble_eq_true rfl, Nat.le_of_ble_eq_true rfl⟩ (Nat.le_of_ble_eq_true rfl) rfl (fun v24 m25 h26 ho27 => ?_)
        exact z_iret dX11_tin_69 rfl rfl h26
  · refine z_iload_n dX11_tin_25 0 rfl ?_
    exact z_iret dX11_tin_26 rfl rfl h11
set_option maxRecDepth 20000 in
theorem ct_X11_deep {ad sc sv : Nat → Nat} (n : Nat) (a0 : Int) (a1 : Int) (m : ZMem) (ha0 : R32 a0) (ha1 : R32 a1) : zCT LX ad sc sv M_X11_deep yX11_deep [.ref (ad 0), .int (mI a0), .int (mI a1)] m (F_X11_deep n a0 a1 m) := by
  refine zCT_of (lv := [(0, .ref (ad 0)), (1, .int (mI a0)), (2, .int (mI a1))]) (by decide) rfl (Nat.le_of_ble_eq_true rfl) rfl ?_
  unfold F_X11_deep
  refine z_aload_n dX11_deep_0 0 rfl ?_
  refine z_aload_n dX11_deep_1 0 rfl ?_
  refine z_getR dX11_deep_2 (k := 0) (j := 1) zc_X11 lx_0 rfl (by decide) k_195 ?_
  refine z_getR dX11_deep_5 (k := 5) (j := 4) zc_X3 lx_1 rfl (by decide) k_88 ?_
  refine z_iload_n dX11_deep_8 1 rfl ?_
  refine z_callS1 dX11_deep_9 rfl (ct_X11_noSuch n 4 zt_4 a0 m ha0) k_442 k_443 k_1 k_444 zn_X11_noSuch ⟨rfl, rfl, Nat.le_of_ble_eq_true rfl, Nat.le_of_ble_eq_true rfl⟩ (Nat.le_of_ble_eq_true rfl) rfl (fun v1 m2 h3 ho4 => ?_)
  refine z_iload_n dX11_deep_12 2 rfl ?_
  refine z_iconst dX11_deep_13 ?_
  refine z_callS1 dX11_deep_14 rfl (ct_X11_noChoice n a1 1 m2 ha1 (by decide)) k_446 k_447 k_1 k_448 zn_X11_noChoice ⟨rfl, rfl, Nat.le_of_ble_eq_true rfl, Nat.le_of_ble_eq_true rfl⟩ (Nat.le_of_ble_eq_true rfl) rfl (fun v5 m6 h7 ho8 => ?_)
  refine z_callV1 dX11_deep_17 rfl (ct_X11_refused_ n v1 v5 m6 h3 h7) zc_X11 lx_0 k_255 k_257 kp_0 k_1 k_258 zn_X11_refused_ ⟨rfl, rfl, Nat.le_of_ble_eq_true rfl, Nat.le_of_ble_eq_true rfl⟩ (Nat.le_of_ble_eq_true rfl) rfl (fun v9 m10 h11 ho12 => ?_)
  refine z_istore_n dX11_deep_20 (lv' := [(3, .int (mI v9)), (0, .ref (ad 0)), (1, .int (mI a0)), (2, .int (mI a1))]) (by decide) rfl ?_
  refine z_iload_n dX11_deep_21 0 rfl ?_
  refine z_if_eq dX11_deep_22 h11 (tgt := 32) rfl (fun h13 => ?_) (fun h13 => ?_)
  · refine z_bipush dX11_deep_32 (x := 14) (by decide +kernel) ?_
    refine z_aload_n dX11_deep_34 1 rfl ?_
    refine z_getR dX11_deep_35 (k := 0) (j := 1) zc_X11 lx_0 rfl (by decide) k_195 ?_
    refine z_getI dX11_deep_38 (k := 2) zc_X3 lx_1 rfl (by decide) k_76 (fun h14 => ?_)
    refine z_imul dX11_deep_41 (fun h15 => ?_)
    refine z_aload_n dX11_deep_42 1 rfl ?_
    refine z_getR dX11_deep_43 (k := 0) (j := 1) zc_X11 lx_0 rfl (by decide) k_195 ?_
    refine z_getI dX11_deep_46 (k := 1) zc_X3 lx_1 rfl (by decide) k_74 (fun h16 => ?_)
    refine z_imul dX11_deep_49 (fun h17 => ?_)
    refine z_istore dX11_deep_50 (lv' := [(4, .int (mI ((14 * (m10 1 2)) * (m10 1 1)))), (3, .int (mI v9)), (0, .ref (ad 0)), (1, .int (mI a0)), (2, .int (mI a1))]) (by decide) rfl ?_
    refine z_iload dX11_deep_52 0 rfl ?_
    refine z_aload_n dX11_deep_54 2 rfl ?_
    refine z_getR dX11_deep_55 (k := 0) (j := 1) zc_X11 lx_0 rfl (by decide) k_195 ?_
    refine z_getI dX11_deep_58 (k := 0) zc_X3 lx_1 rfl (by decide) k_67 (fun h18 => ?_)
    refine z_aload_n dX11_deep_61 2 rfl ?_
    refine z_getR dX11_deep_62 (k := 0) (j := 1) zc_X11 lx_0 rfl (by decide) k_195 ?_
    refine z_iload_n dX11_deep_65 3 rfl ?_
    refine z_callS1 dX11_deep_66 rfl (ct_X10_area n a0 m10 ha0) k_578 k_579 k_17 k_580 zn_X10_area ⟨rfl, rfl, Nat.le_of_ble_eq_true rfl, Nat.le_of_ble_eq_true rfl⟩ (Nat.le_of_ble_eq_true rfl) rfl (fun v19 m20 h21 ho22 => ?_)
    refine z_imul dX11_deep_69 (fun h23 => ?_)
    refine z_iload_n dX11_deep_70 4 rfl ?_
    refine z_callS1 dX11_deep_71 rfl (ct_X8_inLeastTerms n ((14 * (m10 1 2)) * (m10 1 1)) ((m10 1 0) * v19) a1 m20 h17 h23 ha1) k_512 k_513 k_15 k_514 zn_X8_inLeastTerms ⟨rfl, rfl, Nat.le_of_ble_eq_true rfl, Nat.le_of_ble_eq_true rfl⟩ (Nat.le_of_ble_eq_true rfl) rfl (fun v24 m25 h26 ho27 => ?_)
    refine z_i2l dX11_deep_74 h26 (fun h28 => ?_)
    exact z_lret dX11_deep_75 rfl rfl h28
  · refine z_ldc2 dX11_deep_25 (x := 4000000000000000000) k_511 ?_
    refine z_iload_n dX11_deep_28 0 rfl ?_
    refine z_i2l dX11_deep_29 h11 (fun h29 => ?_)
    refine z_lsub dX11_deep_30 (fun h30 => ?_)
    exact z_lret dX11_deep_31 rfl rfl h30
set_option maxRecDepth 20000 in
theorem ct_X11_tinFor {ad sc sv : Nat → Nat} (n : Nat) (m : ZMem) : zCT LX ad sc sv M_X11_tinFor yX11_tinFor [.ref (ad 0)] m (F_X11_tinFor n m) := by
  refine zCT_of (lv := [(0, .ref (ad 0))]) (by decide) rfl (Nat.le_of_ble_eq_true rfl) rfl ?_
  unfold F_X11_tinFor
  refine z_aload_n dX11_tinFor_0 0 rfl ?_
  refine z_getR dX11_tinFor_1 (k := 0) (j := 1) zc_X11 lx_0 rfl (by decide) k_195 ?_
  refine z_callS1 dX11_tinFor_4 rfl (ct_X10_nearestTin n m) k_597 k_598 k_17 k_599 zn_X10_nearestTin ⟨rfl, rfl, Nat.le_of_ble_eq_true rfl, Nat.le_of_ble_eq_true rfl⟩ (Nat.le_of_ble_eq_true rfl) rfl (fun v1 m2 h3 ho4 => ?_)
  exact z_iret dX11_tinFor_7 rfl rfl h3
set_option maxRecDepth 20000 in
theorem ct_X11_enough {ad sc sv : Nat → Nat} (n : Nat) (m : ZMem) : zCT LX ad sc sv M_X11_enough yX11_enough [.ref (ad 0)] m (F_X11_enough n m) := by
  refine zCT_of (lv := [(0, .ref (ad 0))]) (by decide) rfl (Nat.le_of_ble_eq_true rfl) rfl ?_
  unfold F_X11_enough
  refine z_aload_n dX11_enough_0 0 rfl ?_
  refine z_getR dX11_enough_1 (k := 0) (j := 1) zc_X11 lx_0 rfl (by decide) k_195 ?_
  refine z_callS1 dX11_enough_4 rfl (ct_X6_mostFed n m) k_612 k_613 k_16 k_614 zn_X6_mostFed ⟨rfl, rfl, Nat.le_of_ble_eq_true rfl, Nat.le_of_ble_eq_true rfl⟩ (Nat.le_of_ble_eq_true rfl) rfl (fun v1 m2 h3 ho4 => ?_)
  exact z_iret dX11_enough_7 rfl rfl h3
set_option maxRecDepth 20000 in
theorem ct_X11_lacks {ad sc sv : Nat → Nat} (n : Nat) (m : ZMem) : zCT LX ad sc sv M_X11_lacks yX11_lacks [.ref (ad 0)] m (F_X11_lacks n m) := by
  refine zCT_of (lv := [(0, .ref (ad 0))]) (by decide) rfl (Nat.le_of_ble_eq_true rfl) rfl ?_
  unfold F_X11_lacks
  refine z_aload_n dX11_lacks_0 0 rfl ?_
  refine z_getR dX11_lacks_1 (k := 0) (j := 1) zc_X11 lx_0 rfl (by decide) k_195 ?_
  refine z_callS1 dX11_lacks_4 rfl (ct_X7_lackingParts n m) k_627 k_628 k_6 k_629 zn_X7_lackingParts ⟨rfl, rfl, Nat.le_of_ble_eq_true rfl, Nat.le_of_ble_eq_true rfl⟩ (Nat.le_of_ble_eq_true rfl) rfl (fun v1 m2 h3 ho4 => ?_)
  exact z_iret dX11_lacks_7 rfl rfl h3
set_option maxRecDepth 20000 in
theorem ct_X11_standIn {ad sc sv : Nat → Nat} (n : Nat) (a0 : Int) (a1 : Int) (m : ZMem) (ha0 : R32 a0) (ha1 : R32 a1) : zCT LX ad sc sv M_X11_standIn yX11_standIn [.ref (ad 0), .int (mI a0), .int (mI a1)] m (F_X11_standIn n a0 a1 m) := by
  refine zCT_of (lv := [(0, .ref (ad 0)), (1, .int (mI a0)), (2, .int (mI a1))]) (by decide) rfl (Nat.le_of_ble_eq_true rfl) rfl ?_
  unfold F_X11_standIn
  refine z_aload_n dX11_standIn_0 0 rfl ?_
  refine z_aload_n dX11_standIn_1 0 rfl ?_
  refine z_getR dX11_standIn_2 (k := 0) (j := 1) zc_X11 lx_0 rfl (by decide) k_195 ?_
  refine z_getR dX11_standIn_5 (k := 6) (j := 6) zc_X3 lx_1 rfl (by decide) k_92 ?_
  refine z_iload_n dX11_standIn_8 1 rfl ?_
  refine z_callS1 dX11_standIn_9 rfl (ct_X11_noSuch n 6 zt_6 a0 m ha0) k_442 k_443 k_1 k_444 zn_X11_noSuch ⟨rfl, rfl, Nat.le_of_ble_eq_true rfl, Nat.le_of_ble_eq_true rfl⟩ (Nat.le_of_ble_eq_true rfl) rfl (fun v1 m2 h3 ho4 => ?_)
  refine z_iload_n dX11_standIn_12 2 rfl ?_
  refine z_iconst dX11_standIn_13 ?_
  refine z_callS1 dX11_standIn_14 rfl (ct_X11_noChoice n a1 4 m2 ha1 (by decide)) k_446 k_447 k_1 k_448 zn_X11_noChoice ⟨rfl, rfl, Nat.le_of_ble_eq_true rfl, Nat.le_of_ble_eq_true rfl⟩ (Nat.le_of_ble_eq_true rfl) rfl (fun v5 m6 h7 ho8 => ?_)
  refine z_callV1 dX11_standIn_17 rfl (ct_X11_refused_ n v1 v5 m6 h3 h7) zc_X11 lx_0 k_255 k_257 kp_0 k_1 k_258 zn_X11_refused_ ⟨rfl, rfl, Nat.le_of_ble_eq_true rfl, Nat.le_of_ble_eq_true rfl⟩ (Nat.le_of_ble_eq_true rfl) rfl (fun v9 m10 h11 ho12 => ?_)
  refine z_istore_n dX11_standIn_20 (lv' := [(3, .int (mI v9)), (0, .ref (ad 0)), (1, .int (mI a0)), (2, .int (mI a1))]) (by decide) rfl ?_
  refine z_iload_n dX11_standIn_21 0 rfl ?_
  refine z_if_eq dX11_standIn_22 h11 (tgt := 29) rfl (fun h13 => ?_) (fun h13 => ?_)
  · refine z_aload_n dX11_standIn_29 1 rfl ?_
    refine z_getR dX11_standIn_30 (k := 0) (j := 1) zc_X11 lx_0 rfl (by decide) k_195 ?_
    refine z_getR dX11_standIn_33 (k := 6) (j := 6) zc_X3 lx_1 rfl (by decide) k_92 ?_
    refine z_iload_n dX11_standIn_36 2 rfl ?_
    refine z_iload_n dX11_standIn_37 3 rfl ?_
    refine z_callV1 dX11_standIn_38 rfl (ct_X9_at n 6 zt_6 a0 a1 m10 ha0 ha1) zc_X9 lx_6 k_263 k_264 k_265 k_3 k_266 zn_X9_at ⟨rfl, rfl, Nat.le_of_ble_eq_true rfl, Nat.le_of_ble_eq_true rfl⟩ (Nat.le_of_ble_eq_true rfl) rfl (fun v14 m15 h16 ho17 => ?_)
    exact z_iret dX11_standIn_41 rfl rfl h16
  · refine z_iload_n dX11_standIn_25 0 rfl ?_
    refine z_goto dX11_standIn_26 (tgt := 41) rfl ?_
    exact z_iret dX11_standIn_41 rfl rfl h11
set_option maxRecDepth 20000 in
theorem ct_X11_stead {ad sc sv : Nat → Nat} (n : Nat) (a0 : Int) (m : ZMem) (ha0 : R32 a0) : zCT LX ad sc sv M_X11_stead yX11_stead [.ref (ad 0), .int (mI a0)] m (F_X11_stead n a0 m) := by
  refine zCT_of (lv := [(0, .ref (ad 0)), (1, .int (mI a0))]) (by decide) rfl (Nat.le_of_ble_eq_true rfl) rfl ?_
  unfold F_X11_stead
  refine z_aload_n dX11_stead_0 0 rfl ?_
  refine z_aload_n dX11_stead_1 0 rfl ?_
  refine z_iload_n dX11_stead_2 1 rfl ?_
  refine z_callV1 dX11_stead_3 rfl (ct_X11_noPart n a0 m ha0) zc_X11 lx_0 k_438 k_440 kp_18 k_1 k_441 zn_X11_noPart ⟨rfl, rfl, Nat.le_of_ble_eq_true rfl, Nat.le_of_ble_eq_true rfl⟩ (Nat.le_of_ble_eq_true rfl) rfl (fun v1 m2 h3 ho4 => ?_)
  refine z_callV1 dX11_stead_6 rfl (ct_X11_refused__ n v1 m2 h3) zc_X11 lx_0 k_477 k_479 kp_19 k_1 k_480 zn_X11_refused__ ⟨rfl, rfl, Nat.le_of_ble_eq_true rfl, Nat.le_of_ble_eq_true rfl⟩ (Nat.le_of_ble_eq_true rfl) rfl (fun v5 m6 h7 ho8 => ?_)
  refine z_istore_n dX11_stead_9 (lv' := [(2, .int (mI v5)), (0, .ref (ad 0)), (1, .int (mI a0))]) (by decide) rfl ?_
  refine z_iload_n dX11_stead_10 0 rfl ?_
  refine z_if_eq dX11_stead_11 h7 (tgt := 18) rfl (fun h9 => ?_) (fun h9 => ?_)
  · refine z_aload_n dX11_stead_18 1 rfl ?_
    refine z_getR dX11_stead_19 (k := 8) (j := 51) zc_X11 lx_0 rfl (by decide) k_203 ?_
    refine z_aload_n dX11_stead_22 1 rfl ?_
    refine z_getR dX11_stead_23 (k := 0) (j := 1) zc_X11 lx_0 rfl (by decide) k_195 ?_
    refine z_iload_n dX11_stead_26 2 rfl ?_
    refine z_callV1 dX11_stead_27 rfl (ct_X7_leastLoss n a0 m6 ha0) zc_X7 lx_51 k_645 k_646 k_647 k_6 k_648 zn_X7_leastLoss ⟨rfl, rfl, Nat.le_of_ble_eq_true rfl, Nat.le_of_ble_eq_true rfl⟩ (Nat.le_of_ble_eq_true rfl) rfl (fun v10 m11 h12 ho13 => ?_)
    exact z_iret dX11_stead_30 rfl rfl h12
  · refine z_iload_n dX11_stead_14 0 rfl ?_
    refine z_goto dX11_stead_15 (tgt := 30) rfl ?_
    exact z_iret dX11_stead_30 rfl rfl h7
set_option maxRecDepth 20000 in
theorem ct_X11_cup {ad sc sv : Nat → Nat} (n : Nat) (a0 : Int) (a1 : Int) (m : ZMem) (ha0 : R32 a0) (ha1 : R32 a1) : zCT LX ad sc sv M_X11_cup yX11_cup [.ref (ad 0), .int (mI a0), .int (mI a1)] m (F_X11_cup n a0 a1 m) := by
  refine zCT_of (lv := [(0, .ref (ad 0)), (1, .int (mI a0)), (2, .int (mI a1))]) (by decide) rfl (Nat.le_of_ble_eq_true rfl) rfl ?_
  unfold F_X11_cup
  refine z_aload_n dX11_cup_0 0 rfl ?_
  refine z_aload_n dX11_cup_1 0 rfl ?_
  refine z_getR dX11_cup_2 (k := 0) (j := 1) zc_X11 lx_0 rfl (by decide) k_195 ?_
  refine z_getR dX11_cup_5 (k := 7) (j := 8) zc_X3 lx_1 rfl (by decide) k_95 ?_
  refine z_iload_n dX11_cup_8 1 rfl ?_
  refine z_callS1 dX11_cup_9 rfl (ct_X11_noSuch n 8 zt_8 a0 m ha0) k_442 k_443 k_1 k_444 zn_X11_noSuch ⟨rfl, rfl, Nat.le_of_ble_eq_true rfl, Nat.le_of_ble_eq_true rfl⟩ (Nat.le_of_ble_eq_true rfl) rfl (fun v1 m2 h3 ho4 => ?_)
  refine z_iconst dX11_cup_12 ?_
  refine z_bipush dX11_cup_13 (x := 12) (by decide +kernel) ?_
  refine z_iload_n dX11_cup_15 2 rfl ?_
  refine z_callS1 dX11_cup_16 rfl (ct_X11_outside n 0 12 a1 m2 (by decide) (by decide) ha1) k_236 k_237 k_1 k_238 zn_X11_outside ⟨rfl, rfl, Nat.le_of_ble_eq_true rfl, Nat.le_of_ble_eq_true rfl⟩ (Nat.le_of_ble_eq_true rfl) rfl (fun v5 m6 h7 ho8 => ?_)
  refine z_callV1 dX11_cup_19 rfl (ct_X11_refused_ n v1 v5 m6 h3 h7) zc_X11 lx_0 k_255 k_257 kp_0 k_1 k_258 zn_X11_refused_ ⟨rfl, rfl, Nat.le_of_ble_eq_true rfl, Nat.le_of_ble_eq_true rfl⟩ (Nat.le_of_ble_eq_true rfl) rfl (fun v9 m10 h11 ho12 => ?_)
  refine z_istore_n dX11_cup_22 (lv' := [(3, .int (mI v9)), (0, .ref (ad 0)), (1, .int (mI a0)), (2, .int (mI a1))]) (by decide) rfl ?_
  refine z_iload_n dX11_cup_23 0 rfl ?_
  refine z_if_eq dX11_cup_24 h11 (tgt := 31) rfl (fun h13 => ?_) (fun h13 => ?_)
  · refine z_aload_n dX11_cup_31 1 rfl ?_
    refine z_getR dX11_cup_32 (k := 0) (j := 1) zc_X11 lx_0 rfl (by decide) k_195 ?_
    refine z_getR dX11_cup_35 (k := 7) (j := 8) zc_X3 lx_1 rfl (by decide) k_95 ?_
    refine z_iload_n dX11_cup_38 2 rfl ?_
    refine z_iconst dX11_cup_39 ?_
    refine z_iload_n dX11_cup_40 3 rfl ?_
    refine z_callV1 dX11_cup_41 rfl (ct_X9_exchange n 8 zt_8 a0 0 a1 m10 ha0 (by decide) ha1) zc_X9 lx_8 k_499 k_500 k_501 k_3 k_502 zn_X9_exchange ⟨rfl, rfl, Nat.le_of_ble_eq_true rfl, Nat.le_of_ble_eq_true rfl⟩ (Nat.le_of_ble_eq_true rfl) rfl (fun v14 m15 h16 ho17 => ?_)
    exact z_iret dX11_cup_44 rfl rfl h16
  · refine z_iload_n dX11_cup_27 0 rfl ?_
    refine z_goto dX11_cup_28 (tgt := 44) rfl ?_
    exact z_iret dX11_cup_44 rfl rfl h11
set_option maxRecDepth 20000 in
theorem ct_X11_pours {ad sc sv : Nat → Nat} (n : Nat) (a0 : Int) (m : ZMem) (ha0 : R32 a0) : zCT LX ad sc sv M_X11_pours yX11_pours [.ref (ad 0), .int (mI a0)] m (F_X11_pours n a0 m) := by
  refine zCT_of (lv := [(0, .ref (ad 0)), (1, .int (mI a0))]) (by decide) rfl (Nat.le_of_ble_eq_true rfl) rfl ?_
  unfold F_X11_pours
  refine z_aload_n dX11_pours_0 0 rfl ?_
  refine z_iconst dX11_pours_1 ?_
  refine z_bipush dX11_pours_2 (x := 12) (by decide +kernel) ?_
  refine z_iload_n dX11_pours_4 1 rfl ?_
  refine z_callS1 dX11_pours_5 rfl (ct_X11_outside n 1 12 a0 m (by decide) (by decide) ha0) k_236 k_237 k_1 k_238 zn_X11_outside ⟨rfl, rfl, Nat.le_of_ble_eq_true rfl, Nat.le_of_ble_eq_true rfl⟩ (Nat.le_of_ble_eq_true rfl) rfl (fun v1 m2 h3 ho4 => ?_)
  refine z_callV1 dX11_pours_8 rfl (ct_X11_refused__ n v1 m2 h3) zc_X11 lx_0 k_477 k_479 kp_19 k_1 k_480 zn_X11_refused__ ⟨rfl, rfl, Nat.le_of_ble_eq_true rfl, Nat.le_of_ble_eq_true rfl⟩ (Nat.le_of_ble_eq_true rfl) rfl (fun v5 m6 h7 ho8 => ?_)
  refine z_istore_n dX11_pours_11 (lv' := [(2, .int (mI v5)), (0, .ref (ad 0)), (1, .int (mI a0))]) (by decide) rfl ?_
  refine z_iload_n dX11_pours_12 0 rfl ?_
  refine z_if_eq dX11_pours_13 h7 (tgt := 20) rfl (fun h9 => ?_) (fun h9 => ?_)
  · refine z_aload_n dX11_pours_20 1 rfl ?_
    refine z_getR dX11_pours_21 (k := 9) (j := 54) zc_X11 lx_0 rfl (by decide) k_204 ?_
    refine z_aload_n dX11_pours_24 1 rfl ?_
    refine z_getR dX11_pours_25 (k := 0) (j := 1) zc_X11 lx_0 rfl (by decide) k_195 ?_
    refine z_getR dX11_pours_28 (k := 7) (j := 8) zc_X3 lx_1 rfl (by decide) k_95 ?_
    refine z_iload_n dX11_pours_31 2 rfl ?_
    refine z_callV1 dX11_pours_32 rfl (ct_X5_fewestTo n a0 m6 ha0) zc_X5 lx_54 k_675 k_676 k_677 k_7 k_678 zn_X5_fewestTo ⟨rfl, rfl, Nat.le_of_ble_eq_true rfl, Nat.le_of_ble_eq_true rfl⟩ (Nat.le_of_ble_eq_true rfl) rfl (fun v10 m11 h12 ho13 => ?_)
    exact z_iret dX11_pours_35 rfl rfl h12
  · refine z_iload_n dX11_pours_16 0 rfl ?_
    refine z_goto dX11_pours_17 (tgt := 35) rfl ?_
    exact z_iret dX11_pours_35 rfl rfl h7
set_option maxRecDepth 20000 in
theorem ct_X11_each {ad sc sv : Nat → Nat} (n : Nat) (a0 : Int) (a1 : Int) (a2 : Int) (a3 : Int) (m : ZMem) (ha0 : R32 a0) (ha1 : R32 a1) (ha2 : R32 a2) (ha3 : R32 a3) : zCT LX ad sc sv M_X11_each yX11_each [.int (mI a0), .int (mI a1), .int (mI a2), .int (mI a3)] m (F_X11_each n a0 a1 a2 a3 m) := by
  refine zCT_of (lv := [(0, .int (mI a0)), (1, .int (mI a1)), (2, .int (mI a2)), (3, .int (mI a3))]) (by decide) rfl (Nat.le_of_ble_eq_true rfl) rfl ?_
  unfold F_X11_each
  refine z_iconst dX11_each_0 ?_
  refine z_iload_n dX11_each_1 0 rfl ?_
  refine z_iload_n dX11_each_2 1 rfl ?_
  refine z_iload_n dX11_each_3 2 rfl ?_
  refine z_iload_n dX11_each_4 3 rfl ?_
  refine z_mmin dX11_each_5 ha2 ha3 k_242 k_62 k_4 k_63 (Nat.le_of_ble_eq_true rfl) (Nat.le_of_ble_eq_true rfl) (fun h1 => ?_)
  refine z_mmin dX11_each_8 ha1 h1 k_242 k_62 k_4 k_63 (Nat.le_of_ble_eq_true rfl) (Nat.le_of_ble_eq_true rfl) (fun h2 => ?_)
  refine z_iload_n dX11_each_11 1 rfl ?_
  refine z_iload_n dX11_each_12 2 rfl ?_
  refine z_iload_n dX11_each_13 3 rfl ?_
  refine z_mmax dX11_each_14 ha2 ha3 k_243 k_41 k_4 k_42 (Nat.le_of_ble_eq_true rfl) (Nat.le_of_ble_eq_true rfl) (fun h3 => ?_)
  refine z_mmax dX11_each_17 ha1 h3 k_243 k_41 k_4 k_42 (Nat.le_of_ble_eq_true rfl) (Nat.le_of_ble_eq_true rfl) (fun h4 => ?_)
  refine z_callS1 dX11_each_20 rfl (ct_X11_either n 0 a0 (min a1 (min a2 a3)) (max a1 (max a2 a3)) m (by decide) ha0 h2 h4) k_239 k_240 k_1 k_241 zn_X11_either ⟨rfl, rfl, Nat.le_of_ble_eq_true rfl, Nat.le_of_ble_eq_true rfl⟩ (Nat.le_of_ble_eq_true rfl) rfl (fun v5 m6 h7 ho8 => ?_)
  exact z_iret dX11_each_23 rfl rfl h7
set_option maxRecDepth 20000 in
theorem ct_X11_steps {ad sc sv : Nat → Nat} (n : Nat) (a0 : Int) (a1 : Int) (a2 : Int) (m : ZMem) (ha0 : R32 a0) (ha1 : R32 a1) (ha2 : R32 a2) : zCT LX ad sc sv M_X11_steps yX11_steps [.ref (ad 0), .int (mI a0), .int (mI a1), .int (mI a2)] m (F_X11_steps n a0 a1 a2 m) := by
  refine zCT_of (lv := [(0, .ref (ad 0)), (1, .int (mI a0)), (2, .int (mI a1)), (3, .int (mI a2))]) (by decide) rfl (Nat.le_of_ble_eq_true rfl) rfl ?_
  unfold F_X11_steps
  refine z_aload_n dX11_steps_0 0 rfl ?_
  refine z_bipush dX11_steps_1 (x := 12) (by decide +kernel) ?_
  refine z_iload_n dX11_steps_3 1 rfl ?_
  refine z_iload_n dX11_steps_4 2 rfl ?_
  refine z_iload_n dX11_steps_5 3 rfl ?_
  refine z_callS1 dX11_steps_6 rfl (ct_X11_each n 12 a0 a1 a2 m (by decide) ha0 ha1 ha2) k_716 k_717 k_1 k_718 zn_X11_each ⟨rfl, rfl, Nat.le_of_ble_eq_true rfl, Nat.le_of_ble_eq_true rfl⟩ (Nat.le_of_ble_eq_true rfl) rfl (fun v1 m2 h3 ho4 => ?_)
  refine z_callV1 dX11_steps_9 rfl (ct_X11_refused__ n v1 m2 h3) zc_X11 lx_0 k_477 k_479 kp_19 k_1 k_480 zn_X11_refused__ ⟨rfl, rfl, Nat.le_of_ble_eq_true rfl, Nat.le_of_ble_eq_true rfl⟩ (Nat.le_of_ble_eq_true rfl) rfl (fun v5 m6 h7 ho8 => ?_)
  refine z_istore dX11_steps_12 (lv' := [(4, .int (mI v5)), (0, .ref (ad 0)), (1, .int (mI a0)), (2, .int (mI a1)), (3, .int (mI a2))]) (by decide) rfl ?_
  refine z_iload dX11_steps_14 0 rfl ?_
  refine z_if_eq dX11_steps_16 h7 (tgt := 24) rfl (fun h9 => ?_) (fun h9 => ?_)
  · refine z_aload_n dX11_steps_24 1 rfl ?_
    refine z_getR dX11_steps_25 (k := 9) (j := 54) zc_X11 lx_0 rfl (by decide) k_204 ?_
    refine z_aload_n dX11_steps_28 1 rfl ?_
    refine z_getR dX11_steps_29 (k := 0) (j := 1) zc_X11 lx_0 rfl (by decide) k_195 ?_
    refine z_getR dX11_steps_32 (k := 7) (j := 8) zc_X3 lx_1 rfl (by decide) k_95 ?_
    refine z_iload_n dX11_steps_35 2 rfl ?_
    refine z_iload_n dX11_steps_36 3 rfl ?_
    refine z_iload_n dX11_steps_37 4 rfl ?_
    refine z_callV1 dX11_steps_38 rfl (ct_X5_fewestToAll n a0 a1 a2 m6 ha0 ha1 ha2) zc_X5 lx_54 k_719 k_720 k_721 k_7 k_722 zn_X5_fewestToAll ⟨rfl, rfl, Nat.le_of_ble_eq_true rfl, Nat.le_of_ble_eq_true rfl⟩ (Nat.le_of_ble_eq_true rfl) rfl (fun v10 m11 h12 ho13 => ?_)
    exact z_iret dX11_steps_41 rfl rfl h12
  · refine z_iload dX11_steps_19 0 rfl ?_
    refine z_goto dX11_steps_21 (tgt := 41) rfl ?_
    exact z_iret dX11_steps_41 rfl rfl h7
set_option maxRecDepth 20000 in
theorem ct_X11_mistake {ad sc sv : Nat → Nat} (n : Nat) (a0 : Int) (a1 : Int) (m : ZMem) (ha0 : R32 a0) (ha1 : R32 a1) : zCT LX ad sc sv M_X11_mistake yX11_mistake [.ref (ad 0), .int (mI a0), .int (mI a1)] m (F_X11_mistake n a0 a1 m) := by
  refine zCT_of (lv := [(0, .ref (ad 0)), (1, .int (mI a0)), (2, .int (mI a1))]) (by decide) rfl (Nat.le_of_ble_eq_true rfl) rfl ?_
  unfold F_X11_mistake
  refine z_aload_n dX11_mistake_0 0 rfl ?_
  refine z_aload_n dX11_mistake_1 0 rfl ?_
  refine z_iload_n dX11_mistake_2 1 rfl ?_
  refine z_callV1 dX11_mistake_3 rfl (ct_X11_noPart n a0 m ha0) zc_X11 lx_0 k_438 k_440 kp_18 k_1 k_441 zn_X11_noPart ⟨rfl, rfl, Nat.le_of_ble_eq_true rfl, Nat.le_of_ble_eq_true rfl⟩ (Nat.le_of_ble_eq_true rfl) rfl (fun v1 m2 h3 ho4 => ?_)
  refine z_iconst dX11_mistake_6 ?_
  refine z_sipush dX11_mistake_7 (x := 999) (by decide +kernel) ?_
  refine z_iload_n dX11_mistake_10 2 rfl ?_
  refine z_callS1 dX11_mistake_11 rfl (ct_X11_outside n 0 999 a1 m2 (by decide) (by decide) ha1) k_236 k_237 k_1 k_238 zn_X11_outside ⟨rfl, rfl, Nat.le_of_ble_eq_true rfl, Nat.le_of_ble_eq_true rfl⟩ (Nat.le_of_ble_eq_true rfl) rfl (fun v5 m6 h7 ho8 => ?_)
  refine z_callV1 dX11_mistake_14 rfl (ct_X11_refused_ n v1 v5 m6 h3 h7) zc_X11 lx_0 k_255 k_257 kp_0 k_1 k_258 zn_X11_refused_ ⟨rfl, rfl, Nat.le_of_ble_eq_true rfl, Nat.le_of_ble_eq_true rfl⟩ (Nat.le_of_ble_eq_true rfl) rfl (fun v9 m10 h11 ho12 => ?_)
  refine z_istore_n dX11_mistake_17 (lv' := [(3, .int (mI v9)), (0, .ref (ad 0)), (1, .int (mI a0)), (2, .int (mI a1))]) (by decide) rfl ?_
  refine z_iload_n dX11_mistake_18 0 rfl ?_
  refine z_if_eq dX11_mistake_19 h11 (tgt := 26) rfl (fun h13 => ?_) (fun h13 => ?_)
  · refine z_aload_n dX11_mistake_26 1 rfl ?_
    refine z_getR dX11_mistake_27 (k := 0) (j := 1) zc_X11 lx_0 rfl (by decide) k_195 ?_
    refine z_iload_n dX11_mistake_30 2 rfl ?_
    refine z_iload_n dX11_mistake_31 3 rfl ?_
    refine z_callS1 dX11_mistake_32 rfl (ct_X6_numberFor n a0 a1 m10 ha0 ha1) k_727 k_728 k_16 k_729 zn_X6_numberFor ⟨rfl, rfl, Nat.le_of_ble_eq_true rfl, Nat.le_of_ble_eq_true rfl⟩ (Nat.le_of_ble_eq_true rfl) rfl (fun v14 m15 h16 ho17 => ?_)
    exact z_iret dX11_mistake_35 rfl rfl h16
  · refine z_iload_n dX11_mistake_22 0 rfl ?_
    refine z_goto dX11_mistake_23 (tgt := 35) rfl ?_
    exact z_iret dX11_mistake_35 rfl rfl h11
