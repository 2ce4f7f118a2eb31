set_option maxRecDepth 20000 in
theorem T_X12_pair_82 {ad sc sv : Nat → Nat} (n : Nat) (r12 : Int → Int → Int → ZMem → ZR) (r25 : Int → Int → Int → Int → ZMem → ZR) (hr12 : ∀ (x1 : Int) (x2 : Int) (x3 : Int) (m : ZMem), R32 x1 → R32 x2 → R32 x3 → zG LM ad sc sv M_X12_pair 12 [(0, .ref (ad 0)), (1, .int (mI x1)), (2, .int (mI x2)), (3, .int (mI x3))] [] m (r12 x1 x2 x3 m)) (hr25 : ∀ (x1 : Int) (x2 : Int) (x3 : Int) (x4 : Int) (m : ZMem), R32 x1 → R32 x2 → R32 x3 → R32 x4 → zG LM ad sc sv M_X12_pair 25 [(0, .ref (ad 0)), (1, .int (mI x1)), (2, .int (mI x2)), (3, .int (mI x3)), (4, .int (mI x4))] [] m (r25 x1 x2 x3 x4 m)) : ∀ (x1 : Int) (x2 : Int) (x3 : Int) (x4 : Int) (x5 : Int) (s0 : Int) (m : ZMem), R32 x1 → R32 x2 → R32 x3 → R32 x4 → R32 x5 → R32 s0 → zG LM ad sc sv M_X12_pair 82 [(0, .ref (ad 0)), (1, .int (mI x1)), (2, .int (mI x2)), (3, .int (mI x3)), (4, .int (mI x4)), (5, .int (mI x5))] [.int (mI s0)] m (B_X12_pair_82 n r12 r25 x1 x2 x3 x4 x5 s0 m) := by
  intro x1 x2 x3 x4 x5 s0 m hx1 hx2 hx3 hx4 hx5 hs0
  unfold B_X12_pair_82
  refine z_istore dX12_pair_82 (lv' := [(6, .int (mI s0)), (0, .ref (ad 0)), (1, .int (mI x1)), (2, .int (mI x2)), (3, .int (mI x3)), (4, .int (mI x4)), (5, .int (mI x5))]) (by decide) rfl ?_
  refine z_iload dX12_pair_84 0 rfl ?_
  refine z_if_eq dX12_pair_86 hs0 (tgt := 99) rfl (fun h31 => ?_) (fun h31 => ?_)
  · refine z_iload_n dX12_pair_99 2 rfl ?_
    refine z_istore_n dX12_pair_100 (lv' := [(1, .int (mI x1)), (6, .int (mI s0)), (0, .ref (ad 0)), (2, .int (mI x2)), (3, .int (mI x3)), (4, .int (mI x4)), (5, .int (mI x5))]) (by decide) rfl ?_
    refine z_iload dX12_pair_101 1 rfl ?_
    refine z_if_eq dX12_pair_103 hs0 (tgt := 111) rfl (fun h32 => ?_) (fun h32 => ?_)
    · refine z_iload_n dX12_pair_111 3 rfl ?_
      refine z_istore_n dX12_pair_112 (lv' := [(2, .int (mI x2)), (1, .int (mI x1)), (6, .int (mI s0)), (0, .ref (ad 0)), (3, .int (mI x3)), (4, .int (mI x4)), (5, .int (mI x5))]) (by decide) rfl ?_
      refine z_iinc dX12_pair_113 (lv' := [(4, .int (mI (x4 + 1))), (2, .int (mI x2)), (1, .int (mI x1)), (6, .int (mI s0)), (0, .ref (ad 0)), (3, .int (mI x3)), (5, .int (mI x5))]) 5 rfl (by decide) rfl (fun h33 => ?_)
      refine z_goto dX12_pair_116 (tgt := 25) rfl ?_
      exact zG_lvk (hr25 x1 x2 x3 (x4 + 1) m hx1 hx2 hx3 h33) [4, 2, 1, 5, 0] rfl
    · refine z_iload dX12_pair_106 6 rfl ?_
      refine z_goto dX12_pair_108 (tgt := 112) rfl ?_
      refine z_istore_n dX12_pair_112 (lv' := [(2, .int (mI x5)), (1, .int (mI x1)), (6, .int (mI s0)), (0, .ref (ad 0)), (3, .int (mI x3)), (4, .int (mI x4)), (5, .int (mI x5))]) (by decide) rfl ?_
      refine z_iinc dX12_pair_113 (lv' := [(4, .int (mI (x4 + 1))), (2, .int (mI x5)), (1, .int (mI x1)), (6, .int (mI s0)), (0, .ref (ad 0)), (3, .int (mI x3)), (5, .int (mI x5))]) 5 rfl (by decide) rfl (fun h34 => ?_)
      refine z_goto dX12_pair_116 (tgt := 25) rfl ?_
      exact zG_lvk (hr25 x1 x5 x3 (x4 + 1) m hx1 hx5 hx3 h34) [4, 2, 1, 5, 0] rfl
  · refine z_bipush dX12_pair_89 (x := 10) (by decide +kernel) ?_
    refine z_iload_n dX12_pair_91 4 rfl ?_
    refine z_imul dX12_pair_92 (fun h35 => ?_)
    refine z_iload dX12_pair_93 5 rfl ?_
    refine z_iadd dX12_pair_95 (fun h36 => ?_)
    refine z_goto dX12_pair_96 (tgt := 100) rfl ?_
    refine z_istore_n dX12_pair_100 (lv' := [(1, .int (mI ((10 * x3) + x4))), (6, .int (mI s0)), (0, .ref (ad 0)), (2, .int (mI x2)), (3, .int (mI x3)), (4, .int (mI x4)), (5, .int (mI x5))]) (by decide) rfl ?_
    refine z_iload dX12_pair_101 1 rfl ?_
    refine z_if_eq dX12_pair_103 hs0 (tgt := 111) rfl (fun h37 => ?_) (fun h37 => ?_)
    · refine z_iload_n dX12_pair_111 3 rfl ?_
      refine z_istore_n dX12_pair_112 (lv' := [(2, .int (mI x2)), (1, .int (mI ((10 * x3) + x4))), (6, .int (mI s0)), (0, .ref (ad 0)), (3, .int (mI x3)), (4, .int (mI x4)), (5, .int (mI x5))]) (by decide) rfl ?_
      refine z_iinc dX12_pair_113 (lv' := [(4, .int (mI (x4 + 1))), (2, .int (mI x2)), (1, .int (mI ((10 * x3) + x4))), (6, .int (mI s0)), (0, .ref (ad 0)), (3, .int (mI x3)), (5, .int (mI x5))]) 5 rfl (by decide) rfl (fun h38 => ?_)
      refine z_goto dX12_pair_116 (tgt := 25) rfl ?_
      exact zG_lvk (hr25 ((10 * x3) + x4) x2 x3 (x4 + 1) m h36 hx2 hx3 h38) [4, 2, 1, 5, 0] rfl
    · refine z_iload dX12_pair_106 6 rfl ?_
      refine z_goto dX12_pair_108 (tgt := 112) rfl ?_
      refine z_istore_n dX12_pair_112 (lv' := [(2, .int (mI x5)), (1, .int (mI ((10 * x3) + x4))), (6, .int (mI s0)), (0, .ref (ad 0)), (3, .int (mI x3)), (4, .int (mI x4)), (5, .int (mI x5))]) (by decide) rfl ?_
      refine z_iinc dX12_pair_113 (lv' := [(4, .int (mI (x4 + 1))), (2, .int (mI x5)), (1, .int (mI ((10 * x3) + x4))), (6, .int (mI s0)), (0, .ref (ad 0)), (3, .int (mI x3)), (5, .int (mI x5))]) 5 rfl (by decide) rfl (fun h39 => ?_)
      refine z_goto dX12_pair_116 (tgt := 25) rfl ?_
      exact zG_lvk (hr25 ((10 * x3) + x4) x5 x3 (x4 + 1) m h36 hx5 hx3 h39) [4, 2, 1, 5, 0] rfl
set_option maxRecDepth 20000 in
theorem T_X12_pair_25 {ad sc sv : Nat → Nat} (n : Nat) (r12 : Int → Int → Int → ZMem → ZR) (r25 : Int → Int → Int → Int → ZMem → ZR) (hr12 : ∀ (x1 : Int) (x2 : Int) (x3 : Int) (m : ZMem), R32 x1 → R32 x2 → R32 x3 → zG LM ad sc sv M_X12_pair 12 [(0, .ref (ad 0)), (1, .int (mI x1)), (2, .int (mI x2)), (3, .int (mI x3))] [] m (r12 x1 x2 x3 m)) (hr25 : ∀ (x1 : Int) (x2 : Int) (x3 : Int) (x4 : Int) (m : ZMem), R32 x1 → R32 x2 → R32 x3 → R32 x4 → zG LM ad sc sv M_X12_pair 25 [(0, .ref (ad 0)), (1, .int (mI x1)), (2, .int (mI x2)), (3, .int (mI x3)), (4, .int (mI x4))] [] m (r25 x1 x2 x3 x4 m)) : ∀ (x1 : Int) (x2 : Int) (x3 : Int) (x4 : Int) (m : ZMem), R32 x1 → R32 x2 → R32 x3 → R32 x4 → zG LM ad sc sv M_X12_pair 25 [(0, .ref (ad 0)), (1, .int (mI x1)), (2, .int (mI x2)), (3, .int (mI x3)), (4, .int (mI x4))] [] m (B_X12_pair_25 n r12 r25 x1 x2 x3 x4 m) := by
  intro x1 x2 x3 x4 m hx1 hx2 hx3 hx4
  unfold B_X12_pair_25
  refine z_iload dX12_pair_25 4 rfl ?_
  refine z_aload_n dX12_pair_27 0 rfl ?_
  refine z_getI dX12_pair_28 (k := 3) zc_X12 lm_0 rfl (by decide) k_1041 (fun h4 => ?_)
  refine z_icmp_ge dX12_pair_31 hx4 h4 (tgt := 119) rfl (fun h5 => ?_) (fun h5 => ?_)
  · refine z_iinc dX12_pair_119 (lv' := [(3, .int (mI (x3 + 1))), (0, .ref (ad 0)), (1, .int (mI x1)), (2, .int (mI x2)), (4, .int (mI x4))]) 3 rfl (by decide) rfl (fun h6 => ?_)
    refine z_goto dX12_pair_122 (tgt := 12) rfl ?_
    exact zG_lvk (hr12 x1 x2 (x3 + 1) m hx1 hx2 h6) [1, 2, 3, 0] rfl
  · refine z_aload_n dX12_pair_34 0 rfl ?_
    refine z_iload_n dX12_pair_35 3 rfl ?_
    refine z_callV1 dX12_pair_36 rfl (ct_X12_areaOf n x3 m hx3) zc_X12 lm_0 k_1390 k_1392 kp_64 k_10 k_1393 zn_X12_areaOf ⟨rfl, rfl, Nat.le_of_ble_eq_true rfl, Nat.le_of_ble_eq_true rfl⟩ (Nat.le_of_ble_eq_true rfl) rfl (fun v7 m8 h9 ho10 => ?_)
    refine z_aload_n dX12_pair_39 0 rfl ?_
    refine z_iload dX12_pair_40 4 rfl ?_
    refine z_callV1 dX12_pair_42 rfl (ct_X12_areaOf n x4 m8 hx4) zc_X12 lm_0 k_1390 k_1392 kp_64 k_10 k_1393 zn_X12_areaOf ⟨rfl, rfl, Nat.le_of_ble_eq_true rfl, Nat.le_of_ble_eq_true rfl⟩ (Nat.le_of_ble_eq_true rfl) rfl (fun v11 m12 h13 ho14 => ?_)
    refine z_iadd dX12_pair_45 (fun h15 => ?_)
    refine z_aload_n dX12_pair_46 0 rfl ?_
    refine z_getI dX12_pair_47 (k := 0) zc_X12 lm_0 rfl (by decide) k_1038 (fun h16 => ?_)
    refine z_imul dX12_pair_50 (fun h17 => ?_)
    refine z_aload_n dX12_pair_51 0 rfl ?_
    refine z_iconst dX12_pair_52 ?_
    refine z_callV1 dX12_pair_53 rfl (ct_X12_areaOf n 0 m12 (by decide)) zc_X12 lm_0 k_1390 k_1392 kp_64 k_10 k_1393 zn_X12_areaOf ⟨rfl, rfl, Nat.le_of_ble_eq_true rfl, Nat.le_of_ble_eq_true rfl⟩ (Nat.le_of_ble_eq_true rfl) rfl (fun v18 m19 h20 ho21 => ?_)
    refine z_aload_n dX12_pair_56 0 rfl ?_
    refine z_getI dX12_pair_57 (k := 1) zc_X12 lm_0 rfl (by decide) k_1039 (fun h22 => ?_)
    refine z_imul dX12_pair_60 (fun h23 => ?_)
    refine z_isub dX12_pair_61 (fun h24 => ?_)
    refine z_callS1 dX12_pair_62 rfl (ct_X12_plainly n (((v7 + v11) * (m12 0 0)) - (v18 * (m19 0 1))) m19 h24) k_1307 k_1308 k_10 k_1309 zn_X12_plainly ⟨rfl, rfl, Nat.le_of_ble_eq_true rfl, Nat.le_of_ble_eq_true rfl⟩ (Nat.le_of_ble_eq_true rfl) rfl (fun v25 m26 h27 ho28 => ?_)
    refine z_istore dX12_pair_65 (lv' := [(5, .int (mI v25)), (0, .ref (ad 0)), (1, .int (mI x1)), (2, .int (mI x2)), (3, .int (mI x3)), (4, .int (mI x4))]) (by decide) rfl ?_
    refine z_iload_n dX12_pair_67 2 rfl ?_
    refine z_if_lt dX12_pair_68 hx1 (tgt := 77) rfl (fun h29 => ?_) (fun h29 => ?_)
    · refine z_iconst dX12_pair_77 ?_
      refine z_goto dX12_pair_78 (tgt := 82) rfl ?_
      exact zG_lvk (T_X12_pair_82 n r12 r25 hr12 hr25 x1 x2 x3 x4 v25 1 m26 hx1 hx2 hx3 hx4 h27 (by decide)) [1, 2, 3, 4, 5, 0] rfl
    · refine z_iload dX12_pair_71 0 rfl ?_
      refine z_iload_n dX12_pair_73 3 rfl ?_
      refine z_icmp_ge dX12_pair_74 h27 hx2 (tgt := 81) rfl (fun h30 => ?_) (fun h30 => ?_)
      · refine z_iconst dX12_pair_81 ?_
        exact zG_lvk (T_X12_pair_82 n r12 r25 hr12 hr25 x1 x2 x3 x4 v25 0 m26 hx1 hx2 hx3 hx4 h27 (by decide)) [1, 2, 3, 4, 5, 0] rfl
      · refine z_iconst dX12_pair_77 ?_
        refine z_goto dX12_pair_78 (tgt := 82) rfl ?_
        exact zG_lvk (T_X12_pair_82 n r12 r25 hr12 hr25 x1 x2 x3 x4 v25 1 m26 hx1 hx2 hx3 hx4 h27 (by decide)) [1, 2, 3, 4, 5, 0] rfl
theorem TL_X12_pair_25 {ad sc sv : Nat → Nat} (n : Nat) (r12 : Int → Int → Int → ZMem → ZR) (hr12 : ∀ (x1 : Int) (x2 : Int) (x3 : Int) (m : ZMem), R32 x1 → R32 x2 → R32 x3 → zG LM ad sc sv M_X12_pair 12 [(0, .ref (ad 0)), (1, .int (mI x1)), (2, .int (mI x2)), (3, .int (mI x3))] [] m (r12 x1 x2 x3 m)) : ∀ q : Nat, ∀ (x1 : Int) (x2 : Int) (x3 : Int) (x4 : Int) (m : ZMem), R32 x1 → R32 x2 → R32 x3 → R32 x4 → zG LM ad sc sv M_X12_pair 25 [(0, .ref (ad 0)), (1, .int (mI x1)), (2, .int (mI x2)), (3, .int (mI x3)), (4, .int (mI x4))] [] m (L_X12_pair_25 n r12 q x1 x2 x3 x4 m) := by
  intro q
  induction q with
  | zero => intros; exact zG_none
  | succ q ih => exact T_X12_pair_25 n r12 (L_X12_pair_25 n r12 q) hr12 ih
set_option maxRecDepth 20000 in
theorem T_X12_pair_12 {ad sc sv : Nat → Nat} (n : Nat) (r12 : Int → Int → Int → ZMem → ZR) (hr12 : ∀ (x1 : Int) (x2 : Int) (x3 : Int) (m : ZMem), R32 x1 → R32 x2 → R32 x3 → zG LM ad sc sv M_X12_pair 12 [(0, .ref (ad 0)), (1, .int (mI x1)), (2, .int (mI x2)), (3, .int (mI x3))] [] m (r12 x1 x2 x3 m)) : ∀ (x1 : Int) (x2 : Int) (x3 : Int) (m : ZMem), R32 x1 → R32 x2 → R32 x3 → zG LM ad sc sv M_X12_pair 12 [(0, .ref (ad 0)), (1, .int (mI x1)), (2, .int (mI x2)), (3, .int (mI x3))] [] m (B_X12_pair_12 n r12 x1 x2 x3 m) := by
  intro x1 x2 x3 m hx1 hx2 hx3
  unfold B_X12_pair_12
  refine z_iload_n dX12_pair_12 3 rfl ?_
  refine z_aload_n dX12_pair_13 0 rfl ?_
  refine z_getI dX12_pair_14 (k := 3) zc_X12 lm_0 rfl (by decide) k_1041 (fun h1 => ?_)
  refine z_icmp_ge dX12_pair_17 hx3 h1 (tgt := 125) rfl (fun h2 => ?_) (fun h2 => ?_)
  · refine z_iload_n dX12_pair_125 1 rfl ?_
    exact z_iret dX12_pair_126 rfl rfl hx1
  · refine z_iload_n dX12_pair_20 3 rfl ?_
    refine z_iconst dX12_pair_21 ?_
    refine z_iadd dX12_pair_22 (fun h3 => ?_)
    refine z_istore dX12_pair_23 (lv' := [(4, .int (mI (x3 + 1))), (0, .ref (ad 0)), (1, .int (mI x1)), (2, .int (mI x2)), (3, .int (mI x3))]) (by decide) rfl ?_
    exact zG_lvk (TL_X12_pair_25 n r12 hr12 n x1 x2 x3 (x3 + 1) m hx1 hx2 hx3 h3) [1, 2, 3, 4, 0] rfl
theorem TL_X12_pair_12 {ad sc sv : Nat → Nat} (n : Nat) : ∀ q : Nat, ∀ (x1 : Int) (x2 : Int) (x3 : Int) (m : ZMem), R32 x1 → R32 x2 → R32 x3 → zG LM ad sc sv M_X12_pair 12 [(0, .ref (ad 0)), (1, .int (mI x1)), (2, .int (mI x2)), (3, .int (mI x3))] [] m (L_X12_pair_12 n q x1 x2 x3 m) := by
  intro q
  induction q with
  | zero => intros; exact zG_none
  | succ q ih => exact T_X12_pair_12 n (L_X12_pair_12 n q) ih
set_option maxRecDepth 20000 in
theorem ct_X12_pair {ad sc sv : Nat → Nat} (n : Nat) (m : ZMem) : zCT LM ad sc sv M_X12_pair yX12_pair [.ref (ad 0)] m (F_X12_pair n m) := by
  refine zCT_of (lv := [(0, .ref (ad 0))]) (by decide) rfl (Nat.le_of_ble_eq_true rfl) rfl ?_
  unfold F_X12_pair
  refine z_aload_n dX12_pair_0 0 rfl ?_
  refine z_iconst dX12_pair_1 ?_
  refine z_putI dX12_pair_2 (k := 16) zc_X12 lm_0 rfl (by decide) rfl rfl (by decide) k_1054 ?_
  refine z_bipush dX12_pair_5 (x := (-9)) (by decide +kernel) ?_
  refine z_istore_n dX12_pair_7 (lv' := [(1, .int (mI (-9))), (0, .ref (ad 0))]) (by decide) rfl ?_
  refine z_iconst dX12_pair_8 ?_
  refine z_istore_n dX12_pair_9 (lv' := [(2, .int (mI 0)), (1, .int (mI (-9))), (0, .ref (ad 0))]) (by decide) rfl ?_
  refine z_iconst dX12_pair_10 ?_
  refine z_istore_n dX12_pair_11 (lv' := [(3, .int (mI 0)), (2, .int (mI 0)), (1, .int (mI (-9))), (0, .ref (ad 0))]) (by decide) rfl ?_
  exact zG_lvk (TL_X12_pair_12 n n (-9) 0 0 (wr m 0 16 0) (by decide) (by decide) (by decide)) [3, 2, 1, 0] rfl
set_option maxRecDepth 20000 in
theorem ct_X12_reachBy {ad sc sv : Nat → Nat} (n : Nat) (a0 : Int) (a1 : Int) (a2 : Int) (m : ZMem) (ha0 : R32 a0) (ha1 : R32 a1) (ha2 : R32 a2) : zCT LM ad sc sv M_X12_reachBy yX12_reachBy [.ref (ad 0), .int (mI a0), .int (mI a1), .int (mI a2)] m (F_X12_reachBy n a0 a1 a2 m) := by
  refine zCT_of (lv := [(0, .ref (ad 0)), (1, .int (mI a0)), (2, .int (mI a1)), (3, .int (mI a2))]) (by decide) rfl (Nat.le_of_ble_eq_true rfl) rfl ?_
  unfold F_X12_reachBy
  refine z_aload_n dX12_reachBy_0 0 rfl ?_
  refine z_getR dX12_reachBy_1 (k := 35) (j := 19) zc_X12 lm_0 rfl (by decide) k_1073 ?_
  refine z_iload_n dX12_reachBy_4 1 rfl ?_
  refine z_iaload dX12_reachBy_5 ha0 (fun h1 => ?_)
  refine z_if_ge dX12_reachBy_6 h1 (tgt := 36) rfl (fun h2 => ?_) (fun h2 => ?_)
  · exact z_vret dX12_reachBy_36 rfl rfl
  · refine z_aload_n dX12_reachBy_9 0 rfl ?_
    refine z_getR dX12_reachBy_10 (k := 44) (j := 26) zc_X12 lm_0 rfl (by decide) k_1082 ?_
    refine z_iload_n dX12_reachBy_13 1 rfl ?_
    refine z_iload_n dX12_reachBy_14 2 rfl ?_
    refine z_iastore dX12_reachBy_15 ha0 ha1 ?_
    refine z_aload_n dX12_reachBy_16 0 rfl ?_
    refine z_getR dX12_reachBy_17 (k := 45) (j := 27) zc_X12 lm_0 rfl (by decide) k_1083 ?_
    refine z_iload_n dX12_reachBy_20 1 rfl ?_
    refine z_iload_n dX12_reachBy_21 3 rfl ?_
    refine z_iastore dX12_reachBy_22 ha0 ha2 ?_
    refine z_aload_n dX12_reachBy_23 0 rfl ?_
    refine z_iload_n dX12_reachBy_24 1 rfl ?_
    refine z_aload_n dX12_reachBy_25 0 rfl ?_
    refine z_getR dX12_reachBy_26 (k := 35) (j := 19) zc_X12 lm_0 rfl (by decide) k_1073 ?_
    refine z_iload_n dX12_reachBy_29 2 rfl ?_
    refine z_iaload dX12_reachBy_30 ha1 (fun h3 => ?_)
    refine z_iconst dX12_reachBy_31 ?_
    refine z_iadd dX12_reachBy_32 (fun h4 => ?_)
    refine z_callV0 dX12_reachBy_33 rfl (ct_X12_reach n a0 (((wr (wr m 26 (a0 : Int).toNat a1) 27 (a0 : Int).toNat a2) 19 (a1 : Int).toNat) + 1) (wr (wr m 26 (a0 : Int).toNat a1) 27 (a0 : Int).toNat a2) ha0 h4) zc_X12 lm_0 k_1452 k_1454 kp_71 k_10 k_1455 zn_X12_reach ⟨rfl, rfl, Nat.le_of_ble_eq_true rfl, Nat.le_of_ble_eq_true rfl⟩ (Nat.le_of_ble_eq_true rfl) rfl (fun v5 m6 ho8 => ?_)
    exact z_vret dX12_reachBy_36 rfl rfl
set_option maxRecDepth 20000 in
theorem T_X12_stepsTold_98 {ad sc sv : Nat → Nat} (n : Nat) (r2 : Int → Int → ZMem → ZR) (r59 : Int → Int → Int → ZMem → ZR) (hr2 : ∀ (x1 : Int) (x2 : Int) (m : ZMem), R32 x1 → R32 x2 → zG LM ad sc sv M_X12_stepsTold 2 [(0, .ref (ad 0)), (1, .int (mI x1)), (2, .int (mI x2))] [] m (r2 x1 x2 m)) (hr59 : ∀ (x1 : Int) (x2 : Int) (x3 : Int) (m : ZMem), R32 x1 → R32 x2 → R32 x3 → zG LM ad sc sv M_X12_stepsTold 59 [(0, .ref (ad 0)), (1, .int (mI x1)), (2, .int (mI x2)), (3, .int (mI x3))] [] m (r59 x1 x2 x3 m)) : ∀ (x1 : Int) (x2 : Int) (x3 : Int) (s0 : Int) (m : ZMem), R32 x1 → R32 x2 → R32 x3 → R32 s0 → zG LM ad sc sv M_X12_stepsTold 98 [(0, .ref (ad 0)), (1, .int (mI x1)), (2, .int (mI x2)), (3, .int (mI x3))] [.int (mI s0)] m (B_X12_stepsTold_98 n r2 r59 x1 x2 x3 s0 m) := by
  intro x1 x2 x3 s0 m hx1 hx2 hx3 hs0
  unfold B_X12_stepsTold_98
  refine z_istore dX12_stepsTold_98 (lv' := [(5, .int (mI s0)), (0, .ref (ad 0)), (1, .int (mI x1)), (2, .int (mI x2)), (3, .int (mI x3))]) (by decide) rfl ?_
  refine z_iload_n dX12_stepsTold_100 4 rfl ?_
  refine z_iload_n dX12_stepsTold_101 3 rfl ?_
  refine z_icmp_eq dX12_stepsTold_102 hx3 hx2 (tgt := 137) rfl (fun h51 => ?_) (fun h51 => ?_)
  · refine z_iinc dX12_stepsTold_137 (lv' := [(3, .int (mI (x3 + 1))), (5, .int (mI s0)), (0, .ref (ad 0)), (1, .int (mI x1)), (2, .int (mI x2))]) 4 rfl (by decide) rfl (fun h52 => ?_)
    refine z_goto dX12_stepsTold_140 (tgt := 59) rfl ?_
    exact zG_lvk (hr59 x1 x2 (x3 + 1) m hx1 hx2 h52) [2, 3, 4, 0] rfl
  · refine z_aload_n dX12_stepsTold_105 1 rfl ?_
    refine z_iload_n dX12_stepsTold_106 2 rfl ?_
    refine z_iload dX12_stepsTold_107 0 rfl ?_
    refine z_iload_n dX12_stepsTold_109 3 rfl ?_
    refine z_callS1 dX12_stepsTold_110 rfl (ct_X12_weightOf n x2 m hx2) k_1463 k_1464 k_10 k_1465 zn_X12_weightOf ⟨rfl, rfl, Nat.le_of_ble_eq_true rfl, Nat.le_of_ble_eq_true rfl⟩ (Nat.le_of_ble_eq_true rfl) rfl (fun v53 m54 h55 ho56 => ?_)
    refine z_imul dX12_stepsTold_113 (fun h57 => ?_)
    refine z_isub dX12_stepsTold_114 (fun h58 => ?_)
    refine z_iload dX12_stepsTold_115 0 rfl ?_
    refine z_iload_n dX12_stepsTold_117 4 rfl ?_
    refine z_callS1 dX12_stepsTold_118 rfl (ct_X12_weightOf n x3 m54 hx3) k_1463 k_1464 k_10 k_1465 zn_X12_weightOf ⟨rfl, rfl, Nat.le_of_ble_eq_true rfl, Nat.le_of_ble_eq_true rfl⟩ (Nat.le_of_ble_eq_true rfl) rfl (fun v59 m60 h61 ho62 => ?_)
    refine z_imul dX12_stepsTold_121 (fun h63 => ?_)
    refine z_iadd dX12_stepsTold_122 (fun h64 => ?_)
    refine z_iload_n dX12_stepsTold_123 2 rfl ?_
    refine z_sipush dX12_stepsTold_124 (x := 300) (by decide +kernel) ?_
    refine z_bipush dX12_stepsTold_127 (x := 10) (by decide +kernel) ?_
    refine z_iload_n dX12_stepsTold_129 4 rfl ?_
    refine z_imul dX12_stepsTold_130 (fun h65 => ?_)
    refine z_iadd dX12_stepsTold_131 (fun h66 => ?_)
    refine z_iload_n dX12_stepsTold_132 3 rfl ?_
    refine z_iadd dX12_stepsTold_133 (fun h67 => ?_)
    refine z_callV0 dX12_stepsTold_134 rfl (ct_X12_reachBy n ((x1 - (s0 * v53)) + (s0 * v59)) x1 ((300 + (10 * x3)) + x2) m60 h64 hx1 h67) zc_X12 lm_0 k_1590 k_1592 kp_85 k_10 k_1593 zn_X12_reachBy ⟨rfl, rfl, Nat.le_of_ble_eq_true rfl, Nat.le_of_ble_eq_true rfl⟩ (Nat.le_of_ble_eq_true rfl) rfl (fun v68 m69 ho71 => ?_)
    refine z_iinc dX12_stepsTold_137 (lv' := [(3, .int (mI (x3 + 1))), (5, .int (mI s0)), (0, .ref (ad 0)), (1, .int (mI x1)), (2, .int (mI x2))]) 4 rfl (by decide) rfl (fun h72 => ?_)
    refine z_goto dX12_stepsTold_140 (tgt := 59) rfl ?_
    exact zG_lvk (hr59 x1 x2 (x3 + 1) m69 hx1 hx2 h72) [2, 3, 4, 0] rfl
set_option maxRecDepth 20000 in
theorem T_X12_stepsTold_59 {ad sc sv : Nat → Nat} (n : Nat) (r2 : Int → Int → ZMem → ZR) (r59 : Int → Int → Int → ZMem → ZR) (hr2 : ∀ (x1 : Int) (x2 : Int) (m : ZMem), R32 x1 → R32 x2 → zG LM ad sc sv M_X12_stepsTold 2 [(0, .ref (ad 0)), (1, .int (mI x1)), (2, .int (mI x2))] [] m (r2 x1 x2 m)) (hr59 : ∀ (x1 : Int) (x2 : Int) (x3 : Int) (m : ZMem), R32 x1 → R32 x2 → R32 x3 → zG LM ad sc sv M_X12_stepsTold 59 [(0, .ref (ad 0)), (1, .int (mI x1)), (2, .int (mI x2)), (3, .int (mI x3))] [] m (r59 x1 x2 x3 m)) : ∀ (x1 : Int) (x2 : Int) (x3 : Int) (m : ZMem), R32 x1 → R32 x2 → R32 x3 → zG LM ad sc sv M_X12_stepsTold 59 [(0, .ref (ad 0)), (1, .int (mI x1)), (2, .int (mI x2)), (3, .int (mI x3))] [] m (B_X12_stepsTold_59 n r2 r59 x1 x2 x3 m) := by
  intro x1 x2 x3 m hx1 hx2 hx3
  unfold B_X12_stepsTold_59
  refine z_iload_n dX12_stepsTold_59 3 rfl ?_
  refine z_iconst dX12_stepsTold_60 ?_
  refine z_icmp_ge dX12_stepsTold_61 hx3 (by decide) (tgt := 143) rfl (fun h34 => ?_) (fun h34 => ?_)
  · refine z_iinc dX12_stepsTold_143 (lv' := [(2, .int (mI (x2 + 1))), (0, .ref (ad 0)), (1, .int (mI x1)), (3, .int (mI x3))]) 2 rfl (by decide) rfl (fun h35 => ?_)
    refine z_goto dX12_stepsTold_146 (tgt := 2) rfl ?_
    exact zG_lvk (hr2 x1 (x2 + 1) m hx1 h35) [1, 2, 0] rfl
  · refine z_aload_n dX12_stepsTold_64 0 rfl ?_
    refine z_getR dX12_stepsTold_65 (k := 15) (j := 9) zc_X12 lm_0 rfl (by decide) k_1053 ?_
    refine z_iload_n dX12_stepsTold_68 3 rfl ?_
    refine z_iaload dX12_stepsTold_69 hx3 (fun h36 => ?_)
    refine z_iload_n dX12_stepsTold_70 1 rfl ?_
    refine z_iload_n dX12_stepsTold_71 3 rfl ?_
    refine z_callS1 dX12_stepsTold_72 rfl (ct_X12_inCup n x1 x3 m hx1 hx3) k_1460 k_1461 k_10 k_1462 zn_X12_inCup ⟨rfl, rfl, Nat.le_of_ble_eq_true rfl, Nat.le_of_ble_eq_true rfl⟩ (Nat.le_of_ble_eq_true rfl) rfl (fun v37 m38 h39 ho40 => ?_)
    refine z_isub dX12_stepsTold_75 (fun h41 => ?_)
    refine z_istore dX12_stepsTold_76 (lv' := [(4, .int (mI ((m 9 (x3 : Int).toNat) - v37))), (0, .ref (ad 0)), (1, .int (mI x1)), (2, .int (mI x2)), (3, .int (mI x3))]) (by decide) rfl ?_
    refine z_iload_n dX12_stepsTold_78 2 rfl ?_
    refine z_iload_n dX12_stepsTold_79 3 rfl ?_
    refine z_callS1 dX12_stepsTold_80 rfl (ct_X12_inCup n x1 x2 m38 hx1 hx2) k_1460 k_1461 k_10 k_1462 zn_X12_inCup ⟨rfl, rfl, Nat.le_of_ble_eq_true rfl, Nat.le_of_ble_eq_true rfl⟩ (Nat.le_of_ble_eq_true rfl) rfl (fun v42 m43 h44 ho45 => ?_)
    refine z_iload dX12_stepsTold_83 0 rfl ?_
    refine z_icmp_ge dX12_stepsTold_85 h44 h41 (tgt := 96) rfl (fun h46 => ?_) (fun h46 => ?_)
    · refine z_iload dX12_stepsTold_96 0 rfl ?_
      exact zG_lvk (T_X12_stepsTold_98 n r2 r59 hr2 hr59 x1 x2 x3 ((m 9 (x3 : Int).toNat) - v37) m43 hx1 hx2 hx3 h41) [1, 2, 3, 4] rfl
    · refine z_iload_n dX12_stepsTold_88 2 rfl ?_
      refine z_iload_n dX12_stepsTold_89 3 rfl ?_
      refine z_callS1 dX12_stepsTold_90 rfl (ct_X12_inCup n x1 x2 m43 hx1 hx2) k_1460 k_1461 k_10 k_1462 zn_X12_inCup ⟨rfl, rfl, Nat.le_of_ble_eq_true rfl, Nat.le_of_ble_eq_true rfl⟩ (Nat.le_of_ble_eq_true rfl) rfl (fun v47 m48 h49 ho50 => ?_)
      refine z_goto dX12_stepsTold_93 (tgt := 98) rfl ?_
      exact zG_lvk (T_X12_stepsTold_98 n r2 r59 hr2 hr59 x1 x2 x3 v47 m48 hx1 hx2 hx3 h49) [1, 2, 3, 4] rfl
theorem TL_X12_stepsTold_59 {ad sc sv : Nat → Nat} (n : Nat) (r2 : Int → Int → ZMem → ZR) (hr2 : ∀ (x1 : Int) (x2 : Int) (m : ZMem), R32 x1 → R32 x2 → zG LM ad sc sv M_X12_stepsTold 2 [(0, .ref (ad 0)), (1, .int (mI x1)), (2, .int (mI x2))] [] m (r2 x1 x2 m)) : ∀ q : Nat, ∀ (x1 : Int) (x2 : Int) (x3 : Int) (m : ZMem), R32 x1 → R32 x2 → R32 x3 → zG LM ad sc sv M_X12_stepsTold 59 [(0, .ref (ad 0)), (1, .int (mI x1)), (2, .int (mI x2)), (3, .int (mI x3))] [] m (L_X12_stepsTold_59 n r2 q x1 x2 x3 m) := by
  intro q
  induction q with
  | zero => intros; exact zG_none
  | succ q ih => exact T_X12_stepsTold_59 n r2 (L_X12_stepsTold_59 n r2 q) hr2 ih
set_option maxRecDepth 20000 in
theorem T_X12_stepsTold_2 {ad sc sv : Nat → Nat} (n : Nat) (r2 : Int → Int → ZMem → ZR) (hr2 : ∀ (x1 : Int) (x2 : Int) (m : ZMem), R32 x1 → R32 x2 → zG LM ad sc sv M_X12_stepsTold 2 [(0, .ref (ad 0)), (1, .int (mI x1)), (2, .int (mI x2))] [] m (r2 x1 x2 m)) : ∀ (x1 : Int) (x2 : Int) (m : ZMem), R32 x1 → R32 x2 → zG LM ad sc sv M_X12_stepsTold 2 [(0, .ref (ad 0)), (1, .int (mI x1)), (2, .int (mI x2))] [] m (B_X12_stepsTold_2 n r2 x1 x2 m) := by
  intro x1 x2 m hx1 hx2
  unfold B_X12_stepsTold_2
  refine z_iload_n dX12_stepsTold_2 2 rfl ?_
  refine z_iconst dX12_stepsTold_3 ?_
  refine z_icmp_ge dX12_stepsTold_4 hx2 (by decide) (tgt := 149) rfl (fun h1 => ?_) (fun h1 => ?_)
  · exact z_vret dX12_stepsTold_149 rfl rfl
  · refine z_aload_n dX12_stepsTold_7 0 rfl ?_
    refine z_iload_n dX12_stepsTold_8 1 rfl ?_
    refine z_aload_n dX12_stepsTold_9 0 rfl ?_
    refine z_getR dX12_stepsTold_10 (k := 15) (j := 9) zc_X12 lm_0 rfl (by decide) k_1053 ?_
    refine z_iload_n dX12_stepsTold_13 2 rfl ?_
    refine z_iaload dX12_stepsTold_14 hx2 (fun h2 => ?_)
    refine z_iload_n dX12_stepsTold_15 1 rfl ?_
    refine z_iload_n dX12_stepsTold_16 2 rfl ?_
    refine z_callS1 dX12_stepsTold_17 rfl (ct_X12_inCup n x1 x2 m hx1 hx2) k_1460 k_1461 k_10 k_1462 zn_X12_inCup ⟨rfl, rfl, Nat.le_of_ble_eq_true rfl, Nat.le_of_ble_eq_true rfl⟩ (Nat.le_of_ble_eq_true rfl) rfl (fun v3 m4 h5 ho6 => ?_)
    refine z_isub dX12_stepsTold_20 (fun h7 => ?_)
    refine z_iload_n dX12_stepsTold_21 2 rfl ?_
    refine z_callS1 dX12_stepsTold_22 rfl (ct_X12_weightOf n x2 m4 hx2) k_1463 k_1464 k_10 k_1465 zn_X12_weightOf ⟨rfl, rfl, Nat.le_of_ble_eq_true rfl, Nat.le_of_ble_eq_true rfl⟩ (Nat.le_of_ble_eq_true rfl) rfl (fun v8 m9 h10 ho11 => ?_)
    refine z_imul dX12_stepsTold_25 (fun h12 => ?_)
    refine z_iadd dX12_stepsTold_26 (fun h13 => ?_)
    refine z_iload_n dX12_stepsTold_27 1 rfl ?_
    refine z_bipush dX12_stepsTold_28 (x := 100) (by decide +kernel) ?_
    refine z_iload_n dX12_stepsTold_30 2 rfl ?_
    refine z_iadd dX12_stepsTold_31 (fun h14 => ?_)
    refine z_callV0 dX12_stepsTold_32 rfl (ct_X12_reachBy n (x1 + (((m 9 (x2 : Int).toNat) - v3) * v8)) x1 (100 + x2) m9 h13 hx1 h14) zc_X12 lm_0 k_1590 k_1592 kp_85 k_10 k_1593 zn_X12_reachBy ⟨rfl, rfl, Nat.le_of_ble_eq_true rfl, Nat.le_of_ble_eq_true rfl⟩ (Nat.le_of_ble_eq_true rfl) rfl (fun v15 m16 ho18 => ?_)
    refine z_aload_n dX12_stepsTold_35 0 rfl ?_
    refine z_iload_n dX12_stepsTold_36 1 rfl ?_
    refine z_iload_n dX12_stepsTold_37 1 rfl ?_
    refine z_iload_n dX12_stepsTold_38 2 rfl ?_
    refine z_callS1 dX12_stepsTold_39 rfl (ct_X12_inCup n x1 x2 m16 hx1 hx2) k_1460 k_1461 k_10 k_1462 zn_X12_inCup ⟨rfl, rfl, Nat.le_of_ble_eq_true rfl, Nat.le_of_ble_eq_true rfl⟩ (Nat.le_of_ble_eq_true rfl) rfl (fun v19 m20 h21 ho22 => ?_)
    refine z_iload_n dX12_stepsTold_42 2 rfl ?_
    refine z_callS1 dX12_stepsTold_43 rfl (ct_X12_weightOf n x2 m20 hx2) k_1463 k_1464 k_10 k_1465 zn_X12_weightOf ⟨rfl, rfl, Nat.le_of_ble_eq_true rfl, Nat.le_of_ble_eq_true rfl⟩ (Nat.le_of_ble_eq_true rfl) rfl (fun v23 m24 h25 ho26 => ?_)
    refine z_imul dX12_stepsTold_46 (fun h27 => ?_)
    refine z_isub dX12_stepsTold_47 (fun h28 => ?_)
    refine z_iload_n dX12_stepsTold_48 1 rfl ?_
    refine z_sipush dX12_stepsTold_49 (x := 200) (by decide +kernel) ?_
    refine z_iload_n dX12_stepsTold_52 2 rfl ?_
    refine z_iadd dX12_stepsTold_53 (fun h29 => ?_)
    refine z_callV0 dX12_stepsTold_54 rfl (ct_X12_reachBy n (x1 - (v19 * v23)) x1 (200 + x2) m24 h28 hx1 h29) zc_X12 lm_0 k_1590 k_1592 kp_85 k_10 k_1593 zn_X12_reachBy ⟨rfl, rfl, Nat.le_of_ble_eq_true rfl, Nat.le_of_ble_eq_true rfl⟩ (Nat.le_of_ble_eq_true rfl) rfl (fun v30 m31 ho33 => ?_)
    refine z_iconst dX12_stepsTold_57 ?_
    refine z_istore_n dX12_stepsTold_58 (lv' := [(3, .int (mI 0)), (0, .ref (ad 0)), (1, .int (mI x1)), (2, .int (mI x2))]) (by decide) rfl ?_
    exact zG_lvk (TL_X12_stepsTold_59 n r2 hr2 n x1 x2 0 m31 hx1 hx2 (by decide)) [1, 2, 3, 0] rfl
theorem TL_X12_stepsTold_2 {ad sc sv : Nat → Nat} (n : Nat) : ∀ q : Nat, ∀ (x1 : Int) (x2 : Int) (m : ZMem), R32 x1 → R32 x2 → zG LM ad sc sv M_X12_stepsTold 2 [(0, .ref (ad 0)), (1, .int (mI x1)), (2, .int (mI x2))] [] m (L_X12_stepsTold_2 n q x1 x2 m) := by
  intro q
  induction q with
  | zero => intros; exact zG_none
  | succ q ih => exact T_X12_stepsTold_2 n (L_X12_stepsTold_2 n q) ih
set_option maxRecDepth 20000 in
theorem ct_X12_stepsTold {ad sc sv : Nat → Nat} (n : Nat) (a0 : Int) (m : ZMem) (ha0 : R32 a0) : zCT LM ad sc sv M_X12_stepsTold yX12_stepsTold [.ref (ad 0), .int (mI a0)] m (F_X12_stepsTold n a0 m) := by
  refine zCT_of (lv := [(0, .ref (ad 0)), (1, .int (mI a0))]) (by decide) rfl (Nat.le_of_ble_eq_true rfl) rfl ?_
  unfold F_X12_stepsTold
  refine z_iconst dX12_stepsTold_0 ?_
  refine z_istore_n dX12_stepsTold_1 (lv' := [(2, .int (mI 0)), (0, .ref (ad 0)), (1, .int (mI a0))]) (by decide) rfl ?_
  exact zG_lvk (TL_X12_stepsTold_2 n n a0 0 m ha0 (by decide)) [1, 2, 0] rfl
set_option maxRecDepth 20000 in
theorem T_X12_stateWith_2 {ad sc sv : Nat → Nat} (n : Nat) (r2 : Int → Int → ZMem → ZR) (hr2 : ∀ (x1 : Int) (x2 : Int) (m : ZMem), R32 x1 → R32 x2 → zG LM ad sc sv M_X12_stateWith 2 [(0, .ref (ad 0)), (1, .int (mI x1)), (2, .int (mI x2))] [] m (r2 x1 x2 m)) : ∀ (x1 : Int) (x2 : Int) (m : ZMem), R32 x1 → R32 x2 → zG LM ad sc sv M_X12_stateWith 2 [(0, .ref (ad 0)), (1, .int (mI x1)), (2, .int (mI x2))] [] m (B_X12_stateWith_2 n r2 x1 x2 m) := by
  intro x1 x2 m hx1 hx2
  unfold B_X12_stateWith_2
  refine z_iload_n dX12_stateWith_2 2 rfl ?_
  refine z_aload_n dX12_stateWith_3 0 rfl ?_
  refine z_getI dX12_stateWith_4 (k := 37) zc_X12 lm_0 rfl (by decide) k_1075 (fun h1 => ?_)
  refine z_icmp_ge dX12_stateWith_7 hx2 h1 (tgt := 52) rfl (fun h2 => ?_) (fun h2 => ?_)
  · refine z_bipush dX12_stateWith_52 (x := (-9)) (by decide +kernel) ?_
    exact z_iret dX12_stateWith_54 rfl rfl (by decide)
  · refine z_aload_n dX12_stateWith_10 0 rfl ?_
    refine z_getR dX12_stateWith_11 (k := 36) (j := 20) zc_X12 lm_0 rfl (by decide) k_1074 ?_
    refine z_iload_n dX12_stateWith_14 2 rfl ?_
    refine z_iaload dX12_stateWith_15 hx2 (fun h3 => ?_)
    refine z_istore_n dX12_stateWith_16 (lv' := [(3, .int (mI (m 20 (x2 : Int).toNat))), (0, .ref (ad 0)), (1, .int (mI x1)), (2, .int (mI x2))]) (by decide) rfl ?_
    refine z_iload_n dX12_stateWith_17 0 rfl ?_
    refine z_iconst dX12_stateWith_18 ?_
    refine z_callS1 dX12_stateWith_19 rfl (ct_X12_inCup n (m 20 (x2 : Int).toNat) 0 m h3 (by decide)) k_1460 k_1461 k_10 k_1462 zn_X12_inCup ⟨rfl, rfl, Nat.le_of_ble_eq_true rfl, Nat.le_of_ble_eq_true rfl⟩ (Nat.le_of_ble_eq_true rfl) rfl (fun v4 m5 h6 ho7 => ?_)
    refine z_iload_n dX12_stateWith_22 2 rfl ?_
    refine z_icmp_eq dX12_stateWith_23 h6 hx1 (tgt := 44) rfl (fun h8 => ?_) (fun h8 => ?_)
    · refine z_iload_n dX12_stateWith_44 0 rfl ?_
      exact z_iret dX12_stateWith_45 rfl rfl h3
    · refine z_iload_n dX12_stateWith_26 0 rfl ?_
      refine z_iconst dX12_stateWith_27 ?_
      refine z_callS1 dX12_stateWith_28 rfl (ct_X12_inCup n (m 20 (x2 : Int).toNat) 1 m5 h3 (by decide)) k_1460 k_1461 k_10 k_1462 zn_X12_inCup ⟨rfl, rfl, Nat.le_of_ble_eq_true rfl, Nat.le_of_ble_eq_true rfl⟩ (Nat.le_of_ble_eq_true rfl) rfl (fun v9 m10 h11 ho12 => ?_)
      refine z_iload_n dX12_stateWith_31 2 rfl ?_
      refine z_icmp_eq dX12_stateWith_32 h11 hx1 (tgt := 44) rfl (fun h13 => ?_) (fun h13 => ?_)
      · refine z_iload_n dX12_stateWith_44 0 rfl ?_
        exact z_iret dX12_stateWith_45 rfl rfl h3
      · refine z_iload_n dX12_stateWith_35 0 rfl ?_
        refine z_iconst dX12_stateWith_36 ?_
        refine z_callS1 dX12_stateWith_37 rfl (ct_X12_inCup n (m 20 (x2 : Int).toNat) 2 m10 h3 (by decide)) k_1460 k_1461 k_10 k_1462 zn_X12_inCup ⟨rfl, rfl, Nat.le_of_ble_eq_true rfl, Nat.le_of_ble_eq_true rfl⟩ (Nat.le_of_ble_eq_true rfl) rfl (fun v14 m15 h16 ho17 => ?_)
        refine z_iload_n dX12_stateWith_40 2 rfl ?_
        refine z_icmp_ne dX12_stateWith_41 h16 hx1 (tgt := 46) rfl (fun h18 => ?_) (fun h18 => ?_)
        · refine z_iload_n dX12_stateWith_44 0 rfl ?_
          exact z_iret dX12_stateWith_45 rfl rfl h3
        · refine z_iinc dX12_stateWith_46 (lv' := [(2, .int (mI (x2 + 1))), (3, .int (mI (m 20 (x2 : Int).toNat))), (0, .ref (ad 0)), (1, .int (mI x1))]) 3 rfl (by decide) rfl (fun h19 => ?_)
          refine z_goto dX12_stateWith_49 (tgt := 2) rfl ?_
          exact zG_lvk (hr2 x1 (x2 + 1) m15 hx1 h19) [2, 3, 0] rfl
theorem TL_X12_stateWith_2 {ad sc sv : Nat → Nat} (n : Nat) : ∀ q : Nat, ∀ (x1 : Int) (x2 : Int) (m : ZMem), R32 x1 → R32 x2 → zG LM ad sc sv M_X12_stateWith 2 [(0, .ref (ad 0)), (1, .int (mI x1)), (2, .int (mI x2))] [] m (L_X12_stateWith_2 n q x1 x2 m) := by
  intro q
  induction q with
  | zero => intros; exact zG_none
  | succ q ih => exact T_X12_stateWith_2 n (L_X12_stateWith_2 n q) ih
set_option maxRecDepth 20000 in
theorem ct_X12_stateWith {ad sc sv : Nat → Nat} (n : Nat) (a0 : Int) (m : ZMem) (ha0 : R32 a0) : zCT LM ad sc sv M_X12_stateWith yX12_stateWith [.ref (ad 0), .int (mI a0)] m (F_X12_stateWith n a0 m) := by
  refine zCT_of (lv := [(0, .ref (ad 0)), (1, .int (mI a0))]) (by decide) rfl (Nat.le_of_ble_eq_true rfl) rfl ?_
  unfold F_X12_stateWith
  refine z_iconst dX12_stateWith_0 ?_
  refine z_istore_n dX12_stateWith_1 (lv' := [(2, .int (mI 0)), (0, .ref (ad 0)), (1, .int (mI a0))]) (by decide) rfl ?_
  exact zG_lvk (TL_X12_stateWith_2 n n a0 0 m ha0 (by decide)) [1, 2, 0] rfl
set_option maxRecDepth 20000 in
theorem T_X12_path_134 {ad sc sv : Nat → Nat} (n : Nat) (r134 : Int → Int → ZMem → ZR) (hr134 : ∀ (x2 : Int) (x4 : Int) (m : ZMem), R32 x2 → R32 x4 → zG LM ad sc sv M_X12_path 134 [(0, .ref (ad 0)), (2, .int (mI x2)), (4, .int (mI x4))] [] m (r134 x2 x4 m)) : ∀ (x2 : Int) (x4 : Int) (m : ZMem), R32 x2 → R32 x4 → zG LM ad sc sv M_X12_path 134 [(0, .ref (ad 0)), (2, .int (mI x2)), (4, .int (mI x4))] [] m (B_X12_path_134 n r134 x2 x4 m) := by
  intro x2 x4 m hx2 hx4
  unfold B_X12_path_134
  refine z_aload_n dX12_path_134 0 rfl ?_
  refine z_getR dX12_path_135 (k := 35) (j := 19) zc_X12 lm_0 rfl (by decide) k_1073 ?_
  refine z_iload dX12_path_138 2 rfl ?_
  refine z_iaload dX12_path_140 hx4 (fun h37 => ?_)
  refine z_iload_n dX12_path_141 1 rfl ?_
  refine z_iconst dX12_path_142 ?_
  refine z_iadd dX12_path_143 (fun h38 => ?_)
  refine z_icmp_le dX12_path_144 h37 h38 (tgt := 159) rfl (fun h39 => ?_) (fun h39 => ?_)
  · refine z_aload_n dX12_path_159 0 rfl ?_
    refine z_getR dX12_path_160 (k := 45) (j := 27) zc_X12 lm_0 rfl (by decide) k_1083 ?_
    refine z_iload dX12_path_163 2 rfl ?_
    refine z_iaload dX12_path_165 hx4 (fun h40 => ?_)
    exact z_iret dX12_path_166 rfl rfl h40
  · refine z_aload_n dX12_path_147 0 rfl ?_
    refine z_getR dX12_path_148 (k := 44) (j := 26) zc_X12 lm_0 rfl (by decide) k_1082 ?_
    refine z_iload dX12_path_151 2 rfl ?_
    refine z_iaload dX12_path_153 hx4 (fun h41 => ?_)
    refine z_istore dX12_path_154 (lv' := [(4, .int (mI (m 26 (x4 : Int).toNat))), (0, .ref (ad 0)), (2, .int (mI x2))]) (by decide) rfl ?_
    refine z_goto dX12_path_156 (tgt := 134) rfl ?_
    exact zG_lvk (hr134 x2 (m 26 (x4 : Int).toNat) m hx2 h41) [1, 2, 0] rfl
theorem TL_X12_path_134 {ad sc sv : Nat → Nat} (n : Nat) : ∀ q : Nat, ∀ (x2 : Int) (x4 : Int) (m : ZMem), R32 x2 → R32 x4 → zG LM ad sc sv M_X12_path 134 [(0, .ref (ad 0)), (2, .int (mI x2)), (4, .int (mI x4))] [] m (L_X12_path_134 n q x2 x4 m) := by
  intro q
  induction q with
  | zero => intros; exact zG_none
  | succ q ih => exact T_X12_path_134 n (L_X12_path_134 n q) ih
set_option maxRecDepth 20000 in
theorem T_X12_path_82 {ad sc sv : Nat → Nat} (n : Nat) (r82 : Int → Int → Int → ZMem → ZR) (hr82 : ∀ (x1 : Int) (x2 : Int) (x4 : Int) (m : ZMem), R32 x1 → R32 x2 → R32 x4 → zG LM ad sc sv M_X12_path 82 [(0, .ref (ad 0)), (1, .int (mI x1)), (2, .int (mI x2)), (4, .int (mI x4))] [] m (r82 x1 x2 x4 m)) : ∀ (x1 : Int) (x2 : Int) (x4 : Int) (m : ZMem), R32 x1 → R32 x2 → R32 x4 → zG LM ad sc sv M_X12_path 82 [(0, .ref (ad 0)), (1, .int (mI x1)), (2, .int (mI x2)), (4, .int (mI x4))] [] m (B_X12_path_82 n r82 x1 x2 x4 m) := by
  intro x1 x2 x4 m hx1 hx2 hx4
  unfold B_X12_path_82
  refine z_iload dX12_path_82 3 rfl ?_
  refine z_aload_n dX12_path_84 0 rfl ?_
  refine z_getI dX12_path_85 (k := 37) zc_X12 lm_0 rfl (by decide) k_1075 (fun h22 => ?_)
  refine z_icmp_ge dX12_path_88 hx4 h22 (tgt := 108) rfl (fun h23 => ?_) (fun h23 => ?_)
  · refine z_aload_n dX12_path_108 0 rfl ?_
    refine z_iload_n dX12_path_109 1 rfl ?_
    refine z_callV1 dX12_path_110 rfl (ct_X12_stateWith n x1 m hx1) zc_X12 lm_0 k_1594 k_1596 kp_86 k_10 k_1597 zn_X12_stateWith ⟨rfl, rfl, Nat.le_of_ble_eq_true rfl, Nat.le_of_ble_eq_true rfl⟩ (Nat.le_of_ble_eq_true rfl) rfl (fun v24 m25 h26 ho27 => ?_)
    refine z_istore dX12_path_113 (lv' := [(4, .int (mI v24)), (0, .ref (ad 0)), (1, .int (mI x1)), (2, .int (mI x2))]) (by decide) rfl ?_
    refine z_iload dX12_path_115 0 rfl ?_
    refine z_if_lt dX12_path_117 h26 (tgt := 131) rfl (fun h28 => ?_) (fun h28 => ?_)
    · refine z_bipush dX12_path_131 (x := (-9)) (by decide +kernel) ?_
      exact z_iret dX12_path_133 rfl rfl (by decide)
    · refine z_iload_n dX12_path_120 3 rfl ?_
      refine z_aload_n dX12_path_121 1 rfl ?_
      refine z_getR dX12_path_122 (k := 35) (j := 19) zc_X12 lm_0 rfl (by decide) k_1073 ?_
      refine z_iload dX12_path_125 0 rfl ?_
      refine z_iaload dX12_path_127 h26 (fun h29 => ?_)
      refine z_icmp_lt dX12_path_128 hx2 h29 (tgt := 134) rfl (fun h30 => ?_) (fun h30 => ?_)
      · exact zG_lvk (TL_X12_path_134 n n x2 v24 m25 hx2 h26) [1, 3, 0] rfl
      · refine z_bipush dX12_path_131 (x := (-9)) (by decide +kernel) ?_
        exact z_iret dX12_path_133 rfl rfl (by decide)
  · refine z_aload_n dX12_path_91 0 rfl ?_
    refine z_aload_n dX12_path_92 0 rfl ?_
    refine z_getR dX12_path_93 (k := 36) (j := 20) zc_X12 lm_0 rfl (by decide) k_1074 ?_
    refine z_iload dX12_path_96 3 rfl ?_
    refine z_iaload dX12_path_98 hx4 (fun h31 => ?_)
    refine z_callV0 dX12_path_99 rfl (ct_X12_stepsTold n (m 20 (x4 : Int).toNat) m h31) zc_X12 lm_0 k_1586 k_1588 kp_84 k_10 k_1589 zn_X12_stepsTold ⟨rfl, rfl, Nat.le_of_ble_eq_true rfl, Nat.le_of_ble_eq_true rfl⟩ (Nat.le_of_ble_eq_true rfl) rfl (fun v32 m33 ho35 => ?_)
    refine z_iinc dX12_path_102 (lv' := [(4, .int (mI (x4 + 1))), (0, .ref (ad 0)), (1, .int (mI x1)), (2, .int (mI x2))]) 3 rfl (by decide) rfl (fun h36 => ?_)
    refine z_goto dX12_path_105 (tgt := 82) rfl ?_
    exact zG_lvk (hr82 x1 x2 (x4 + 1) m33 hx1 hx2 h36) [1, 2, 3, 0] rfl
theorem TL_X12_path_82 {ad sc sv : Nat → Nat} (n : Nat) : ∀ q : Nat, ∀ (x1 : Int) (x2 : Int) (x4 : Int) (m : ZMem), R32 x1 → R32 x2 → R32 x4 → zG LM ad sc sv M_X12_path 82 [(0, .ref (ad 0)), (1, .int (mI x1)), (2, .int (mI x2)), (4, .int (mI x4))] [] m (L_X12_path_82 n q x1 x2 x4 m) := by
  intro q
  induction q with
  | zero => intros; exact zG_none
  | succ q ih => exact T_X12_path_82 n (L_X12_path_82 n q) ih
set_option maxRecDepth 20000 in
theorem T_X12_path_45 {ad sc sv : Nat → Nat} (n : Nat) (r45 : Int → Int → Int → ZMem → ZR) (hr45 : ∀ (x1 : Int) (x2 : Int) (x4 : Int) (m : ZMem), R32 x1 → R32 x2 → R32 x4 → zG LM ad sc sv M_X12_path 45 [(0, .ref (ad 0)), (1, .int (mI x1)), (2, .int (mI x2)), (4, .int (mI x4))] [] m (r45 x1 x2 x4 m)) : ∀ (x1 : Int) (x2 : Int) (x4 : Int) (m : ZMem), R32 x1 → R32 x2 → R32 x4 → zG LM ad sc sv M_X12_path 45 [(0, .ref (ad 0)), (1, .int (mI x1)), (2, .int (mI x2)), (4, .int (mI x4))] [] m (B_X12_path_45 n r45 x1 x2 x4 m) := by
  intro x1 x2 x4 m hx1 hx2 hx4
  unfold B_X12_path_45
  refine z_iload dX12_path_45 3 rfl ?_
  refine z_sipush dX12_path_47 (x := 2197) (by decide +kernel) ?_
  refine z_icmp_ge dX12_path_50 hx4 (by decide) (tgt := 68) rfl (fun h16 => ?_) (fun h16 => ?_)
  · refine z_aload_n dX12_path_68 0 rfl ?_
    refine z_iconst dX12_path_69 ?_
    refine z_putI dX12_path_70 (k := 37) zc_X12 lm_0 rfl (by decide) rfl rfl (by decide) k_1075 ?_
    refine z_aload_n dX12_path_73 0 rfl ?_
    refine z_iconst dX12_path_74 ?_
    refine z_iconst dX12_path_75 ?_
    refine z_callV0 dX12_path_76 rfl (ct_X12_reach n 0 0 (wr m 0 37 0) (by decide) (by decide)) zc_X12 lm_0 k_1452 k_1454 kp_71 k_10 k_1455 zn_X12_reach ⟨rfl, rfl, Nat.le_of_ble_eq_true rfl, Nat.le_of_ble_eq_true rfl⟩ (Nat.le_of_ble_eq_true rfl) rfl (fun v17 m18 ho20 => ?_)
    refine z_iconst dX12_path_79 ?_
    refine z_istore dX12_path_80 (lv' := [(4, .int (mI 0)), (0, .ref (ad 0)), (1, .int (mI x1)), (2, .int (mI x2))]) (by decide) rfl ?_
    exact zG_lvk (TL_X12_path_82 n n x1 x2 0 m18 hx1 hx2 (by decide)) [1, 2, 3, 0] rfl
  · refine z_aload_n dX12_path_53 0 rfl ?_
    refine z_getR dX12_path_54 (k := 35) (j := 19) zc_X12 lm_0 rfl (by decide) k_1073 ?_
    refine z_iload dX12_path_57 3 rfl ?_
    refine z_bipush dX12_path_59 (x := (-9)) (by decide +kernel) ?_
    refine z_iastore dX12_path_61 hx4 (by decide) ?_
    refine z_iinc dX12_path_62 (lv' := [(4, .int (mI (x4 + 1))), (0, .ref (ad 0)), (1, .int (mI x1)), (2, .int (mI x2))]) 3 rfl (by decide) rfl (fun h21 => ?_)
    refine z_goto dX12_path_65 (tgt := 45) rfl ?_
    exact zG_lvk (hr45 x1 x2 (x4 + 1) (wr m 19 (x4 : Int).toNat (-9)) hx1 hx2 h21) [1, 2, 3, 0] rfl
theorem TL_X12_path_45 {ad sc sv : Nat → Nat} (n : Nat) : ∀ q : Nat, ∀ (x1 : Int) (x2 : Int) (x4 : Int) (m : ZMem), R32 x1 → R32 x2 → R32 x4 → zG LM ad sc sv M_X12_path 45 [(0, .ref (ad 0)), (1, .int (mI x1)), (2, .int (mI x2)), (4, .int (mI x4))] [] m (L_X12_path_45 n q x1 x2 x4 m) := by
  intro q
  induction q with
  | zero => intros; exact zG_none
  | succ q ih => exact T_X12_path_45 n (L_X12_path_45 n q) ih
set_option maxRecDepth 20000 in
theorem ct_X12_path {ad sc sv : Nat → Nat} (n : Nat) (a0 : Int) (a1 : Int) (m : ZMem) (ha0 : R32 a0) (ha1 : R32 a1) : zCT LM ad sc sv M_X12_path yX12_path [.ref (ad 0), .int (mI a0), .int (mI a1)] m (F_X12_path n a0 a1 m) := by
  refine zCT_of (lv := [(0, .ref (ad 0)), (1, .int (mI a0)), (2, .int (mI a1))]) (by decide) rfl (Nat.le_of_ble_eq_true rfl) rfl ?_
  unfold F_X12_path
  refine z_aload_n dX12_path_0 0 rfl ?_
  refine z_iconst dX12_path_1 ?_
  refine z_putI dX12_path_2 (k := 16) zc_X12 lm_0 rfl (by decide) rfl rfl (by decide) k_1054 ?_
  refine z_iload_n dX12_path_5 1 rfl ?_
  refine z_iconst dX12_path_6 ?_
  refine z_icmp_lt dX12_path_7 ha0 (by decide) (tgt := 14) rfl (fun h1 => ?_) (fun h1 => ?_)
  · refine z_bipush dX12_path_14 (x := (-4)) (by decide +kernel) ?_
    refine z_goto dX12_path_16 (tgt := 31) rfl ?_
    refine z_istore_n dX12_path_31 (lv' := [(3, .int (mI (-4))), (0, .ref (ad 0)), (1, .int (mI a0)), (2, .int (mI a1))]) (by decide) rfl ?_
    refine z_iload_n dX12_path_32 0 rfl ?_
    refine z_if_ge_f dX12_path_33 (by decide) (by decide) (tgt := 42) rfl ?_
    refine z_aload_n dX12_path_36 1 rfl ?_
    refine z_iload_n dX12_path_37 0 rfl ?_
    refine z_callV1 dX12_path_38 rfl (ct_X12_refuse n (-4) (wr m 0 16 0) (by decide)) zc_X12 lm_0 k_1194 k_1196 kp_37 k_10 k_1197 zn_X12_refuse ⟨rfl, rfl, Nat.le_of_ble_eq_true rfl, Nat.le_of_ble_eq_true rfl⟩ (Nat.le_of_ble_eq_true rfl) rfl (fun v2 m3 h4 ho5 => ?_)
    exact z_iret dX12_path_41 rfl rfl h4
  · refine z_iload_n dX12_path_10 2 rfl ?_
    refine z_if_ge dX12_path_11 ha1 (tgt := 19) rfl (fun h6 => ?_) (fun h6 => ?_)
    · refine z_iload_n dX12_path_19 1 rfl ?_
      refine z_bipush dX12_path_20 (x := 12) (by decide +kernel) ?_
      refine z_icmp_le dX12_path_22 ha0 (by decide) (tgt := 30) rfl (fun h7 => ?_) (fun h7 => ?_)
      · refine z_iconst dX12_path_30 ?_
        refine z_istore_n dX12_path_31 (lv' := [(3, .int (mI 0)), (0, .ref (ad 0)), (1, .int (mI a0)), (2, .int (mI a1))]) (by decide) rfl ?_
        refine z_iload_n dX12_path_32 0 rfl ?_
        refine z_if_ge_t dX12_path_33 (by decide) (by decide) (tgt := 42) rfl ?_
        refine z_iconst dX12_path_42 ?_
        refine z_istore dX12_path_43 (lv' := [(4, .int (mI 0)), (3, .int (mI 0)), (0, .ref (ad 0)), (1, .int (mI a0)), (2, .int (mI a1))]) (by decide) rfl ?_
        exact zG_lvk (TL_X12_path_45 n n a0 a1 0 (wr m 0 16 0) ha0 ha1 (by decide)) [2, 3, 4, 0] rfl
      · refine z_bipush dX12_path_25 (x := (-6)) (by decide +kernel) ?_
        refine z_goto dX12_path_27 (tgt := 31) rfl ?_
        refine z_istore_n dX12_path_31 (lv' := [(3, .int (mI (-6))), (0, .ref (ad 0)), (1, .int (mI a0)), (2, .int (mI a1))]) (by decide) rfl ?_
        refine z_iload_n dX12_path_32 0 rfl ?_
        refine z_if_ge_f dX12_path_33 (by decide) (by decide) (tgt := 42) rfl ?_
        refine z_aload_n dX12_path_36 1 rfl ?_
        refine z_iload_n dX12_path_37 0 rfl ?_
        refine z_callV1 dX12_path_38 rfl (ct_X12_refuse n (-6) (wr m 0 16 0) (by decide)) zc_X12 lm_0 k_1194 k_1196 kp_37 k_10 k_1197 zn_X12_refuse ⟨rfl, rfl, Nat.le_of_ble_eq_true rfl, Nat.le_of_ble_eq_true rfl⟩ (Nat.le_of_ble_eq_true rfl) rfl (fun v8 m9 h10 ho11 => ?_)
        exact z_iret dX12_path_41 rfl rfl h10
    · refine z_bipush dX12_path_14 (x := (-4)) (by decide +kernel) ?_
      refine z_goto dX12_path_16 (tgt := 31) rfl ?_
      refine z_istore_n dX12_path_31 (lv' := [(3, .int (mI (-4))), (0, .ref (ad 0)), (1, .int (mI a0)), (2, .int (mI a1))]) (by decide) rfl ?_
      refine z_iload_n dX12_path_32 0 rfl ?_
      refine z_if_ge_f dX12_path_33 (by decide) (by decide) (tgt := 42) rfl ?_
      refine z_aload_n dX12_path_36 1 rfl ?_
      refine z_iload_n dX12_path_37 0 rfl ?_
      refine z_callV1 dX12_path_38 rfl (ct_X12_refuse n (-4) (wr m 0 16 0) (by decide)) zc_X12 lm_0 k_1194 k_1196 kp_37 k_10 k_1197 zn_X12_refuse ⟨rfl, rfl, Nat.le_of_ble_eq_true rfl, Nat.le_of_ble_eq_true rfl⟩ (Nat.le_of_ble_eq_true rfl) rfl (fun v12 m13 h14 ho15 => ?_)
      exact z_iret dX12_path_41 rfl rfl h14
set_option maxRecDepth 20000 in
theorem T_X12_dish_83 {ad sc sv : Nat → Nat} (n : Nat) : ∀ (x1 : Int) (x2 : Int) (x3 : Int) (x4 : Int) (x5 : Int) (x6 : Int) (m : ZMem), R32 x1 → R32 x2 → R32 x3 → R32 x4 → R32 x5 → R32 x6 → zG LM ad sc sv M_X12_dish 83 [(0, .ref (ad 0)), (1, .int (mI x1)), (2, .int (mI x2)), (3, .int (mI x3)), (4, .int (mI x4)), (5, .int (mI x5)), (6, .int (mI x6))] [] m (B_X12_dish_83 n x1 x2 x3 x4 x5 x6 m) := by
  intro x1 x2 x3 x4 x5 x6 m hx1 hx2 hx3 hx4 hx5 hx6
  unfold B_X12_dish_83
  refine z_iload dX12_dish_83 6 rfl ?_
  refine z_if_ge dX12_dish_85 hx6 (tgt := 95) rfl (fun h19 => ?_) (fun h19 => ?_)
  · refine z_aload_n dX12_dish_95 0 rfl ?_
    refine z_getR dX12_dish_96 (k := 46) (j := 28) zc_X12 lm_0 rfl (by decide) k_1084 ?_
    refine z_iconst dX12_dish_99 ?_
    refine z_aload_n dX12_dish_100 0 rfl ?_
    refine z_getI dX12_dish_101 (k := 47) zc_X12 lm_0 rfl (by decide) k_1085 (fun h20 => ?_)
    refine z_imul dX12_dish_104 (fun h21 => ?_)
    refine z_iload_n dX12_dish_105 1 rfl ?_
    refine z_iastore dX12_dish_106 h21 hx1 ?_
    refine z_aload_n dX12_dish_107 0 rfl ?_
    refine z_getR dX12_dish_108 (k := 46) (j := 28) zc_X12 lm_0 rfl (by decide) k_1084 ?_
    refine z_iconst dX12_dish_111 ?_
    refine z_aload_n dX12_dish_112 0 rfl ?_
    refine z_getI dX12_dish_113 (k := 47) zc_X12 lm_0 rfl (by decide) k_1085 (fun h22 => ?_)
    refine z_imul dX12_dish_116 (fun h23 => ?_)
    refine z_iconst dX12_dish_117 ?_
    refine z_iadd dX12_dish_118 (fun h24 => ?_)
    refine z_iload_n dX12_dish_119 2 rfl ?_
    refine z_iastore dX12_dish_120 h24 hx2 ?_
    refine z_aload_n dX12_dish_121 0 rfl ?_
    refine z_getR dX12_dish_122 (k := 46) (j := 28) zc_X12 lm_0 rfl (by decide) k_1084 ?_
    refine z_iconst dX12_dish_125 ?_
    refine z_aload_n dX12_dish_126 0 rfl ?_
    refine z_getI dX12_dish_127 (k := 47) zc_X12 lm_0 rfl (by decide) k_1085 (fun h25 => ?_)
    refine z_imul dX12_dish_130 (fun h26 => ?_)
    refine z_iconst dX12_dish_131 ?_
    refine z_iadd dX12_dish_132 (fun h27 => ?_)
    refine z_iload_n dX12_dish_133 3 rfl ?_
    refine z_iastore dX12_dish_134 h27 hx3 ?_
    refine z_aload_n dX12_dish_135 0 rfl ?_
    refine z_getR dX12_dish_136 (k := 46) (j := 28) zc_X12 lm_0 rfl (by decide) k_1084 ?_
    refine z_iconst dX12_dish_139 ?_
    refine z_aload_n dX12_dish_140 0 rfl ?_
    refine z_getI dX12_dish_141 (k := 47) zc_X12 lm_0 rfl (by decide) k_1085 (fun h28 => ?_)
    refine z_imul dX12_dish_144 (fun h29 => ?_)
    refine z_iconst dX12_dish_145 ?_
    refine z_iadd dX12_dish_146 (fun h30 => ?_)
    refine z_iload dX12_dish_147 4 rfl ?_
    refine z_iastore dX12_dish_149 h30 hx4 ?_
    refine z_aload_n dX12_dish_150 0 rfl ?_
    refine z_getR dX12_dish_151 (k := 46) (j := 28) zc_X12 lm_0 rfl (by decide) k_1084 ?_
    refine z_iconst dX12_dish_154 ?_
    refine z_aload_n dX12_dish_155 0 rfl ?_
    refine z_getI dX12_dish_156 (k := 47) zc_X12 lm_0 rfl (by decide) k_1085 (fun h31 => ?_)
    refine z_imul dX12_dish_159 (fun h32 => ?_)
    refine z_iconst dX12_dish_160 ?_
    refine z_iadd dX12_dish_161 (fun h33 => ?_)
    refine z_iload dX12_dish_162 5 rfl ?_
    refine z_iastore dX12_dish_164 h33 hx5 ?_
    refine z_aload_n dX12_dish_165 0 rfl ?_
    refine z_dup dX12_dish_166 rfl ?_
    refine z_getI dX12_dish_167 (k := 47) zc_X12 lm_0 rfl (by decide) k_1085 (fun h34 => ?_)
    refine z_iconst dX12_dish_170 ?_
    refine z_iadd dX12_dish_171 (fun h35 => ?_)
    refine z_putI dX12_dish_172 (k := 47) zc_X12 lm_0 rfl (by decide) rfl rfl h35 k_1085 ?_
    refine z_aload_n dX12_dish_175 0 rfl ?_
    refine z_getI dX12_dish_176 (k := 47) zc_X12 lm_0 rfl (by decide) k_1085 (fun h36 => ?_)
    refine z_iconst dX12_dish_179 ?_
    refine z_isub dX12_dish_180 (fun h37 => ?_)
    exact z_iret dX12_dish_181 rfl rfl h37
  · refine z_aload_n dX12_dish_88 0 rfl ?_
    refine z_iload dX12_dish_89 6 rfl ?_
    refine z_callV1 dX12_dish_91 rfl (ct_X12_refuse n x6 m hx6) zc_X12 lm_0 k_1194 k_1196 kp_37 k_10 k_1197 zn_X12_refuse ⟨rfl, rfl, Nat.le_of_ble_eq_true rfl, Nat.le_of_ble_eq_true rfl⟩ (Nat.le_of_ble_eq_true rfl) rfl (fun v38 m39 h40 ho41 => ?_)
    exact z_iret dX12_dish_94 rfl rfl h40
set_option maxRecDepth 20000 in
theorem ct_X12_dish {ad sc sv : Nat → Nat} (n : Nat) (a0 : Int) (a1 : Int) (a2 : Int) (a3 : Int) (a4 : Int) (m : ZMem) (ha0 : R32 a0) (ha1 : R32 a1) (ha2 : R32 a2) (ha3 : R32 a3) (ha4 : R32 a4) : zCT LM ad sc sv M_X12_dish yX12_dish [.ref (ad 0), .int (mI a0), .int (mI a1), .int (mI a2), .int (mI a3), .int (mI a4)] m (F_X12_dish n a0 a1 a2 a3 a4 m) := by
  refine zCT_of (lv := [(0, .ref (ad 0)), (1, .int (mI a0)), (2, .int (mI a1)), (3, .int (mI a2)), (4, .int (mI a3)), (5, .int (mI a4))]) (by decide) rfl (Nat.le_of_ble_eq_true rfl) rfl ?_
  unfold F_X12_dish
  refine z_aload_n dX12_dish_0 0 rfl ?_
  refine z_iconst dX12_dish_1 ?_
  refine z_putI dX12_dish_2 (k := 16) zc_X12 lm_0 rfl (by decide) rfl rfl (by decide) k_1054 ?_
  refine z_iconst dX12_dish_5 ?_
  refine z_istore dX12_dish_6 (lv' := [(6, .int (mI 0)), (0, .ref (ad 0)), (1, .int (mI a0)), (2, .int (mI a1)), (3, .int (mI a2)), (4, .int (mI a3)), (5, .int (mI a4))]) (by decide) rfl ?_
  refine z_aload_n dX12_dish_8 1 rfl ?_
  refine z_iload_n dX12_dish_9 2 rfl ?_
  refine z_callV4 dX12_dish_10 rfl (ct_X12_isPart n a0 (wr m 0 16 0) ha0) zc_X12 lm_0 k_1256 k_1258 kp_50 k_10 k_1259 zn_X12_isPart ⟨rfl, rfl, Nat.le_of_ble_eq_true rfl, Nat.le_of_ble_eq_true rfl⟩ (Nat.le_of_ble_eq_true rfl) rfl (fun v1 m2 h3 ho4 => ?_)
  refine z_if_eq dX12_dish_13 (zb01 h3) (tgt := 24) rfl (fun h5 => ?_) (fun h5 => ?_)
  · refine z_iconst dX12_dish_24 ?_
    refine z_istore dX12_dish_25 (lv' := [(6, .int (mI (-1))), (0, .ref (ad 0)), (1, .int (mI a0)), (2, .int (mI a1)), (3, .int (mI a2)), (4, .int (mI a3)), (5, .int (mI a4))]) (by decide) rfl ?_
    refine z_goto dX12_dish_27 (tgt := 83) rfl ?_
    exact zG_lvk (T_X12_dish_83 n a0 a1 a2 a3 a4 (-1) m2 ha0 ha1 ha2 ha3 ha4 (by decide)) [1, 2, 3, 4, 5, 6, 0] rfl
  · refine z_aload_n dX12_dish_16 1 rfl ?_
    refine z_iload_n dX12_dish_17 4 rfl ?_
    refine z_callV4 dX12_dish_18 rfl (ct_X12_isPart n a2 m2 ha2) zc_X12 lm_0 k_1256 k_1258 kp_50 k_10 k_1259 zn_X12_isPart ⟨rfl, rfl, Nat.le_of_ble_eq_true rfl, Nat.le_of_ble_eq_true rfl⟩ (Nat.le_of_ble_eq_true rfl) rfl (fun v6 m7 h8 ho9 => ?_)
    refine z_if_ne dX12_dish_21 (zb01 h8) (tgt := 30) rfl (fun h10 => ?_) (fun h10 => ?_)
    · refine z_iconst dX12_dish_24 ?_
      refine z_istore dX12_dish_25 (lv' := [(6, .int (mI (-1))), (0, .ref (ad 0)), (1, .int (mI a0)), (2, .int (mI a1)), (3, .int (mI a2)), (4, .int (mI a3)), (5, .int (mI a4))]) (by decide) rfl ?_
      refine z_goto dX12_dish_27 (tgt := 83) rfl ?_
      exact zG_lvk (T_X12_dish_83 n a0 a1 a2 a3 a4 (-1) m7 ha0 ha1 ha2 ha3 ha4 (by decide)) [1, 2, 3, 4, 5, 6, 0] rfl
    · refine z_iload_n dX12_dish_30 3 rfl ?_
      refine z_if_lt dX12_dish_31 ha1 (tgt := 44) rfl (fun h11 => ?_) (fun h11 => ?_)
      · refine z_bipush dX12_dish_44 (x := (-4)) (by decide +kernel) ?_
        refine z_istore dX12_dish_46 (lv' := [(6, .int (mI (-4))), (0, .ref (ad 0)), (1, .int (mI a0)), (2, .int (mI a1)), (3, .int (mI a2)), (4, .int (mI a3)), (5, .int (mI a4))]) (by decide) rfl ?_
        refine z_goto dX12_dish_48 (tgt := 83) rfl ?_
        exact zG_lvk (T_X12_dish_83 n a0 a1 a2 a3 a4 (-4) m7 ha0 ha1 ha2 ha3 ha4 (by decide)) [1, 2, 3, 4, 5, 6, 0] rfl
      · refine z_iload dX12_dish_34 5 rfl ?_
        refine z_if_lt dX12_dish_36 ha3 (tgt := 44) rfl (fun h12 => ?_) (fun h12 => ?_)
        · refine z_bipush dX12_dish_44 (x := (-4)) (by decide +kernel) ?_
          refine z_istore dX12_dish_46 (lv' := [(6, .int (mI (-4))), (0, .ref (ad 0)), (1, .int (mI a0)), (2, .int (mI a1)), (3, .int (mI a2)), (4, .int (mI a3)), (5, .int (mI a4))]) (by decide) rfl ?_
          refine z_goto dX12_dish_48 (tgt := 83) rfl ?_
          exact zG_lvk (T_X12_dish_83 n a0 a1 a2 a3 a4 (-4) m7 ha0 ha1 ha2 ha3 ha4 (by decide)) [1, 2, 3, 4, 5, 6, 0] rfl
        · refine z_iload dX12_dish_39 6 rfl ?_
          refine z_if_ge dX12_dish_41 ha4 (tgt := 51) rfl (fun h13 => ?_) (fun h13 => ?_)
          · refine z_iload_n dX12_dish_51 3 rfl ?_
            refine z_bipush dX12_dish_52 (x := 99) (by decide +kernel) ?_
            refine z_icmp_gt dX12_dish_54 ha1 (by decide) (tgt := 79) rfl (fun h14 => ?_) (fun h14 => ?_)
            · refine z_bipush dX12_dish_79 (x := (-6)) (by decide +kernel) ?_
              refine z_istore dX12_dish_81 (lv' := [(6, .int (mI (-6))), (0, .ref (ad 0)), (1, .int (mI a0)), (2, .int (mI a1)), (3, .int (mI a2)), (4, .int (mI a3)), (5, .int (mI a4))]) (by decide) rfl ?_
              exact zG_lvk (T_X12_dish_83 n a0 a1 a2 a3 a4 (-6) m7 ha0 ha1 ha2 ha3 ha4 (by decide)) [1, 2, 3, 4, 5, 6, 0] rfl
            · refine z_iload dX12_dish_57 5 rfl ?_
              refine z_bipush dX12_dish_59 (x := 99) (by decide +kernel) ?_
              refine z_icmp_gt dX12_dish_61 ha3 (by decide) (tgt := 79) rfl (fun h15 => ?_) (fun h15 => ?_)
              · refine z_bipush dX12_dish_79 (x := (-6)) (by decide +kernel) ?_
                refine z_istore dX12_dish_81 (lv' := [(6, .int (mI (-6))), (0, .ref (ad 0)), (1, .int (mI a0)), (2, .int (mI a1)), (3, .int (mI a2)), (4, .int (mI a3)), (5, .int (mI a4))]) (by decide) rfl ?_
                exact zG_lvk (T_X12_dish_83 n a0 a1 a2 a3 a4 (-6) m7 ha0 ha1 ha2 ha3 ha4 (by decide)) [1, 2, 3, 4, 5, 6, 0] rfl
              · refine z_iload dX12_dish_64 6 rfl ?_
                refine z_bipush dX12_dish_66 (x := 99) (by decide +kernel) ?_
                refine z_icmp_gt dX12_dish_68 ha4 (by decide) (tgt := 79) rfl (fun h16 => ?_) (fun h16 => ?_)
                · refine z_bipush dX12_dish_79 (x := (-6)) (by decide +kernel) ?_
                  refine z_istore dX12_dish_81 (lv' := [(6, .int (mI (-6))), (0, .ref (ad 0)), (1, .int (mI a0)), (2, .int (mI a1)), (3, .int (mI a2)), (4, .int (mI a3)), (5, .int (mI a4))]) (by decide) rfl ?_
                  exact zG_lvk (T_X12_dish_83 n a0 a1 a2 a3 a4 (-6) m7 ha0 ha1 ha2 ha3 ha4 (by decide)) [1, 2, 3, 4, 5, 6, 0] rfl
                · refine z_aload_n dX12_dish_71 1 rfl ?_
                  refine z_getI dX12_dish_72 (k := 47) zc_X12 lm_0 rfl (by decide) k_1085 (fun h17 => ?_)
                  refine z_iconst dX12_dish_75 ?_
                  refine z_icmp_ne dX12_dish_76 h17 (by decide) (tgt := 83) rfl (fun h18 => ?_) (fun h18 => ?_)
                  · refine z_bipush dX12_dish_79 (x := (-6)) (by decide +kernel) ?_
                    refine z_istore dX12_dish_81 (lv' := [(6, .int (mI (-6))), (0, .ref (ad 0)), (1, .int (mI a0)), (2, .int (mI a1)), (3, .int (mI a2)), (4, .int (mI a3)), (5, .int (mI a4))]) (by decide) rfl ?_
                    exact zG_lvk (T_X12_dish_83 n a0 a1 a2 a3 a4 (-6) m7 ha0 ha1 ha2 ha3 ha4 (by decide)) [1, 2, 3, 4, 5, 6, 0] rfl
                  · exact zG_lvk (T_X12_dish_83 n a0 a1 a2 a3 a4 0 m7 ha0 ha1 ha2 ha3 ha4 (by decide)) [1, 2, 3, 4, 5, 6, 0] rfl
          · refine z_bipush dX12_dish_44 (x := (-4)) (by decide +kernel) ?_
            refine z_istore dX12_dish_46 (lv' := [(6, .int (mI (-4))), (0, .ref (ad 0)), (1, .int (mI a0)), (2, .int (mI a1)), (3, .int (mI a2)), (4, .int (mI a3)), (5, .int (mI a4))]) (by decide) rfl ?_
            refine z_goto dX12_dish_48 (tgt := 83) rfl ?_
            exact zG_lvk (T_X12_dish_83 n a0 a1 a2 a3 a4 (-4) m7 ha0 ha1 ha2 ha3 ha4 (by decide)) [1, 2, 3, 4, 5, 6, 0] rfl
set_option maxRecDepth 20000 in
theorem T_X12_isLeftFor_68 {ad sc sv : Nat → Nat} (n : Nat) (r4 : Int → Int → Int → ZMem → ZR) (r18 : Int → Int → Int → Int → Int → ZMem → ZR) (hr4 : ∀ (x1 : Int) (x2 : Int) (x3 : Int) (m : ZMem), R32 x1 → R32 x2 → R32 x3 → zG LM ad sc sv M_X12_isLeftFor 4 [(0, .ref (ad 0)), (1, .int (mI x1)), (2, .int (mI x2)), (3, .int (mI x3))] [] m (r4 x1 x2 x3 m)) (hr18 : ∀ (x1 : Int) (x2 : Int) (x3 : Int) (x4 : Int) (x5 : Int) (m : ZMem), R32 x1 → R32 x2 → R32 x3 → R32 x4 → R32 x5 → zG LM ad sc sv M_X12_isLeftFor 18 [(0, .ref (ad 0)), (1, .int (mI x1)), (2, .int (mI x2)), (3, .int (mI x3)), (4, .int (mI x4)), (5, .int (mI x5))] [] m (r18 x1 x2 x3 x4 x5 m)) : ∀ (x1 : Int) (x2 : Int) (x3 : Int) (x5 : Int) (x6 : Int) (s0 : Int) (s1 : Int) (m : ZMem), R32 x1 → R32 x2 → R32 x3 → R32 x5 → R32 x6 → R32 s0 → R32 s1 → zG LM ad sc sv M_X12_isLeftFor 68 [(0, .ref (ad 0)), (1, .int (mI x1)), (2, .int (mI x2)), (3, .int (mI x3)), (5, .int (mI x5)), (6, .int (mI x6))] [.int (mI s0), .int (mI s1)] m (B_X12_isLeftFor_68 n r4 r18 x1 x2 x3 x5 x6 s0 s1 m) := by
  intro x1 x2 x3 x5 x6 s0 s1 m hx1 hx2 hx3 hx5 hx6 hs0 hs1
  unfold B_X12_isLeftFor_68
  refine z_iadd dX12_isLeftFor_68 (fun h24 => ?_)
  refine z_istore dX12_isLeftFor_69 (lv' := [(4, .int (mI (s1 + s0))), (0, .ref (ad 0)), (1, .int (mI x1)), (2, .int (mI x2)), (3, .int (mI x3)), (5, .int (mI x5)), (6, .int (mI x6))]) (by decide) rfl ?_
  refine z_iload dX12_isLeftFor_71 0 rfl ?_
  refine z_aload_n dX12_isLeftFor_73 1 rfl ?_
  refine z_getR dX12_isLeftFor_74 (k := 46) (j := 28) zc_X12 lm_0 rfl (by decide) k_1084 ?_
  refine z_iconst dX12_isLeftFor_77 ?_
  refine z_iload dX12_isLeftFor_78 5 rfl ?_
  refine z_imul dX12_isLeftFor_80 (fun h25 => ?_)
  refine z_iconst dX12_isLeftFor_81 ?_
  refine z_iadd dX12_isLeftFor_82 (fun h26 => ?_)
  refine z_iaload dX12_isLeftFor_83 h26 (fun h27 => ?_)
  refine z_iload_n dX12_isLeftFor_84 4 rfl ?_
  refine z_icmp_ne dX12_isLeftFor_85 h27 hx3 (tgt := 105) rfl (fun h28 => ?_) (fun h28 => ?_)
  · refine z_iload dX12_isLeftFor_88 6 rfl ?_
    refine z_aload_n dX12_isLeftFor_90 1 rfl ?_
    refine z_getR dX12_isLeftFor_91 (k := 46) (j := 28) zc_X12 lm_0 rfl (by decide) k_1084 ?_
    refine z_iconst dX12_isLeftFor_94 ?_
    refine z_iload dX12_isLeftFor_95 5 rfl ?_
    refine z_imul dX12_isLeftFor_97 (fun h29 => ?_)
    refine z_iconst dX12_isLeftFor_98 ?_
    refine z_iadd dX12_isLeftFor_99 (fun h30 => ?_)
    refine z_iaload dX12_isLeftFor_100 h30 (fun h31 => ?_)
    refine z_imul dX12_isLeftFor_101 (fun h32 => ?_)
    refine z_goto dX12_isLeftFor_102 (tgt := 106) rfl ?_
    refine z_iadd dX12_isLeftFor_106 (fun h33 => ?_)
    refine z_istore dX12_isLeftFor_107 (lv' := [(4, .int (mI ((s1 + s0) + (x6 * (m 28 (((5 * x5) + 3) : Int).toNat))))), (0, .ref (ad 0)), (1, .int (mI x1)), (2, .int (mI x2)), (3, .int (mI x3)), (5, .int (mI x5)), (6, .int (mI x6))]) (by decide) rfl ?_
    refine z_iinc dX12_isLeftFor_109 (lv' := [(5, .int (mI (x5 + 1))), (4, .int (mI ((s1 + s0) + (x6 * (m 28 (((5 * x5) + 3) : Int).toNat))))), (0, .ref (ad 0)), (1, .int (mI x1)), (2, .int (mI x2)), (3, .int (mI x3)), (6, .int (mI x6))]) 5 rfl (by decide) rfl (fun h34 => ?_)
    refine z_goto dX12_isLeftFor_112 (tgt := 18) rfl ?_
    exact zG_lvk (hr18 x1 x2 x3 ((s1 + s0) + (x6 * (m 28 (((5 * x5) + 3) : Int).toNat))) (x5 + 1) m hx1 hx2 hx3 h33 h34) [2, 3, 4, 5, 1, 0] rfl
  · refine z_iconst dX12_isLeftFor_105 ?_
    refine z_iadd dX12_isLeftFor_106 (fun h35 => ?_)
    refine z_istore dX12_isLeftFor_107 (lv' := [(4, .int (mI ((s1 + s0) + 0))), (0, .ref (ad 0)), (1, .int (mI x1)), (2, .int (mI x2)), (3, .int (mI x3)), (5, .int (mI x5)), (6, .int (mI x6))]) (by decide) rfl ?_
    refine z_iinc dX12_isLeftFor_109 (lv' := [(5, .int (mI (x5 + 1))), (4, .int (mI ((s1 + s0) + 0))), (0, .ref (ad 0)), (1, .int (mI x1)), (2, .int (mI x2)), (3, .int (mI x3)), (6, .int (mI x6))]) 5 rfl (by decide) rfl (fun h36 => ?_)
    refine z_goto dX12_isLeftFor_112 (tgt := 18) rfl ?_
    exact zG_lvk (hr18 x1 x2 x3 ((s1 + s0) + 0) (x5 + 1) m hx1 hx2 hx3 h35 h36) [2, 3, 4, 5, 1, 0] rfl
set_option maxRecDepth 20000 in
theorem T_X12_isLeftFor_18 {ad sc sv : Nat → Nat} (n : Nat) (r4 : Int → Int → Int → ZMem → ZR) (r18 : Int → Int → Int → Int → Int → ZMem → ZR) (hr4 : ∀ (x1 : Int) (x2 : Int) (x3 : Int) (m : ZMem), R32 x1 → R32 x2 → R32 x3 → zG LM ad sc sv M_X12_isLeftFor 4 [(0, .ref (ad 0)), (1, .int (mI x1)), (2, .int (mI x2)), (3, .int (mI x3))] [] m (r4 x1 x2 x3 m)) (hr18 : ∀ (x1 : Int) (x2 : Int) (x3 : Int) (x4 : Int) (x5 : Int) (m : ZMem), R32 x1 → R32 x2 → R32 x3 → R32 x4 → R32 x5 → zG LM ad sc sv M_X12_isLeftFor 18 [(0, .ref (ad 0)), (1, .int (mI x1)), (2, .int (mI x2)), (3, .int (mI x3)), (4, .int (mI x4)), (5, .int (mI x5))] [] m (r18 x1 x2 x3 x4 x5 m)) : ∀ (x1 : Int) (x2 : Int) (x3 : Int) (x4 : Int) (x5 : Int) (m : ZMem), R32 x1 → R32 x2 → R32 x3 → R32 x4 → R32 x5 → zG LM ad sc sv M_X12_isLeftFor 18 [(0, .ref (ad 0)), (1, .int (mI x1)), (2, .int (mI x2)), (3, .int (mI x3)), (4, .int (mI x4)), (5, .int (mI x5))] [] m (B_X12_isLeftFor_18 n r4 r18 x1 x2 x3 x4 x5 m) := by
  intro x1 x2 x3 x4 x5 m hx1 hx2 hx3 hx4 hx5
  unfold B_X12_isLeftFor_18
  refine z_iload dX12_isLeftFor_18 5 rfl ?_
  refine z_aload_n dX12_isLeftFor_20 0 rfl ?_
  refine z_getI dX12_isLeftFor_21 (k := 47) zc_X12 lm_0 rfl (by decide) k_1085 (fun h4 => ?_)
  refine z_icmp_ge dX12_isLeftFor_24 hx5 h4 (tgt := 115) rfl (fun h5 => ?_) (fun h5 => ?_)
  · refine z_iload_n dX12_isLeftFor_115 2 rfl ?_
    refine z_if_eq dX12_isLeftFor_116 hx2 (tgt := 133) rfl (fun h6 => ?_) (fun h6 => ?_)
    · refine z_iconst dX12_isLeftFor_133 ?_
      refine z_istore_n dX12_isLeftFor_134 (lv' := [(2, .int (mI 0)), (0, .ref (ad 0)), (1, .int (mI x1)), (3, .int (mI x3)), (4, .int (mI x4)), (5, .int (mI x5))]) (by decide) rfl ?_
      refine z_iinc dX12_isLeftFor_135 (lv' := [(3, .int (mI (x3 + 1))), (2, .int (mI 0)), (0, .ref (ad 0)), (1, .int (mI x1)), (4, .int (mI x4)), (5, .int (mI x5))]) 3 rfl (by decide) rfl (fun h7 => ?_)
      refine z_goto dX12_isLeftFor_138 (tgt := 4) rfl ?_
      exact zG_lvk (hr4 x1 0 (x3 + 1) m hx1 (by decide) h7) [2, 3, 1, 0] rfl
    · refine z_iload dX12_isLeftFor_119 4 rfl ?_
      refine z_aload_n dX12_isLeftFor_121 0 rfl ?_
      refine z_iload_n dX12_isLeftFor_122 3 rfl ?_
      refine z_callV1 dX12_isLeftFor_123 rfl (ct_X12_leftOf n x3 m hx3) zc_X12 lm_0 k_1310 k_1312 kp_57 k_10 k_1313 zn_X12_leftOf ⟨rfl, rfl, Nat.le_of_ble_eq_true rfl, Nat.le_of_ble_eq_true rfl⟩ (Nat.le_of_ble_eq_true rfl) rfl (fun v8 m9 h10 ho11 => ?_)
      refine z_icmp_gt dX12_isLeftFor_126 hx4 h10 (tgt := 133) rfl (fun h12 => ?_) (fun h12 => ?_)
      · refine z_iconst dX12_isLeftFor_133 ?_
        refine z_istore_n dX12_isLeftFor_134 (lv' := [(2, .int (mI 0)), (0, .ref (ad 0)), (1, .int (mI x1)), (3, .int (mI x3)), (4, .int (mI x4)), (5, .int (mI x5))]) (by decide) rfl ?_
        refine z_iinc dX12_isLeftFor_135 (lv' := [(3, .int (mI (x3 + 1))), (2, .int (mI 0)), (0, .ref (ad 0)), (1, .int (mI x1)), (4, .int (mI x4)), (5, .int (mI x5))]) 3 rfl (by decide) rfl (fun h13 => ?_)
        refine z_goto dX12_isLeftFor_138 (tgt := 4) rfl ?_
        exact zG_lvk (hr4 x1 0 (x3 + 1) m9 hx1 (by decide) h13) [2, 3, 1, 0] rfl
      · refine z_iconst dX12_isLeftFor_129 ?_
        refine z_goto dX12_isLeftFor_130 (tgt := 134) rfl ?_
        refine z_istore_n dX12_isLeftFor_134 (lv' := [(2, .int (mI 1)), (0, .ref (ad 0)), (1, .int (mI x1)), (3, .int (mI x3)), (4, .int (mI x4)), (5, .int (mI x5))]) (by decide) rfl ?_
        refine z_iinc dX12_isLeftFor_135 (lv' := [(3, .int (mI (x3 + 1))), (2, .int (mI 1)), (0, .ref (ad 0)), (1, .int (mI x1)), (4, .int (mI x4)), (5, .int (mI x5))]) 3 rfl (by decide) rfl (fun h14 => ?_)
        refine z_goto dX12_isLeftFor_138 (tgt := 4) rfl ?_
        exact zG_lvk (hr4 x1 1 (x3 + 1) m9 hx1 (by decide) h14) [2, 3, 1, 0] rfl
  · refine z_iload_n dX12_isLeftFor_27 1 rfl ?_
    refine z_iload dX12_isLeftFor_28 5 rfl ?_
    refine z_ishr dX12_isLeftFor_30 hx1 (fun h15 => ?_)
    refine z_iconst dX12_isLeftFor_31 ?_
    refine z_iandm dX12_isLeftFor_32 1 (by decide +kernel) (by decide) (fun h16 => ?_)
    refine z_istore dX12_isLeftFor_33 (lv' := [(6, .int (mI ((x1 / 2 ^ (x5 : Int).toNat) % 2 ^ 1))), (0, .ref (ad 0)), (1, .int (mI x1)), (2, .int (mI x2)), (3, .int (mI x3)), (4, .int (mI x4)), (5, .int (mI x5))]) (by decide) rfl ?_
    refine z_iload dX12_isLeftFor_35 5 rfl ?_
    refine z_aload_n dX12_isLeftFor_37 1 rfl ?_
    refine z_getR dX12_isLeftFor_38 (k := 46) (j := 28) zc_X12 lm_0 rfl (by decide) k_1084 ?_
    refine z_iconst dX12_isLeftFor_41 ?_
    refine z_iload dX12_isLeftFor_42 6 rfl ?_
    refine z_imul dX12_isLeftFor_44 (fun h17 => ?_)
    refine z_iaload dX12_isLeftFor_45 h17 (fun h18 => ?_)
    refine z_iload_n dX12_isLeftFor_46 4 rfl ?_
    refine z_icmp_ne dX12_isLeftFor_47 h18 hx3 (tgt := 67) rfl (fun h19 => ?_) (fun h19 => ?_)
    · refine z_iload dX12_isLeftFor_50 0 rfl ?_
      refine z_aload_n dX12_isLeftFor_52 1 rfl ?_
      refine z_getR dX12_isLeftFor_53 (k := 46) (j := 28) zc_X12 lm_0 rfl (by decide) k_1084 ?_
      refine z_iconst dX12_isLeftFor_56 ?_
      refine z_iload dX12_isLeftFor_57 6 rfl ?_
      refine z_imul dX12_isLeftFor_59 (fun h20 => ?_)
      refine z_iconst dX12_isLeftFor_60 ?_
      refine z_iadd dX12_isLeftFor_61 (fun h21 => ?_)
      refine z_iaload dX12_isLeftFor_62 h21 (fun h22 => ?_)
      refine z_imul dX12_isLeftFor_63 (fun h23 => ?_)
      refine z_goto dX12_isLeftFor_64 (tgt := 68) rfl ?_
      exact zG_lvk (T_X12_isLeftFor_68 n r4 r18 hr4 hr18 x1 x2 x3 x5 ((x1 / 2 ^ (x5 : Int).toNat) % 2 ^ 1) (((x1 / 2 ^ (x5 : Int).toNat) % 2 ^ 1) * (m 28 (((5 * x5) + 1) : Int).toNat)) x4 m hx1 hx2 hx3 hx5 h16 h23 hx4) [1, 2, 3, 4, 6, 0] rfl
    · refine z_iconst dX12_isLeftFor_67 ?_
      exact zG_lvk (T_X12_isLeftFor_68 n r4 r18 hr4 hr18 x1 x2 x3 x5 ((x1 / 2 ^ (x5 : Int).toNat) % 2 ^ 1) 0 x4 m hx1 hx2 hx3 hx5 h16 (by decide) hx4) [1, 2, 3, 4, 6, 0] rfl
theorem TL_X12_isLeftFor_18 {ad sc sv : Nat → Nat} (n : Nat) (r4 : Int → Int → Int → ZMem → ZR) (hr4 : ∀ (x1 : Int) (x2 : Int) (x3 : Int) (m : ZMem), R32 x1 → R32 x2 → R32 x3 → zG LM ad sc sv M_X12_isLeftFor 4 [(0, .ref (ad 0)), (1, .int (mI x1)), (2, .int (mI x2)), (3, .int (mI x3))] [] m (r4 x1 x2 x3 m)) : ∀ q : Nat, ∀ (x1 : Int) (x2 : Int) (x3 : Int) (x4 : Int) (x5 : Int) (m : ZMem), R32 x1 → R32 x2 → R32 x3 → R32 x4 → R32 x5 → zG LM ad sc sv M_X12_isLeftFor 18 [(0, .ref (ad 0)), (1, .int (mI x1)), (2, .int (mI x2)), (3, .int (mI x3)), (4, .int (mI x4)), (5, .int (mI x5))] [] m (L_X12_isLeftFor_18 n r4 q x1 x2 x3 x4 x5 m) := by
  intro q
  induction q with
  | zero => intros; exact zG_none
  | succ q ih => exact T_X12_isLeftFor_18 n r4 (L_X12_isLeftFor_18 n r4 q) hr4 ih
set_option maxRecDepth 20000 in
theorem T_X12_isLeftFor_4 {ad sc sv : Nat → Nat} (n : Nat) (r4 : Int → Int → Int → ZMem → ZR) (hr4 : ∀ (x1 : Int) (x2 : Int) (x3 : Int) (m : ZMem), R32 x1 → R32 x2 → R32 x3 → zG LM ad sc sv M_X12_isLeftFor 4 [(0, .ref (ad 0)), (1, .int (mI x1)), (2, .int (mI x2)), (3, .int (mI x3))] [] m (r4 x1 x2 x3 m)) : ∀ (x1 : Int) (x2 : Int) (x3 : Int) (m : ZMem), R32 x1 → R32 x2 → R32 x3 → zG LM ad sc sv M_X12_isLeftFor 4 [(0, .ref (ad 0)), (1, .int (mI x1)), (2, .int (mI x2)), (3, .int (mI x3))] [] m (B_X12_isLeftFor_4 n r4 x1 x2 x3 m) := by
  intro x1 x2 x3 m hx1 hx2 hx3
  unfold B_X12_isLeftFor_4
  refine z_iload_n dX12_isLeftFor_4 3 rfl ?_
  refine z_aload_n dX12_isLeftFor_5 0 rfl ?_
  refine z_getI dX12_isLeftFor_6 (k := 2) zc_X12 lm_0 rfl (by decide) k_1040 (fun h1 => ?_)
  refine z_icmp_ge dX12_isLeftFor_9 hx3 h1 (tgt := 141) rfl (fun h2 => ?_) (fun h2 => ?_)
  · refine z_iload_n dX12_isLeftFor_141 2 rfl ?_
    refine zG_chk (fun h3 => ?_)
    exact z_zret dX12_isLeftFor_142 rfl rfl h3
  · refine z_iconst dX12_isLeftFor_12 ?_
    refine z_istore dX12_isLeftFor_13 (lv' := [(4, .int (mI 0)), (0, .ref (ad 0)), (1, .int (mI x1)), (2, .int (mI x2)), (3, .int (mI x3))]) (by decide) rfl ?_
    refine z_iconst dX12_isLeftFor_15 ?_
    refine z_istore dX12_isLeftFor_16 (lv' := [(5, .int (mI 0)), (4, .int (mI 0)), (0, .ref (ad 0)), (1, .int (mI x1)), (2, .int (mI x2)), (3, .int (mI x3))]) (by decide) rfl ?_
    exact zG_lvk (TL_X12_isLeftFor_18 n r4 hr4 n x1 x2 x3 0 0 m hx1 hx2 hx3 (by decide) (by decide)) [2, 3, 4, 5, 1, 0] rfl
theorem TL_X12_isLeftFor_4 {ad sc sv : Nat → Nat} (n : Nat) : ∀ q : Nat, ∀ (x1 : Int) (x2 : Int) (x3 : Int) (m : ZMem), R32 x1 → R32 x2 → R32 x3 → zG LM ad sc sv M_X12_isLeftFor 4 [(0, .ref (ad 0)), (1, .int (mI x1)), (2, .int (mI x2)), (3, .int (mI x3))] [] m (L_X12_isLeftFor_4 n q x1 x2 x3 m) := by
  intro q
  induction q with
  | zero => intros; exact zG_none
  | succ q ih => exact T_X12_isLeftFor_4 n (L_X12_isLeftFor_4 n q) ih
set_option maxRecDepth 20000 in
theorem ct_X12_isLeftFor {ad sc sv : Nat → Nat} (n : Nat) (a0 : Int) (m : ZMem) (ha0 : R32 a0) : zCT LM ad sc sv M_X12_isLeftFor yX12_isLeftFor [.ref (ad 0), .int (mI a0)] m (F_X12_isLeftFor n a0 m) := by
  refine zCT_of (lv := [(0, .ref (ad 0)), (1, .int (mI a0))]) (by decide) rfl (Nat.le_of_ble_eq_true rfl) rfl ?_
  unfold F_X12_isLeftFor
  refine z_iconst dX12_isLeftFor_0 ?_
  refine z_istore_n dX12_isLeftFor_1 (lv' := [(2, .int (mI 1)), (0, .ref (ad 0)), (1, .int (mI a0))]) (by decide) rfl ?_
  refine z_iconst dX12_isLeftFor_2 ?_
  refine z_istore_n dX12_isLeftFor_3 (lv' := [(3, .int (mI 0)), (2, .int (mI 1)), (0, .ref (ad 0)), (1, .int (mI a0))]) (by decide) rfl ?_
  exact zG_lvk (TL_X12_isLeftFor_4 n n a0 1 0 m ha0 (by decide) (by decide)) [2, 3, 1, 0] rfl
set_option maxRecDepth 20000 in
theorem T_X12_worthOf_4 {ad sc sv : Nat → Nat} (n : Nat) (r4 : Int → Int → Int → ZMem → ZR) (hr4 : ∀ (x1 : Int) (x2 : Int) (x3 : Int) (m : ZMem), R32 x1 → R32 x2 → R32 x3 → zG LM ad sc sv M_X12_worthOf 4 [(0, .ref (ad 0)), (1, .int (mI x1)), (2, .int (mI x2)), (3, .int (mI x3))] [] m (r4 x1 x2 x3 m)) : ∀ (x1 : Int) (x2 : Int) (x3 : Int) (m : ZMem), R32 x1 → R32 x2 → R32 x3 → zG LM ad sc sv M_X12_worthOf 4 [(0, .ref (ad 0)), (1, .int (mI x1)), (2, .int (mI x2)), (3, .int (mI x3))] [] m (B_X12_worthOf_4 n r4 x1 x2 x3 m) := by
  intro x1 x2 x3 m hx1 hx2 hx3
  unfold B_X12_worthOf_4
  refine z_iload_n dX12_worthOf_4 3 rfl ?_
  refine z_aload_n dX12_worthOf_5 0 rfl ?_
  refine z_getI dX12_worthOf_6 (k := 47) zc_X12 lm_0 rfl (by decide) k_1085 (fun h1 => ?_)
  refine z_icmp_ge dX12_worthOf_9 hx3 h1 (tgt := 37) rfl (fun h2 => ?_) (fun h2 => ?_)
  · refine z_iload_n dX12_worthOf_37 2 rfl ?_
    exact z_iret dX12_worthOf_38 rfl rfl hx2
  · refine z_iload_n dX12_worthOf_12 2 rfl ?_
    refine z_iload_n dX12_worthOf_13 1 rfl ?_
    refine z_iload_n dX12_worthOf_14 3 rfl ?_
    refine z_ishr dX12_worthOf_15 hx1 (fun h3 => ?_)
    refine z_iconst dX12_worthOf_16 ?_
    refine z_iandm dX12_worthOf_17 1 (by decide +kernel) (by decide) (fun h4 => ?_)
    refine z_aload_n dX12_worthOf_18 0 rfl ?_
    refine z_getR dX12_worthOf_19 (k := 46) (j := 28) zc_X12 lm_0 rfl (by decide) k_1084 ?_
    refine z_iconst dX12_worthOf_22 ?_
    refine z_iload_n dX12_worthOf_23 3 rfl ?_
    refine z_imul dX12_worthOf_24 (fun h5 => ?_)
    refine z_iconst dX12_worthOf_25 ?_
    refine z_iadd dX12_worthOf_26 (fun h6 => ?_)
    refine z_iaload dX12_worthOf_27 h6 (fun h7 => ?_)
    refine z_imul dX12_worthOf_28 (fun h8 => ?_)
    refine z_iadd dX12_worthOf_29 (fun h9 => ?_)
    refine z_istore_n dX12_worthOf_30 (lv' := [(2, .int (mI (x2 + (((x1 / 2 ^ (x3 : Int).toNat) % 2 ^ 1) * (m 28 (((5 * x3) + 4) : Int).toNat))))), (0, .ref (ad 0)), (1, .int (mI x1)), (3, .int (mI x3))]) (by decide) rfl ?_
    refine z_iinc dX12_worthOf_31 (lv' := [(3, .int (mI (x3 + 1))), (2, .int (mI (x2 + (((x1 / 2 ^ (x3 : Int).toNat) % 2 ^ 1) * (m 28 (((5 * x3) + 4) : Int).toNat))))), (0, .ref (ad 0)), (1, .int (mI x1))]) 3 rfl (by decide) rfl (fun h10 => ?_)
    refine z_goto dX12_worthOf_34 (tgt := 4) rfl ?_
    exact zG_lvk (hr4 x1 (x2 + (((x1 / 2 ^ (x3 : Int).toNat) % 2 ^ 1) * (m 28 (((5 * x3) + 4) : Int).toNat))) (x3 + 1) m hx1 h9 h10) [2, 3, 1, 0] rfl
theorem TL_X12_worthOf_4 {ad sc sv : Nat → Nat} (n : Nat) : ∀ q : Nat, ∀ (x1 : Int) (x2 : Int) (x3 : Int) (m : ZMem), R32 x1 → R32 x2 → R32 x3 → zG LM ad sc sv M_X12_worthOf 4 [(0, .ref (ad 0)), (1, .int (mI x1)), (2, .int (mI x2)), (3, .int (mI x3))] [] m (L_X12_worthOf_4 n q x1 x2 x3 m) := by
  intro q
  induction q with
  | zero => intros; exact zG_none
  | succ q ih => exact T_X12_worthOf_4 n (L_X12_worthOf_4 n q) ih
set_option maxRecDepth 20000 in
theorem ct_X12_worthOf {ad sc sv : Nat → Nat} (n : Nat) (a0 : Int) (m : ZMem) (ha0 : R32 a0) : zCT LM ad sc sv M_X12_worthOf yX12_worthOf [.ref (ad 0), .int (mI a0)] m (F_X12_worthOf n a0 m) := by
  refine zCT_of (lv := [(0, .ref (ad 0)), (1, .int (mI a0))]) (by decide) rfl (Nat.le_of_ble_eq_true rfl) rfl ?_
  unfold F_X12_worthOf
  refine z_iconst dX12_worthOf_0 ?_
  refine z_istore_n dX12_worthOf_1 (lv' := [(2, .int (mI 0)), (0, .ref (ad 0)), (1, .int (mI a0))]) (by decide) rfl ?_
  refine z_iconst dX12_worthOf_2 ?_
  refine z_istore_n dX12_worthOf_3 (lv' := [(3, .int (mI 0)), (2, .int (mI 0)), (0, .ref (ad 0)), (1, .int (mI a0))]) (by decide) rfl ?_
  exact zG_lvk (TL_X12_worthOf_4 n n a0 0 0 m ha0 (by decide) (by decide)) [2, 3, 1, 0] rfl
set_option maxRecDepth 20000 in
theorem T_X12_usedUp_26 {ad sc sv : Nat → Nat} (n : Nat) (r26 : Int → Int → Int → ZMem → ZR) (hr26 : ∀ (x1 : Int) (x2 : Int) (x3 : Int) (m : ZMem), R32 x1 → R32 x2 → R32 x3 → zG LM ad sc sv M_X12_usedUp 26 [(0, .ref (ad 0)), (1, .int (mI x1)), (2, .int (mI x2)), (3, .int (mI x3))] [] m (r26 x1 x2 x3 m)) : ∀ (x1 : Int) (x2 : Int) (x3 : Int) (m : ZMem), R32 x1 → R32 x2 → R32 x3 → zG LM ad sc sv M_X12_usedUp 26 [(0, .ref (ad 0)), (1, .int (mI x1)), (2, .int (mI x2)), (3, .int (mI x3))] [] m (B_X12_usedUp_26 n r26 x1 x2 x3 m) := by
  intro x1 x2 x3 m hx1 hx2 hx3
  unfold B_X12_usedUp_26
  refine z_iload_n dX12_usedUp_26 3 rfl ?_
  refine z_iconst dX12_usedUp_27 ?_
  refine z_aload_n dX12_usedUp_28 0 rfl ?_
  refine z_getI dX12_usedUp_29 (k := 47) zc_X12 lm_0 rfl (by decide) k_1085 (fun h11 => ?_)
  refine z_ishl dX12_usedUp_32 (fun h12 => ?_)
  refine z_icmp_ge dX12_usedUp_33 hx3 h12 (tgt := 69) rfl (fun h13 => ?_) (fun h13 => ?_)
  · refine z_iload_n dX12_usedUp_69 1 rfl ?_
    refine z_if_ne dX12_usedUp_70 hx1 (tgt := 81) rfl (fun h14 => ?_) (fun h14 => ?_)
    · refine z_aload_n dX12_usedUp_73 0 rfl ?_
      refine z_iload_n dX12_usedUp_74 2 rfl ?_
      refine z_callV1 dX12_usedUp_75 rfl (ct_X12_worthOf n x2 m hx2) zc_X12 lm_0 k_1606 k_1608 kp_87 k_10 k_1609 zn_X12_worthOf ⟨rfl, rfl, Nat.le_of_ble_eq_true rfl, Nat.le_of_ble_eq_true rfl⟩ (Nat.le_of_ble_eq_true rfl) rfl (fun v15 m16 h17 ho18 => ?_)
      refine z_goto dX12_usedUp_78 (tgt := 82) rfl ?_
      exact z_iret dX12_usedUp_82 rfl rfl h17
    · refine z_iload_n dX12_usedUp_81 2 rfl ?_
      exact z_iret dX12_usedUp_82 rfl rfl hx2
  · refine z_aload_n dX12_usedUp_36 0 rfl ?_
    refine z_iload_n dX12_usedUp_37 3 rfl ?_
    refine z_callV1 dX12_usedUp_38 rfl (ct_X12_worthOf n x3 m hx3) zc_X12 lm_0 k_1606 k_1608 kp_87 k_10 k_1609 zn_X12_worthOf ⟨rfl, rfl, Nat.le_of_ble_eq_true rfl, Nat.le_of_ble_eq_true rfl⟩ (Nat.le_of_ble_eq_true rfl) rfl (fun v19 m20 h21 ho22 => ?_)
    refine z_aload_n dX12_usedUp_41 0 rfl ?_
    refine z_iload_n dX12_usedUp_42 2 rfl ?_
    refine z_callV1 dX12_usedUp_43 rfl (ct_X12_worthOf n x2 m20 hx2) zc_X12 lm_0 k_1606 k_1608 kp_87 k_10 k_1609 zn_X12_worthOf ⟨rfl, rfl, Nat.le_of_ble_eq_true rfl, Nat.le_of_ble_eq_true rfl⟩ (Nat.le_of_ble_eq_true rfl) rfl (fun v23 m24 h25 ho26 => ?_)
    refine z_icmp_le dX12_usedUp_46 h21 h25 (tgt := 61) rfl (fun h27 => ?_) (fun h27 => ?_)
    · refine z_iload_n dX12_usedUp_61 2 rfl ?_
      refine z_istore_n dX12_usedUp_62 (lv' := [(2, .int (mI x2)), (0, .ref (ad 0)), (1, .int (mI x1)), (3, .int (mI x3))]) (by decide) rfl ?_
      refine z_iinc dX12_usedUp_63 (lv' := [(3, .int (mI (x3 + 1))), (2, .int (mI x2)), (0, .ref (ad 0)), (1, .int (mI x1))]) 3 rfl (by decide) rfl (fun h28 => ?_)
      refine z_goto dX12_usedUp_66 (tgt := 26) rfl ?_
      exact zG_lvk (hr26 x1 x2 (x3 + 1) m24 hx1 hx2 h28) [2, 3, 1, 0] rfl
    · refine z_aload_n dX12_usedUp_49 0 rfl ?_
      refine z_iload_n dX12_usedUp_50 3 rfl ?_
      refine z_callV4 dX12_usedUp_51 rfl (ct_X12_isLeftFor n x3 m24 hx3) zc_X12 lm_0 k_1610 k_1612 kp_88 k_10 k_1613 zn_X12_isLeftFor ⟨rfl, rfl, Nat.le_of_ble_eq_true rfl, Nat.le_of_ble_eq_true rfl⟩ (Nat.le_of_ble_eq_true rfl) rfl (fun v29 m30 h31 ho32 => ?_)
      refine z_if_eq dX12_usedUp_54 (zb01 h31) (tgt := 61) rfl (fun h33 => ?_) (fun h33 => ?_)
      · refine z_iload_n dX12_usedUp_61 2 rfl ?_
        refine z_istore_n dX12_usedUp_62 (lv' := [(2, .int (mI x2)), (0, .ref (ad 0)), (1, .int (mI x1)), (3, .int (mI x3))]) (by decide) rfl ?_
        refine z_iinc dX12_usedUp_63 (lv' := [(3, .int (mI (x3 + 1))), (2, .int (mI x2)), (0, .ref (ad 0)), (1, .int (mI x1))]) 3 rfl (by decide) rfl (fun h34 => ?_)
        refine z_goto dX12_usedUp_66 (tgt := 26) rfl ?_
        exact zG_lvk (hr26 x1 x2 (x3 + 1) m30 hx1 hx2 h34) [2, 3, 1, 0] rfl
      · refine z_iload_n dX12_usedUp_57 3 rfl ?_
        refine z_goto dX12_usedUp_58 (tgt := 62) rfl ?_
        refine z_istore_n dX12_usedUp_62 (lv' := [(2, .int (mI x3)), (0, .ref (ad 0)), (1, .int (mI x1)), (3, .int (mI x3))]) (by decide) rfl ?_
        refine z_iinc dX12_usedUp_63 (lv' := [(3, .int (mI (x3 + 1))), (2, .int (mI x3)), (0, .ref (ad 0)), (1, .int (mI x1))]) 3 rfl (by decide) rfl (fun h35 => ?_)
        refine z_goto dX12_usedUp_66 (tgt := 26) rfl ?_
        exact zG_lvk (hr26 x1 x3 (x3 + 1) m30 hx1 hx3 h35) [2, 3, 1, 0] rfl
theorem TL_X12_usedUp_26 {ad sc sv : Nat → Nat} (n : Nat) : ∀ q : Nat, ∀ (x1 : Int) (x2 : Int) (x3 : Int) (m : ZMem), R32 x1 → R32 x2 → R32 x3 → zG LM ad sc sv M_X12_usedUp 26 [(0, .ref (ad 0)), (1, .int (mI x1)), (2, .int (mI x2)), (3, .int (mI x3))] [] m (L_X12_usedUp_26 n q x1 x2 x3 m) := by
  intro q
  induction q with
  | zero => intros; exact zG_none
  | succ q ih => exact T_X12_usedUp_26 n (L_X12_usedUp_26 n q) ih
set_option maxRecDepth 20000 in
theorem ct_X12_usedUp {ad sc sv : Nat → Nat} (n : Nat) (a0 : Int) (m : ZMem) (ha0 : R32 a0) : zCT LM ad sc sv M_X12_usedUp yX12_usedUp [.ref (ad 0), .int (mI a0)] m (F_X12_usedUp n a0 m) := by
  refine zCT_of (lv := [(0, .ref (ad 0)), (1, .int (mI a0))]) (by decide) rfl (Nat.le_of_ble_eq_true rfl) rfl ?_
  unfold F_X12_usedUp
  refine z_aload_n dX12_usedUp_0 0 rfl ?_
  refine z_iconst dX12_usedUp_1 ?_
  refine z_putI dX12_usedUp_2 (k := 16) zc_X12 lm_0 rfl (by decide) rfl rfl (by decide) k_1054 ?_
  refine z_iload_n dX12_usedUp_5 1 rfl ?_
  refine z_i2l dX12_usedUp_6 ha0 (fun h1 => ?_)
  refine z_lconst dX12_usedUp_7 (x := 0) (by decide +kernel) ?_
  refine z_lconst dX12_usedUp_8 (x := 1) (by decide +kernel) ?_
  refine z_callS4 dX12_usedUp_9 rfl (ct_X12_in n a0 0 1 (wr m 0 16 0) h1 (by decide) (by decide)) k_1220 k_1221 k_10 k_1222 zn_X12_in ⟨rfl, rfl, Nat.le_of_ble_eq_true rfl, Nat.le_of_ble_eq_true rfl⟩ (Nat.le_of_ble_eq_true rfl) rfl (fun v2 m3 h4 ho5 => ?_)
  refine z_if_ne dX12_usedUp_12 (zb01 h4) (tgt := 22) rfl (fun h6 => ?_) (fun h6 => ?_)
  · refine z_aload_n dX12_usedUp_15 0 rfl ?_
    refine z_bipush dX12_usedUp_16 (x := (-2)) (by decide +kernel) ?_
    refine z_callV1 dX12_usedUp_18 rfl (ct_X12_refuse n (-2) m3 (by decide)) zc_X12 lm_0 k_1194 k_1196 kp_37 k_10 k_1197 zn_X12_refuse ⟨rfl, rfl, Nat.le_of_ble_eq_true rfl, Nat.le_of_ble_eq_true rfl⟩ (Nat.le_of_ble_eq_true rfl) rfl (fun v7 m8 h9 ho10 => ?_)
    exact z_iret dX12_usedUp_21 rfl rfl h9
  · refine z_iconst dX12_usedUp_22 ?_
    refine z_istore_n dX12_usedUp_23 (lv' := [(2, .int (mI 0)), (0, .ref (ad 0)), (1, .int (mI a0))]) (by decide) rfl ?_
    refine z_iconst dX12_usedUp_24 ?_
    refine z_istore_n dX12_usedUp_25 (lv' := [(3, .int (mI 1)), (2, .int (mI 0)), (0, .ref (ad 0)), (1, .int (mI a0))]) (by decide) rfl ?_
    exact zG_lvk (TL_X12_usedUp_26 n n a0 0 1 m3 ha0 (by decide) (by decide)) [2, 3, 1, 0] rfl
set_option maxRecDepth 20000 in
theorem T_X12_apartBy_4 {ad sc sv : Nat → Nat} (n : Nat) (r4 : Int → Int → Int → ZMem → ZR) (hr4 : ∀ (x1 : Int) (x2 : Int) (x3 : Int) (m : ZMem), R32 x1 → R32 x2 → R32 x3 → zG LM ad sc sv M_X12_apartBy 4 [(0, .ref (ad 0)), (1, .int (mI x1)), (2, .int (mI x2)), (3, .int (mI x3))] [] m (r4 x1 x2 x3 m)) : ∀ (x1 : Int) (x2 : Int) (x3 : Int) (m : ZMem), R32 x1 → R32 x2 → R32 x3 → zG LM ad sc sv M_X12_apartBy 4 [(0, .ref (ad 0)), (1, .int (mI x1)), (2, .int (mI x2)), (3, .int (mI x3))] [] m (B_X12_apartBy_4 n r4 x1 x2 x3 m) := by
  intro x1 x2 x3 m hx1 hx2 hx3
  unfold B_X12_apartBy_4
  refine z_iload_n dX12_apartBy_4 3 rfl ?_
  refine z_aload_n dX12_apartBy_5 0 rfl ?_
  refine z_getI dX12_apartBy_6 (k := 49) zc_X12 lm_0 rfl (by decide) k_1087 (fun h1 => ?_)
  refine z_icmp_ge dX12_apartBy_9 hx3 h1 (tgt := 46) rfl (fun h2 => ?_) (fun h2 => ?_)
  · refine z_iload_n dX12_apartBy_46 2 rfl ?_
    refine z_callS1 dX12_apartBy_47 rfl (ct_X12_plainly n x2 m hx2) k_1307 k_1308 k_10 k_1309 zn_X12_plainly ⟨rfl, rfl, Nat.le_of_ble_eq_true rfl, Nat.le_of_ble_eq_true rfl⟩ (Nat.le_of_ble_eq_true rfl) rfl (fun v3 m4 h5 ho6 => ?_)
    exact z_iret dX12_apartBy_50 rfl rfl h5
  · refine z_iload_n dX12_apartBy_12 2 rfl ?_
    refine z_iload_n dX12_apartBy_13 1 rfl ?_
    refine z_iload_n dX12_apartBy_14 3 rfl ?_
    refine z_ishr dX12_apartBy_15 hx1 (fun h7 => ?_)
    refine z_iconst dX12_apartBy_16 ?_
    refine z_iandm dX12_apartBy_17 1 (by decide +kernel) (by decide) (fun h8 => ?_)
    refine z_iconst dX12_apartBy_18 ?_
    refine z_icmp_ne dX12_apartBy_19 h8 (by decide) (tgt := 31) rfl (fun h9 => ?_) (fun h9 => ?_)
    · refine z_aload_n dX12_apartBy_22 0 rfl ?_
      refine z_getR dX12_apartBy_23 (k := 48) (j := 29) zc_X12 lm_0 rfl (by decide) k_1086 ?_
      refine z_iload_n dX12_apartBy_26 3 rfl ?_
      refine z_iaload dX12_apartBy_27 hx3 (fun h10 => ?_)
      refine z_goto dX12_apartBy_28 (tgt := 38) rfl ?_
      refine z_iadd dX12_apartBy_38 (fun h11 => ?_)
      refine z_istore_n dX12_apartBy_39 (lv' := [(2, .int (mI (x2 + (m 29 (x3 : Int).toNat)))), (0, .ref (ad 0)), (1, .int (mI x1)), (3, .int (mI x3))]) (by decide) rfl ?_
      refine z_iinc dX12_apartBy_40 (lv' := [(3, .int (mI (x3 + 1))), (2, .int (mI (x2 + (m 29 (x3 : Int).toNat)))), (0, .ref (ad 0)), (1, .int (mI x1))]) 3 rfl (by decide) rfl (fun h12 => ?_)
      refine z_goto dX12_apartBy_43 (tgt := 4) rfl ?_
      exact zG_lvk (hr4 x1 (x2 + (m 29 (x3 : Int).toNat)) (x3 + 1) m hx1 h11 h12) [2, 3, 1, 0] rfl
    · refine z_aload_n dX12_apartBy_31 0 rfl ?_
      refine z_getR dX12_apartBy_32 (k := 48) (j := 29) zc_X12 lm_0 rfl (by decide) k_1086 ?_
      refine z_iload_n dX12_apartBy_35 3 rfl ?_
      refine z_iaload dX12_apartBy_36 hx3 (fun h13 => ?_)
      refine z_ineg dX12_apartBy_37 (fun h14 => ?_)
      refine z_iadd dX12_apartBy_38 (fun h15 => ?_)
      refine z_istore_n dX12_apartBy_39 (lv' := [(2, .int (mI (x2 + (-(m 29 (x3 : Int).toNat))))), (0, .ref (ad 0)), (1, .int (mI x1)), (3, .int (mI x3))]) (by decide) rfl ?_
      refine z_iinc dX12_apartBy_40 (lv' := [(3, .int (mI (x3 + 1))), (2, .int (mI (x2 + (-(m 29 (x3 : Int).toNat))))), (0, .ref (ad 0)), (1, .int (mI x1))]) 3 rfl (by decide) rfl (fun h16 => ?_)
      refine z_goto dX12_apartBy_43 (tgt := 4) rfl ?_
      exact zG_lvk (hr4 x1 (x2 + (-(m 29 (x3 : Int).toNat))) (x3 + 1) m hx1 h15 h16) [2, 3, 1, 0] rfl
theorem TL_X12_apartBy_4 {ad sc sv : Nat → Nat} (n : Nat) : ∀ q : Nat, ∀ (x1 : Int) (x2 : Int) (x3 : Int) (m : ZMem), R32 x1 → R32 x2 → R32 x3 → zG LM ad sc sv M_X12_apartBy 4 [(0, .ref (ad 0)), (1, .int (mI x1)), (2, .int (mI x2)), (3, .int (mI x3))] [] m (L_X12_apartBy_4 n q x1 x2 x3 m) := by
  intro q
  induction q with
  | zero => intros; exact zG_none
  | succ q ih => exact T_X12_apartBy_4 n (L_X12_apartBy_4 n q) ih
set_option maxRecDepth 20000 in
theorem ct_X12_apartBy {ad sc sv : Nat → Nat} (n : Nat) (a0 : Int) (m : ZMem) (ha0 : R32 a0) : zCT LM ad sc sv M_X12_apartBy yX12_apartBy [.ref (ad 0), .int (mI a0)] m (F_X12_apartBy n a0 m) := by
  refine zCT_of (lv := [(0, .ref (ad 0)), (1, .int (mI a0))]) (by decide) rfl (Nat.le_of_ble_eq_true rfl) rfl ?_
  unfold F_X12_apartBy
  refine z_iconst dX12_apartBy_0 ?_
  refine z_istore_n dX12_apartBy_1 (lv' := [(2, .int (mI 0)), (0, .ref (ad 0)), (1, .int (mI a0))]) (by decide) rfl ?_
  refine z_iconst dX12_apartBy_2 ?_
  refine z_istore_n dX12_apartBy_3 (lv' := [(3, .int (mI 0)), (2, .int (mI 0)), (0, .ref (ad 0)), (1, .int (mI a0))]) (by decide) rfl ?_
  exact zG_lvk (TL_X12_apartBy_4 n n a0 0 0 m ha0 (by decide) (by decide)) [2, 3, 1, 0] rfl
set_option maxRecDepth 20000 in
theorem T_X12_areAllAbove_15 {ad sc sv : Nat → Nat} (n : Nat) (r15 : Int → Int → ZMem → ZR) (hr15 : ∀ (x1 : Int) (x2 : Int) (m : ZMem), R32 x1 → R32 x2 → zG LM ad sc sv M_X12_areAllAbove 15 [(0, .ref (ad 0)), (1, .int (mI x1)), (2, .int (mI x2))] [] m (r15 x1 x2 m)) : ∀ (x1 : Int) (x2 : Int) (m : ZMem), R32 x1 → R32 x2 → zG LM ad sc sv M_X12_areAllAbove 15 [(0, .ref (ad 0)), (1, .int (mI x1)), (2, .int (mI x2))] [] m (B_X12_areAllAbove_15 n r15 x1 x2 m) := by
  intro x1 x2 m hx1 hx2
  unfold B_X12_areAllAbove_15
  refine z_iload_n dX12_areAllAbove_15 2 rfl ?_
  refine z_aload_n dX12_areAllAbove_16 0 rfl ?_
  refine z_getI dX12_areAllAbove_17 (k := 49) zc_X12 lm_0 rfl (by decide) k_1087 (fun h3 => ?_)
  refine z_icmp_ge dX12_areAllAbove_20 hx2 h3 (tgt := 48) rfl (fun h4 => ?_) (fun h4 => ?_)
  · refine z_iload_n dX12_areAllAbove_48 1 rfl ?_
    refine zG_chk (fun h5 => ?_)
    exact z_zret dX12_areAllAbove_49 rfl rfl h5
  · refine z_iload_n dX12_areAllAbove_23 1 rfl ?_
    refine z_if_eq dX12_areAllAbove_24 hx1 (tgt := 40) rfl (fun h6 => ?_) (fun h6 => ?_)
    · refine z_iconst dX12_areAllAbove_40 ?_
      refine z_istore_n dX12_areAllAbove_41 (lv' := [(1, .int (mI 0)), (0, .ref (ad 0)), (2, .int (mI x2))]) (by decide) rfl ?_
      refine z_iinc dX12_areAllAbove_42 (lv' := [(2, .int (mI (x2 + 1))), (1, .int (mI 0)), (0, .ref (ad 0))]) 2 rfl (by decide) rfl (fun h7 => ?_)
      refine z_goto dX12_areAllAbove_45 (tgt := 15) rfl ?_
      exact zG_lvk (hr15 0 (x2 + 1) m (by decide) h7) [2, 1, 0] rfl
    · refine z_aload_n dX12_areAllAbove_27 0 rfl ?_
      refine z_getR dX12_areAllAbove_28 (k := 48) (j := 29) zc_X12 lm_0 rfl (by decide) k_1086 ?_
      refine z_iload_n dX12_areAllAbove_31 2 rfl ?_
      refine z_iaload dX12_areAllAbove_32 hx2 (fun h8 => ?_)
      refine z_if_le dX12_areAllAbove_33 h8 (tgt := 40) rfl (fun h9 => ?_) (fun h9 => ?_)
      · refine z_iconst dX12_areAllAbove_40 ?_
        refine z_istore_n dX12_areAllAbove_41 (lv' := [(1, .int (mI 0)), (0, .ref (ad 0)), (2, .int (mI x2))]) (by decide) rfl ?_
        refine z_iinc dX12_areAllAbove_42 (lv' := [(2, .int (mI (x2 + 1))), (1, .int (mI 0)), (0, .ref (ad 0))]) 2 rfl (by decide) rfl (fun h10 => ?_)
        refine z_goto dX12_areAllAbove_45 (tgt := 15) rfl ?_
        exact zG_lvk (hr15 0 (x2 + 1) m (by decide) h10) [2, 1, 0] rfl
      · refine z_iconst dX12_areAllAbove_36 ?_
        refine z_goto dX12_areAllAbove_37 (tgt := 41) rfl ?_
        refine z_istore_n dX12_areAllAbove_41 (lv' := [(1, .int (mI 1)), (0, .ref (ad 0)), (2, .int (mI x2))]) (by decide) rfl ?_
        refine z_iinc dX12_areAllAbove_42 (lv' := [(2, .int (mI (x2 + 1))), (1, .int (mI 1)), (0, .ref (ad 0))]) 2 rfl (by decide) rfl (fun h11 => ?_)
        refine z_goto dX12_areAllAbove_45 (tgt := 15) rfl ?_
        exact zG_lvk (hr15 1 (x2 + 1) m (by decide) h11) [2, 1, 0] rfl
theorem TL_X12_areAllAbove_15 {ad sc sv : Nat → Nat} (n : Nat) : ∀ q : Nat, ∀ (x1 : Int) (x2 : Int) (m : ZMem), R32 x1 → R32 x2 → zG LM ad sc sv M_X12_areAllAbove 15 [(0, .ref (ad 0)), (1, .int (mI x1)), (2, .int (mI x2))] [] m (L_X12_areAllAbove_15 n q x1 x2 m) := by
  intro q
  induction q with
  | zero => intros; exact zG_none
  | succ q ih => exact T_X12_areAllAbove_15 n (L_X12_areAllAbove_15 n q) ih
set_option maxRecDepth 20000 in
theorem ct_X12_areAllAbove {ad sc sv : Nat → Nat} (n : Nat) (m : ZMem) : zCT LM ad sc sv M_X12_areAllAbove yX12_areAllAbove [.ref (ad 0)] m (F_X12_areAllAbove n m) := by
  refine zCT_of (lv := [(0, .ref (ad 0))]) (by decide) rfl (Nat.le_of_ble_eq_true rfl) rfl ?_
  unfold F_X12_areAllAbove
  refine z_aload_n dX12_areAllAbove_0 0 rfl ?_
  refine z_getI dX12_areAllAbove_1 (k := 49) zc_X12 lm_0 rfl (by decide) k_1087 (fun h1 => ?_)
  refine z_if_le dX12_areAllAbove_4 h1 (tgt := 11) rfl (fun h2 => ?_) (fun h2 => ?_)
  · refine z_iconst dX12_areAllAbove_11 ?_
    refine z_istore_n dX12_areAllAbove_12 (lv' := [(1, .int (mI 0)), (0, .ref (ad 0))]) (by decide) rfl ?_
    refine z_iconst dX12_areAllAbove_13 ?_
    refine z_istore_n dX12_areAllAbove_14 (lv' := [(2, .int (mI 0)), (1, .int (mI 0)), (0, .ref (ad 0))]) (by decide) rfl ?_
    exact zG_lvk (TL_X12_areAllAbove_15 n n 0 0 m (by decide) (by decide)) [2, 1, 0] rfl
  · refine z_iconst dX12_areAllAbove_7 ?_
    refine z_goto dX12_areAllAbove_8 (tgt := 12) rfl ?_
    refine z_istore_n dX12_areAllAbove_12 (lv' := [(1, .int (mI 1)), (0, .ref (ad 0))]) (by decide) rfl ?_
    refine z_iconst dX12_areAllAbove_13 ?_
    refine z_istore_n dX12_areAllAbove_14 (lv' := [(2, .int (mI 0)), (1, .int (mI 1)), (0, .ref (ad 0))]) (by decide) rfl ?_
    exact zG_lvk (TL_X12_areAllAbove_15 n n 1 0 m (by decide) (by decide)) [2, 1, 0] rfl
set_option maxRecDepth 20000 in
theorem T_X12_fair_49 {ad sc sv : Nat → Nat} (n : Nat) (r49 : Int → Int → Int → ZMem → ZR) (hr49 : ∀ (x1 : Int) (x3 : Int) (x4 : Int) (m : ZMem), R32 x1 → R32 x3 → R32 x4 → zG LM ad sc sv M_X12_fair 49 [(0, .ref (ad 0)), (1, .int (mI x1)), (3, .int (mI x3)), (4, .int (mI x4))] [] m (r49 x1 x3 x4 m)) : ∀ (x1 : Int) (x3 : Int) (x4 : Int) (m : ZMem), R32 x1 → R32 x3 → R32 x4 → zG LM ad sc sv M_X12_fair 49 [(0, .ref (ad 0)), (1, .int (mI x1)), (3, .int (mI x3)), (4, .int (mI x4))] [] m (B_X12_fair_49 n r49 x1 x3 x4 m) := by
  intro x1 x3 x4 m hx1 hx3 hx4
  unfold B_X12_fair_49
  refine z_iload dX12_fair_49 3 rfl ?_
  refine z_iconst dX12_fair_51 ?_
  refine z_aload_n dX12_fair_52 0 rfl ?_
  refine z_getI dX12_fair_53 (k := 49) zc_X12 lm_0 rfl (by decide) k_1087 (fun h20 => ?_)
  refine z_ishl dX12_fair_56 (fun h21 => ?_)
  refine z_icmp_ge dX12_fair_57 hx4 h21 (tgt := 87) rfl (fun h22 => ?_) (fun h22 => ?_)
  · refine z_iload_n dX12_fair_87 1 rfl ?_
    refine z_if_ne dX12_fair_88 hx1 (tgt := 95) rfl (fun h23 => ?_) (fun h23 => ?_)
    · refine z_iload_n dX12_fair_91 2 rfl ?_
      refine z_goto dX12_fair_92 (tgt := 100) rfl ?_
      exact z_iret dX12_fair_100 rfl rfl hx3
    · refine z_aload_n dX12_fair_95 0 rfl ?_
      refine z_iload_n dX12_fair_96 2 rfl ?_
      refine z_callV1 dX12_fair_97 rfl (ct_X12_apartBy n x3 m hx3) zc_X12 lm_0 k_1622 k_1624 kp_90 k_10 k_1625 zn_X12_apartBy ⟨rfl, rfl, Nat.le_of_ble_eq_true rfl, Nat.le_of_ble_eq_true rfl⟩ (Nat.le_of_ble_eq_true rfl) rfl (fun v24 m25 h26 ho27 => ?_)
      exact z_iret dX12_fair_100 rfl rfl h26
  · refine z_aload_n dX12_fair_60 0 rfl ?_
    refine z_iload dX12_fair_61 3 rfl ?_
    refine z_callV1 dX12_fair_63 rfl (ct_X12_apartBy n x4 m hx4) zc_X12 lm_0 k_1622 k_1624 kp_90 k_10 k_1625 zn_X12_apartBy ⟨rfl, rfl, Nat.le_of_ble_eq_true rfl, Nat.le_of_ble_eq_true rfl⟩ (Nat.le_of_ble_eq_true rfl) rfl (fun v28 m29 h30 ho31 => ?_)
    refine z_aload_n dX12_fair_66 0 rfl ?_
    refine z_iload_n dX12_fair_67 2 rfl ?_
    refine z_callV1 dX12_fair_68 rfl (ct_X12_apartBy n x3 m29 hx3) zc_X12 lm_0 k_1622 k_1624 kp_90 k_10 k_1625 zn_X12_apartBy ⟨rfl, rfl, Nat.le_of_ble_eq_true rfl, Nat.le_of_ble_eq_true rfl⟩ (Nat.le_of_ble_eq_true rfl) rfl (fun v32 m33 h34 ho35 => ?_)
    refine z_icmp_ge dX12_fair_71 h30 h34 (tgt := 79) rfl (fun h36 => ?_) (fun h36 => ?_)
    · refine z_iload_n dX12_fair_79 2 rfl ?_
      refine z_istore_n dX12_fair_80 (lv' := [(3, .int (mI x3)), (0, .ref (ad 0)), (1, .int (mI x1)), (4, .int (mI x4))]) (by decide) rfl ?_
      refine z_iinc dX12_fair_81 (lv' := [(4, .int (mI (x4 + 2))), (3, .int (mI x3)), (0, .ref (ad 0)), (1, .int (mI x1))]) 3 rfl (by decide) rfl (fun h37 => ?_)
      refine z_goto dX12_fair_84 (tgt := 49) rfl ?_
      exact zG_lvk (hr49 x1 x3 (x4 + 2) m33 hx1 hx3 h37) [2, 3, 1, 0] rfl
    · refine z_iload dX12_fair_74 3 rfl ?_
      refine z_goto dX12_fair_76 (tgt := 80) rfl ?_
      refine z_istore_n dX12_fair_80 (lv' := [(3, .int (mI x4)), (0, .ref (ad 0)), (1, .int (mI x1)), (4, .int (mI x4))]) (by decide) rfl ?_
      refine z_iinc dX12_fair_81 (lv' := [(4, .int (mI (x4 + 2))), (3, .int (mI x4)), (0, .ref (ad 0)), (1, .int (mI x1))]) 3 rfl (by decide) rfl (fun h38 => ?_)
      refine z_goto dX12_fair_84 (tgt := 49) rfl ?_
      exact zG_lvk (hr49 x1 x4 (x4 + 2) m33 hx1 hx4 h38) [2, 3, 1, 0] rfl
theorem TL_X12_fair_49 {ad sc sv : Nat → Nat} (n : Nat) : ∀ q : Nat, ∀ (x1 : Int) (x3 : Int) (x4 : Int) (m : ZMem), R32 x1 → R32 x3 → R32 x4 → zG LM ad sc sv M_X12_fair 49 [(0, .ref (ad 0)), (1, .int (mI x1)), (3, .int (mI x3)), (4, .int (mI x4))] [] m (L_X12_fair_49 n q x1 x3 x4 m) := by
  intro q
  induction q with
  | zero => intros; exact zG_none
  | succ q ih => exact T_X12_fair_49 n (L_X12_fair_49 n q) ih
set_option maxRecDepth 20000 in
theorem ct_X12_fair {ad sc sv : Nat → Nat} (n : Nat) (a0 : Int) (m : ZMem) (ha0 : R32 a0) : zCT LM ad sc sv M_X12_fair yX12_fair [.ref (ad 0), .int (mI a0)] m (F_X12_fair n a0 m) := by
  refine zCT_of (lv := [(0, .ref (ad 0)), (1, .int (mI a0))]) (by decide) rfl (Nat.le_of_ble_eq_true rfl) rfl ?_
  unfold F_X12_fair
  refine z_aload_n dX12_fair_0 0 rfl ?_
  refine z_iconst dX12_fair_1 ?_
  refine z_putI dX12_fair_2 (k := 16) zc_X12 lm_0 rfl (by decide) rfl rfl (by decide) k_1054 ?_
  refine z_iload_n dX12_fair_5 1 rfl ?_
  refine z_i2l dX12_fair_6 ha0 (fun h1 => ?_)
  refine z_lconst dX12_fair_7 (x := 0) (by decide +kernel) ?_
  refine z_lconst dX12_fair_8 (x := 1) (by decide +kernel) ?_
  refine z_callS4 dX12_fair_9 rfl (ct_X12_in n a0 0 1 (wr m 0 16 0) h1 (by decide) (by decide)) k_1220 k_1221 k_10 k_1222 zn_X12_in ⟨rfl, rfl, Nat.le_of_ble_eq_true rfl, Nat.le_of_ble_eq_true rfl⟩ (Nat.le_of_ble_eq_true rfl) rfl (fun v2 m3 h4 ho5 => ?_)
  refine z_if_ne dX12_fair_12 (zb01 h4) (tgt := 20) rfl (fun h6 => ?_) (fun h6 => ?_)
  · refine z_bipush dX12_fair_15 (x := (-2)) (by decide +kernel) ?_
    refine z_goto dX12_fair_17 (tgt := 33) rfl ?_
    refine z_istore_n dX12_fair_33 (lv' := [(2, .int (mI (-2))), (0, .ref (ad 0)), (1, .int (mI a0))]) (by decide) rfl ?_
    refine z_iload_n dX12_fair_34 0 rfl ?_
    refine z_if_ge_f dX12_fair_35 (by decide) (by decide) (tgt := 44) rfl ?_
    refine z_aload_n dX12_fair_38 1 rfl ?_
    refine z_iload_n dX12_fair_39 0 rfl ?_
    refine z_callV1 dX12_fair_40 rfl (ct_X12_refuse n (-2) m3 (by decide)) zc_X12 lm_0 k_1194 k_1196 kp_37 k_10 k_1197 zn_X12_refuse ⟨rfl, rfl, Nat.le_of_ble_eq_true rfl, Nat.le_of_ble_eq_true rfl⟩ (Nat.le_of_ble_eq_true rfl) rfl (fun v7 m8 h9 ho10 => ?_)
    exact z_iret dX12_fair_43 rfl rfl h9
  · refine z_aload_n dX12_fair_20 0 rfl ?_
    refine z_callV4 dX12_fair_21 rfl (ct_X12_areAllAbove n m3) zc_X12 lm_0 k_1618 k_1620 kp_89 k_10 k_1621 zn_X12_areAllAbove ⟨rfl, rfl, Nat.le_of_ble_eq_true rfl, Nat.le_of_ble_eq_true rfl⟩ (Nat.le_of_ble_eq_true rfl) rfl (fun v11 m12 h13 ho14 => ?_)
    refine z_if_ne dX12_fair_24 (zb01 h13) (tgt := 32) rfl (fun h15 => ?_) (fun h15 => ?_)
    · refine z_bipush dX12_fair_27 (x := (-3)) (by decide +kernel) ?_
      refine z_goto dX12_fair_29 (tgt := 33) rfl ?_
      refine z_istore_n dX12_fair_33 (lv' := [(2, .int (mI (-3))), (0, .ref (ad 0)), (1, .int (mI a0))]) (by decide) rfl ?_
      refine z_iload_n dX12_fair_34 0 rfl ?_
      refine z_if_ge_f dX12_fair_35 (by decide) (by decide) (tgt := 44) rfl ?_
      refine z_aload_n dX12_fair_38 1 rfl ?_
      refine z_iload_n dX12_fair_39 0 rfl ?_
      refine z_callV1 dX12_fair_40 rfl (ct_X12_refuse n (-3) m12 (by decide)) zc_X12 lm_0 k_1194 k_1196 kp_37 k_10 k_1197 zn_X12_refuse ⟨rfl, rfl, Nat.le_of_ble_eq_true rfl, Nat.le_of_ble_eq_true rfl⟩ (Nat.le_of_ble_eq_true rfl) rfl (fun v16 m17 h18 ho19 => ?_)
      exact z_iret dX12_fair_43 rfl rfl h18
    · refine z_iconst dX12_fair_32 ?_
      refine z_istore_n dX12_fair_33 (lv' := [(2, .int (mI 0)), (0, .ref (ad 0)), (1, .int (mI a0))]) (by decide) rfl ?_
      refine z_iload_n dX12_fair_34 0 rfl ?_
      refine z_if_ge_t dX12_fair_35 (by decide) (by decide) (tgt := 44) rfl ?_
      refine z_iconst dX12_fair_44 ?_
      refine z_istore_n dX12_fair_45 (lv' := [(3, .int (mI 1)), (2, .int (mI 0)), (0, .ref (ad 0)), (1, .int (mI a0))]) (by decide) rfl ?_
      refine z_iconst dX12_fair_46 ?_
      refine z_istore dX12_fair_47 (lv' := [(4, .int (mI 3)), (3, .int (mI 1)), (2, .int (mI 0)), (0, .ref (ad 0)), (1, .int (mI a0))]) (by decide) rfl ?_
      exact zG_lvk (TL_X12_fair_49 n n a0 1 3 m12 ha0 (by decide) (by decide)) [3, 4, 1, 0] rfl
set_option maxRecDepth 20000 in
theorem ct_X12_row {ad sc sv : Nat → Nat} (n : Nat) (a0 : Int) (m : ZMem) (ha0 : R32 a0) : zCT LM ad sc sv M_X12_row yX12_row [.ref (ad 0), .int (mI a0)] m (F_X12_row n a0 m) := by
  refine zCT_of (lv := [(0, .ref (ad 0)), (1, .int (mI a0))]) (by decide) rfl (Nat.le_of_ble_eq_true rfl) rfl ?_
  unfold F_X12_row
  refine z_aload_n dX12_row_0 0 rfl ?_
  refine z_iconst dX12_row_1 ?_
  refine z_putI dX12_row_2 (k := 16) zc_X12 lm_0 rfl (by decide) rfl rfl (by decide) k_1054 ?_
  refine z_iload_n dX12_row_5 1 rfl ?_
  refine z_if_ge dX12_row_6 ha0 (tgt := 16) rfl (fun h1 => ?_) (fun h1 => ?_)
  · refine z_iload_n dX12_row_16 1 rfl ?_
    refine z_bipush dX12_row_17 (x := 99) (by decide +kernel) ?_
    refine z_icmp_gt dX12_row_19 ha0 (by decide) (tgt := 31) rfl (fun h2 => ?_) (fun h2 => ?_)
    · refine z_aload_n dX12_row_31 0 rfl ?_
      refine z_bipush dX12_row_32 (x := (-6)) (by decide +kernel) ?_
      refine z_callV1 dX12_row_34 rfl (ct_X12_refuse n (-6) (wr m 0 16 0) (by decide)) zc_X12 lm_0 k_1194 k_1196 kp_37 k_10 k_1197 zn_X12_refuse ⟨rfl, rfl, Nat.le_of_ble_eq_true rfl, Nat.le_of_ble_eq_true rfl⟩ (Nat.le_of_ble_eq_true rfl) rfl (fun v3 m4 h5 ho6 => ?_)
      exact z_iret dX12_row_37 rfl rfl h5
    · refine z_aload_n dX12_row_22 0 rfl ?_
      refine z_getI dX12_row_23 (k := 49) zc_X12 lm_0 rfl (by decide) k_1087 (fun h7 => ?_)
      refine z_bipush dX12_row_26 (x := 8) (by decide +kernel) ?_
      refine z_icmp_ne dX12_row_28 h7 (by decide) (tgt := 38) rfl (fun h8 => ?_) (fun h8 => ?_)
      · refine z_aload_n dX12_row_31 0 rfl ?_
        refine z_bipush dX12_row_32 (x := (-6)) (by decide +kernel) ?_
        refine z_callV1 dX12_row_34 rfl (ct_X12_refuse n (-6) (wr m 0 16 0) (by decide)) zc_X12 lm_0 k_1194 k_1196 kp_37 k_10 k_1197 zn_X12_refuse ⟨rfl, rfl, Nat.le_of_ble_eq_true rfl, Nat.le_of_ble_eq_true rfl⟩ (Nat.le_of_ble_eq_true rfl) rfl (fun v9 m10 h11 ho12 => ?_)
        exact z_iret dX12_row_37 rfl rfl h11
      · refine z_aload_n dX12_row_38 0 rfl ?_
        refine z_getR dX12_row_39 (k := 48) (j := 29) zc_X12 lm_0 rfl (by decide) k_1086 ?_
        refine z_aload_n dX12_row_42 0 rfl ?_
        refine z_getI dX12_row_43 (k := 49) zc_X12 lm_0 rfl (by decide) k_1087 (fun h13 => ?_)
        refine z_iload_n dX12_row_46 1 rfl ?_
        refine z_iastore dX12_row_47 h13 ha0 ?_
        refine z_aload_n dX12_row_48 0 rfl ?_
        refine z_dup dX12_row_49 rfl ?_
        refine z_getI dX12_row_50 (k := 49) zc_X12 lm_0 rfl (by decide) k_1087 (fun h14 => ?_)
        refine z_iconst dX12_row_53 ?_
        refine z_iadd dX12_row_54 (fun h15 => ?_)
        refine z_putI dX12_row_55 (k := 49) zc_X12 lm_0 rfl (by decide) rfl rfl h15 k_1087 ?_
        refine z_aload_n dX12_row_58 0 rfl ?_
        refine z_getI dX12_row_59 (k := 49) zc_X12 lm_0 rfl (by decide) k_1087 (fun h16 => ?_)
        exact z_iret dX12_row_62 rfl rfl h16
  · refine z_aload_n dX12_row_9 0 rfl ?_
    refine z_bipush dX12_row_10 (x := (-4)) (by decide +kernel) ?_
    refine z_callV1 dX12_row_12 rfl (ct_X12_refuse n (-4) (wr m 0 16 0) (by decide)) zc_X12 lm_0 k_1194 k_1196 kp_37 k_10 k_1197 zn_X12_refuse ⟨rfl, rfl, Nat.le_of_ble_eq_true rfl, Nat.le_of_ble_eq_true rfl⟩ (Nat.le_of_ble_eq_true rfl) rfl (fun v17 m18 h19 ho20 => ?_)
    exact z_iret dX12_row_15 rfl rfl h19
set_option maxRecDepth 20000 in
theorem ct_X12_isTaken {ad sc sv : Nat → Nat} (n : Nat) (a0 : Int) (a1 : Int) (m : ZMem) (ha0 : R32 a0) (ha1 : R32 a1) : zCT LM ad sc sv M_X12_isTaken yX12_isTaken [.ref (ad 0), .int (mI a0), .int (mI a1)] m (F_X12_isTaken n a0 a1 m) := by
  refine zCT_of (lv := [(0, .ref (ad 0)), (1, .int (mI a0)), (2, .int (mI a1))]) (by decide) rfl (Nat.le_of_ble_eq_true rfl) rfl ?_
  unfold F_X12_isTaken
  refine z_aload_n dX12_isTaken_0 0 rfl ?_
  refine z_getR dX12_isTaken_1 (k := 48) (j := 29) zc_X12 lm_0 rfl (by decide) k_1086 ?_
  refine z_iload_n dX12_isTaken_4 1 rfl ?_
  refine z_iaload dX12_isTaken_5 ha0 (fun h1 => ?_)
  refine z_aload_n dX12_isTaken_6 0 rfl ?_
  refine z_iload_n dX12_isTaken_7 1 rfl ?_
  refine z_iload_n dX12_isTaken_8 2 rfl ?_
  refine z_callV1 dX12_isTaken_9 rfl (ct_X12_takenFor n a0 a1 m ha0 ha1) zc_X12 lm_0 k_1290 k_1292 kp_55 k_10 k_1293 zn_X12_takenFor ⟨rfl, rfl, Nat.le_of_ble_eq_true rfl, Nat.le_of_ble_eq_true rfl⟩ (Nat.le_of_ble_eq_true rfl) rfl (fun v2 m3 h4 ho5 => ?_)
  refine z_bipush dX12_isTaken_12 (x := 12) (by decide +kernel) ?_
  refine z_idiv dX12_isTaken_14 h4 (by decide) (fun h6 => ?_)
  refine z_icmp_ne dX12_isTaken_15 h1 h6 (tgt := 22) rfl (fun h7 => ?_) (fun h7 => ?_)
  · refine z_iconst dX12_isTaken_18 ?_
    refine z_goto dX12_isTaken_19 (tgt := 23) rfl ?_
    exact z_zret dX12_isTaken_23 rfl rfl (by decide)
  · refine z_iconst dX12_isTaken_22 ?_
    exact z_zret dX12_isTaken_23 rfl rfl (by decide)
set_option maxRecDepth 20000 in
theorem T_X12_readNumbers_15 {ad sc sv : Nat → Nat} (n : Nat) (r4 : Int → Int → ZMem → ZR) (r15 : Int → Int → Int → Int → ZMem → ZR) (hr4 : ∀ (x1 : Int) (x2 : Int) (m : ZMem), R32 x1 → R32 x2 → zG LM ad sc sv M_X12_readNumbers 4 [(0, .ref (ad 0)), (1, .int (mI x1)), (2, .int (mI x2))] [] m (r4 x1 x2 m)) (hr15 : ∀ (x1 : Int) (x2 : Int) (x3 : Int) (x4 : Int) (m : ZMem), R32 x1 → R32 x2 → R32 x3 → R32 x4 → zG LM ad sc sv M_X12_readNumbers 15 [(0, .ref (ad 0)), (1, .int (mI x1)), (2, .int (mI x2)), (3, .int (mI x3)), (4, .int (mI x4))] [] m (r15 x1 x2 x3 x4 m)) : ∀ (x1 : Int) (x2 : Int) (x3 : Int) (x4 : Int) (m : ZMem), R32 x1 → R32 x2 → R32 x3 → R32 x4 → zG LM ad sc sv M_X12_readNumbers 15 [(0, .ref (ad 0)), (1, .int (mI x1)), (2, .int (mI x2)), (3, .int (mI x3)), (4, .int (mI x4))] [] m (B_X12_readNumbers_15 n r4 r15 x1 x2 x3 x4 m) := by
  intro x1 x2 x3 x4 m hx1 hx2 hx3 hx4
  unfold B_X12_readNumbers_15
  refine z_iload dX12_readNumbers_15 4 rfl ?_
  refine z_aload_n dX12_readNumbers_17 0 rfl ?_
  refine z_getI dX12_readNumbers_18 (k := 2) zc_X12 lm_0 rfl (by decide) k_1040 (fun h2 => ?_)
  refine z_icmp_ge dX12_readNumbers_21 hx4 h2 (tgt := 50) rfl (fun h3 => ?_) (fun h3 => ?_)
  · refine z_iload_n dX12_readNumbers_50 1 rfl ?_
    refine z_iload_n dX12_readNumbers_51 3 rfl ?_
    refine z_if_eq dX12_readNumbers_52 hx3 (tgt := 63) rfl (fun h4 => ?_) (fun h4 => ?_)
    · refine z_iconst dX12_readNumbers_63 ?_
      refine z_ior dX12_readNumbers_64 hx1 (by decide) (fun h5 => ?_)
      refine z_istore_n dX12_readNumbers_65 (lv' := [(1, .int (mI (zlor x1 0))), (0, .ref (ad 0)), (2, .int (mI x2)), (3, .int (mI x3)), (4, .int (mI x4))]) (by decide) rfl ?_
      refine z_iinc dX12_readNumbers_66 (lv' := [(2, .int (mI (x2 + 1))), (1, .int (mI (zlor x1 0))), (0, .ref (ad 0)), (3, .int (mI x3)), (4, .int (mI x4))]) 2 rfl (by decide) rfl (fun h6 => ?_)
      refine z_goto dX12_readNumbers_69 (tgt := 4) rfl ?_
      exact zG_lvk (hr4 (zlor x1 0) (x2 + 1) m h5 h6) [2, 1, 0] rfl
    · refine z_iconst dX12_readNumbers_55 ?_
      refine z_iload_n dX12_readNumbers_56 2 rfl ?_
      refine z_iconst dX12_readNumbers_57 ?_
      refine z_isub dX12_readNumbers_58 (fun h7 => ?_)
      refine z_ishl dX12_readNumbers_59 (fun h8 => ?_)
      refine z_goto dX12_readNumbers_60 (tgt := 64) rfl ?_
      refine z_ior dX12_readNumbers_64 hx1 h8 (fun h9 => ?_)
      refine z_istore_n dX12_readNumbers_65 (lv' := [(1, .int (mI (zlor x1 (1 * 2 ^ ((x2 - 1) : Int).toNat)))), (0, .ref (ad 0)), (2, .int (mI x2)), (3, .int (mI x3)), (4, .int (mI x4))]) (by decide) rfl ?_
      refine z_iinc dX12_readNumbers_66 (lv' := [(2, .int (mI (x2 + 1))), (1, .int (mI (zlor x1 (1 * 2 ^ ((x2 - 1) : Int).toNat)))), (0, .ref (ad 0)), (3, .int (mI x3)), (4, .int (mI x4))]) 2 rfl (by decide) rfl (fun h10 => ?_)
      refine z_goto dX12_readNumbers_69 (tgt := 4) rfl ?_
      exact zG_lvk (hr4 (zlor x1 (1 * 2 ^ ((x2 - 1) : Int).toNat)) (x2 + 1) m h9 h10) [2, 1, 0] rfl
  · refine z_iload_n dX12_readNumbers_24 3 rfl ?_
    refine z_if_eq dX12_readNumbers_25 hx3 (tgt := 42) rfl (fun h11 => ?_) (fun h11 => ?_)
    · refine z_iconst dX12_readNumbers_42 ?_
      refine z_istore_n dX12_readNumbers_43 (lv' := [(3, .int (mI 0)), (0, .ref (ad 0)), (1, .int (mI x1)), (2, .int (mI x2)), (4, .int (mI x4))]) (by decide) rfl ?_
      refine z_iinc dX12_readNumbers_44 (lv' := [(4, .int (mI (x4 + 1))), (3, .int (mI 0)), (0, .ref (ad 0)), (1, .int (mI x1)), (2, .int (mI x2))]) 4 rfl (by decide) rfl (fun h12 => ?_)
      refine z_goto dX12_readNumbers_47 (tgt := 15) rfl ?_
      exact zG_lvk (hr15 x1 x2 0 (x4 + 1) m hx1 hx2 (by decide) h12) [2, 3, 4, 1, 0] rfl
    · refine z_aload_n dX12_readNumbers_28 0 rfl ?_
      refine z_iload dX12_readNumbers_29 4 rfl ?_
      refine z_iload_n dX12_readNumbers_31 2 rfl ?_
      refine z_callV4 dX12_readNumbers_32 rfl (ct_X12_isTaken n x4 x2 m hx4 hx2) zc_X12 lm_0 k_1634 k_1636 kp_91 k_10 k_1637 zn_X12_isTaken ⟨rfl, rfl, Nat.le_of_ble_eq_true rfl, Nat.le_of_ble_eq_true rfl⟩ (Nat.le_of_ble_eq_true rfl) rfl (fun v13 m14 h15 ho16 => ?_)
      refine z_if_eq dX12_readNumbers_35 (zb01 h15) (tgt := 42) rfl (fun h17 => ?_) (fun h17 => ?_)
      · refine z_iconst dX12_readNumbers_42 ?_
        refine z_istore_n dX12_readNumbers_43 (lv' := [(3, .int (mI 0)), (0, .ref (ad 0)), (1, .int (mI x1)), (2, .int (mI x2)), (4, .int (mI x4))]) (by decide) rfl ?_
        refine z_iinc dX12_readNumbers_44 (lv' := [(4, .int (mI (x4 + 1))), (3, .int (mI 0)), (0, .ref (ad 0)), (1, .int (mI x1)), (2, .int (mI x2))]) 4 rfl (by decide) rfl (fun h18 => ?_)
        refine z_goto dX12_readNumbers_47 (tgt := 15) rfl ?_
        exact zG_lvk (hr15 x1 x2 0 (x4 + 1) m14 hx1 hx2 (by decide) h18) [2, 3, 4, 1, 0] rfl
      · refine z_iconst dX12_readNumbers_38 ?_
        refine z_goto dX12_readNumbers_39 (tgt := 43) rfl ?_
        refine z_istore_n dX12_readNumbers_43 (lv' := [(3, .int (mI 1)), (0, .ref (ad 0)), (1, .int (mI x1)), (2, .int (mI x2)), (4, .int (mI x4))]) (by decide) rfl ?_
        refine z_iinc dX12_readNumbers_44 (lv' := [(4, .int (mI (x4 + 1))), (3, .int (mI 1)), (0, .ref (ad 0)), (1, .int (mI x1)), (2, .int (mI x2))]) 4 rfl (by decide) rfl (fun h19 => ?_)
        refine z_goto dX12_readNumbers_47 (tgt := 15) rfl ?_
        exact zG_lvk (hr15 x1 x2 1 (x4 + 1) m14 hx1 hx2 (by decide) h19) [2, 3, 4, 1, 0] rfl
theorem TL_X12_readNumbers_15 {ad sc sv : Nat → Nat} (n : Nat) (r4 : Int → Int → ZMem → ZR) (hr4 : ∀ (x1 : Int) (x2 : Int) (m : ZMem), R32 x1 → R32 x2 → zG LM ad sc sv M_X12_readNumbers 4 [(0, .ref (ad 0)), (1, .int (mI x1)), (2, .int (mI x2))] [] m (r4 x1 x2 m)) : ∀ q : Nat, ∀ (x1 : Int) (x2 : Int) (x3 : Int) (x4 : Int) (m : ZMem), R32 x1 → R32 x2 → R32 x3 → R32 x4 → zG LM ad sc sv M_X12_readNumbers 15 [(0, .ref (ad 0)), (1, .int (mI x1)), (2, .int (mI x2)), (3, .int (mI x3)), (4, .int (mI x4))] [] m (L_X12_readNumbers_15 n r4 q x1 x2 x3 x4 m) := by
  intro q
  induction q with
  | zero => intros; exact zG_none
  | succ q ih => exact T_X12_readNumbers_15 n r4 (L_X12_readNumbers_15 n r4 q) hr4 ih
set_option maxRecDepth 20000 in
theorem T_X12_readNumbers_4 {ad sc sv : Nat → Nat} (n : Nat) (r4 : Int → Int → ZMem → ZR) (hr4 : ∀ (x1 : Int) (x2 : Int) (m : ZMem), R32 x1 → R32 x2 → zG LM ad sc sv M_X12_readNumbers 4 [(0, .ref (ad 0)), (1, .int (mI x1)), (2, .int (mI x2))] [] m (r4 x1 x2 m)) : ∀ (x1 : Int) (x2 : Int) (m : ZMem), R32 x1 → R32 x2 → zG LM ad sc sv M_X12_readNumbers 4 [(0, .ref (ad 0)), (1, .int (mI x1)), (2, .int (mI x2))] [] m (B_X12_readNumbers_4 n r4 x1 x2 m) := by
  intro x1 x2 m hx1 hx2
  unfold B_X12_readNumbers_4
  refine z_iload_n dX12_readNumbers_4 2 rfl ?_
  refine z_bipush dX12_readNumbers_5 (x := 24) (by decide +kernel) ?_
  refine z_icmp_gt dX12_readNumbers_7 hx2 (by decide) (tgt := 72) rfl (fun h1 => ?_) (fun h1 => ?_)
  · refine z_iload_n dX12_readNumbers_72 1 rfl ?_
    exact z_iret dX12_readNumbers_73 rfl rfl hx1
  · refine z_iconst dX12_readNumbers_10 ?_
    refine z_istore_n dX12_readNumbers_11 (lv' := [(3, .int (mI 1)), (0, .ref (ad 0)), (1, .int (mI x1)), (2, .int (mI x2))]) (by decide) rfl ?_
    refine z_iconst dX12_readNumbers_12 ?_
    refine z_istore dX12_readNumbers_13 (lv' := [(4, .int (mI 0)), (3, .int (mI 1)), (0, .ref (ad 0)), (1, .int (mI x1)), (2, .int (mI x2))]) (by decide) rfl ?_
    exact zG_lvk (TL_X12_readNumbers_15 n r4 hr4 n x1 x2 1 0 m hx1 hx2 (by decide) (by decide)) [2, 3, 4, 1, 0] rfl
theorem TL_X12_readNumbers_4 {ad sc sv : Nat → Nat} (n : Nat) : ∀ q : Nat, ∀ (x1 : Int) (x2 : Int) (m : ZMem), R32 x1 → R32 x2 → zG LM ad sc sv M_X12_readNumbers 4 [(0, .ref (ad 0)), (1, .int (mI x1)), (2, .int (mI x2))] [] m (L_X12_readNumbers_4 n q x1 x2 m) := by
  intro q
  induction q with
  | zero => intros; exact zG_none
  | succ q ih => exact T_X12_readNumbers_4 n (L_X12_readNumbers_4 n q) ih
set_option maxRecDepth 20000 in
theorem ct_X12_readNumbers {ad sc sv : Nat → Nat} (n : Nat) (m : ZMem) : zCT LM ad sc sv M_X12_readNumbers yX12_readNumbers [.ref (ad 0)] m (F_X12_readNumbers n m) := by
  refine zCT_of (lv := [(0, .ref (ad 0))]) (by decide) rfl (Nat.le_of_ble_eq_true rfl) rfl ?_
  unfold F_X12_readNumbers
  refine z_iconst dX12_readNumbers_0 ?_
  refine z_istore_n dX12_readNumbers_1 (lv' := [(1, .int (mI 0)), (0, .ref (ad 0))]) (by decide) rfl ?_
  refine z_iconst dX12_readNumbers_2 ?_
  refine z_istore_n dX12_readNumbers_3 (lv' := [(2, .int (mI 1)), (1, .int (mI 0)), (0, .ref (ad 0))]) (by decide) rfl ?_
  exact zG_lvk (TL_X12_readNumbers_4 n n 0 1 m (by decide) (by decide)) [2, 1, 0] rfl
set_option maxRecDepth 20000 in
theorem T_X12_read_46 {ad sc sv : Nat → Nat} (n : Nat) (r46 : Int → Int → Int → ZMem → ZR) (hr46 : ∀ (x1 : Int) (x2 : Int) (x3 : Int) (m : ZMem), R32 x1 → R32 x2 → R32 x3 → zG LM ad sc sv M_X12_read 46 [(0, .ref (ad 0)), (1, .int (mI x1)), (2, .int (mI x2)), (3, .int (mI x3))] [] m (r46 x1 x2 x3 m)) : ∀ (x1 : Int) (x2 : Int) (x3 : Int) (m : ZMem), R32 x1 → R32 x2 → R32 x3 → zG LM ad sc sv M_X12_read 46 [(0, .ref (ad 0)), (1, .int (mI x1)), (2, .int (mI x2)), (3, .int (mI x3))] [] m (B_X12_read_46 n r46 x1 x2 x3 m) := by
  intro x1 x2 x3 m hx1 hx2 hx3
  unfold B_X12_read_46
  refine z_iload_n dX12_read_46 3 rfl ?_
  refine z_aload_n dX12_read_47 0 rfl ?_
  refine z_getI dX12_read_48 (k := 2) zc_X12 lm_0 rfl (by decide) k_1040 (fun h18 => ?_)
  refine z_icmp_ge dX12_read_51 hx3 h18 (tgt := 114) rfl (fun h19 => ?_) (fun h19 => ?_)
  · refine z_iload_n dX12_read_114 1 rfl ?_
    refine z_if_ne dX12_read_115 hx1 (tgt := 125) rfl (fun h20 => ?_) (fun h20 => ?_)
    · refine z_aload_n dX12_read_118 0 rfl ?_
      refine z_callV1 dX12_read_119 rfl (ct_X12_readNumbers n m) zc_X12 lm_0 k_1638 k_1640 kp_92 k_10 k_1641 zn_X12_readNumbers ⟨rfl, rfl, Nat.le_of_ble_eq_true rfl, Nat.le_of_ble_eq_true rfl⟩ (Nat.le_of_ble_eq_true rfl) rfl (fun v21 m22 h23 ho24 => ?_)
      refine z_goto dX12_read_122 (tgt := 126) rfl ?_
      exact z_iret dX12_read_126 rfl rfl h23
    · refine z_iload_n dX12_read_125 2 rfl ?_
      exact z_iret dX12_read_126 rfl rfl hx2
  · refine z_iload_n dX12_read_54 1 rfl ?_
    refine z_iconst dX12_read_55 ?_
    refine z_icmp_ne dX12_read_56 hx1 (by decide) (tgt := 71) rfl (fun h25 => ?_) (fun h25 => ?_)
    · refine z_aload_n dX12_read_59 0 rfl ?_
      refine z_iload_n dX12_read_60 3 rfl ?_
      refine z_aload_n dX12_read_61 0 rfl ?_
      refine z_getI dX12_read_62 (k := 1) zc_X12 lm_0 rfl (by decide) k_1039 (fun h26 => ?_)
      refine z_callV4 dX12_read_65 rfl (ct_X12_isTaken n x3 (m 0 1) m hx3 h26) zc_X12 lm_0 k_1634 k_1636 kp_91 k_10 k_1637 zn_X12_isTaken ⟨rfl, rfl, Nat.le_of_ble_eq_true rfl, Nat.le_of_ble_eq_true rfl⟩ (Nat.le_of_ble_eq_true rfl) rfl (fun v27 m28 h29 ho30 => ?_)
      refine z_goto dX12_read_68 (tgt := 91) rfl ?_
      refine z_istore dX12_read_91 (lv' := [(4, .int (mI v27)), (0, .ref (ad 0)), (1, .int (mI x1)), (2, .int (mI x2)), (3, .int (mI x3))]) (by decide) rfl ?_
      refine z_iload_n dX12_read_93 3 rfl ?_
      refine z_iload dX12_read_94 0 rfl ?_
      refine z_if_eq dX12_read_96 (zb01 h29) (tgt := 105) rfl (fun h31 => ?_) (fun h31 => ?_)
      · refine z_iconst dX12_read_105 ?_
        refine z_ior dX12_read_106 hx2 (by decide) (fun h32 => ?_)
        refine z_istore_n dX12_read_107 (lv' := [(2, .int (mI (zlor x2 0))), (4, .int (mI v27)), (0, .ref (ad 0)), (1, .int (mI x1)), (3, .int (mI x3))]) (by decide) rfl ?_
        refine z_iinc dX12_read_108 (lv' := [(3, .int (mI (x3 + 1))), (2, .int (mI (zlor x2 0))), (4, .int (mI v27)), (0, .ref (ad 0)), (1, .int (mI x1))]) 4 rfl (by decide) rfl (fun h33 => ?_)
        refine z_goto dX12_read_111 (tgt := 46) rfl ?_
        exact zG_lvk (hr46 x1 (zlor x2 0) (x3 + 1) m28 hx1 h32 h33) [3, 4, 1, 0] rfl
      · refine z_iconst dX12_read_99 ?_
        refine z_iload_n dX12_read_100 4 rfl ?_
        refine z_ishl dX12_read_101 (fun h34 => ?_)
        refine z_goto dX12_read_102 (tgt := 106) rfl ?_
        refine z_ior dX12_read_106 hx2 h34 (fun h35 => ?_)
        refine z_istore_n dX12_read_107 (lv' := [(2, .int (mI (zlor x2 (1 * 2 ^ (x3 : Int).toNat)))), (4, .int (mI v27)), (0, .ref (ad 0)), (1, .int (mI x1)), (3, .int (mI x3))]) (by decide) rfl ?_
        refine z_iinc dX12_read_108 (lv' := [(3, .int (mI (x3 + 1))), (2, .int (mI (zlor x2 (1 * 2 ^ (x3 : Int).toNat)))), (4, .int (mI v27)), (0, .ref (ad 0)), (1, .int (mI x1))]) 4 rfl (by decide) rfl (fun h36 => ?_)
        refine z_goto dX12_read_111 (tgt := 46) rfl ?_
        exact zG_lvk (hr46 x1 (zlor x2 (1 * 2 ^ (x3 : Int).toNat)) (x3 + 1) m28 hx1 h35 h36) [3, 4, 1, 0] rfl
    · refine z_aload_n dX12_read_71 0 rfl ?_
      refine z_getR dX12_read_72 (k := 48) (j := 29) zc_X12 lm_0 rfl (by decide) k_1086 ?_
      refine z_iload_n dX12_read_75 3 rfl ?_
      refine z_iaload dX12_read_76 hx3 (fun h37 => ?_)
      refine z_aload_n dX12_read_77 0 rfl ?_
      refine z_getR dX12_read_78 (k := 10) (j := 4) zc_X12 lm_0 rfl (by decide) k_1048 ?_
      refine z_iload_n dX12_read_81 3 rfl ?_
      refine z_iaload dX12_read_82 hx3 (fun h38 => ?_)
      refine z_icmp_ne dX12_read_83 h37 h38 (tgt := 90) rfl (fun h39 => ?_) (fun h39 => ?_)
      · refine z_iconst dX12_read_86 ?_
        refine z_goto dX12_read_87 (tgt := 91) rfl ?_
        refine z_istore dX12_read_91 (lv' := [(4, .int (mI 1)), (0, .ref (ad 0)), (1, .int (mI x1)), (2, .int (mI x2)), (3, .int (mI x3))]) (by decide) rfl ?_
        refine z_iload_n dX12_read_93 3 rfl ?_
        refine z_iload dX12_read_94 0 rfl ?_
        refine z_if_eq_f dX12_read_96 (by decide) (by decide) (tgt := 105) rfl ?_
        refine z_iconst dX12_read_99 ?_
        refine z_iload_n dX12_read_100 4 rfl ?_
        refine z_ishl dX12_read_101 (fun h40 => ?_)
        refine z_goto dX12_read_102 (tgt := 106) rfl ?_
        refine z_ior dX12_read_106 hx2 h40 (fun h41 => ?_)
        refine z_istore_n dX12_read_107 (lv' := [(2, .int (mI (zlor x2 (1 * 2 ^ (x3 : Int).toNat)))), (4, .int (mI 1)), (0, .ref (ad 0)), (1, .int (mI x1)), (3, .int (mI x3))]) (by decide) rfl ?_
        refine z_iinc dX12_read_108 (lv' := [(3, .int (mI (x3 + 1))), (2, .int (mI (zlor x2 (1 * 2 ^ (x3 : Int).toNat)))), (4, .int (mI 1)), (0, .ref (ad 0)), (1, .int (mI x1))]) 4 rfl (by decide) rfl (fun h42 => ?_)
        refine z_goto dX12_read_111 (tgt := 46) rfl ?_
        exact zG_lvk (hr46 x1 (zlor x2 (1 * 2 ^ (x3 : Int).toNat)) (x3 + 1) m hx1 h41 h42) [3, 4, 1, 0] rfl
      · refine z_iconst dX12_read_90 ?_
        refine z_istore dX12_read_91 (lv' := [(4, .int (mI 0)), (0, .ref (ad 0)), (1, .int (mI x1)), (2, .int (mI x2)), (3, .int (mI x3))]) (by decide) rfl ?_
        refine z_iload_n dX12_read_93 3 rfl ?_
        refine z_iload dX12_read_94 0 rfl ?_
        refine z_if_eq_t dX12_read_96 (by decide) (by decide) (tgt := 105) rfl ?_
        refine z_iconst dX12_read_105 ?_
        refine z_ior dX12_read_106 hx2 (by decide) (fun h43 => ?_)
        refine z_istore_n dX12_read_107 (lv' := [(2, .int (mI (zlor x2 0))), (4, .int (mI 0)), (0, .ref (ad 0)), (1, .int (mI x1)), (3, .int (mI x3))]) (by decide) rfl ?_
        refine z_iinc dX12_read_108 (lv' := [(3, .int (mI (x3 + 1))), (2, .int (mI (zlor x2 0))), (4, .int (mI 0)), (0, .ref (ad 0)), (1, .int (mI x1))]) 4 rfl (by decide) rfl (fun h44 => ?_)
        refine z_goto dX12_read_111 (tgt := 46) rfl ?_
        exact zG_lvk (hr46 x1 (zlor x2 0) (x3 + 1) m hx1 h43 h44) [3, 4, 1, 0] rfl
theorem TL_X12_read_46 {ad sc sv : Nat → Nat} (n : Nat) : ∀ q : Nat, ∀ (x1 : Int) (x2 : Int) (x3 : Int) (m : ZMem), R32 x1 → R32 x2 → R32 x3 → zG LM ad sc sv M_X12_read 46 [(0, .ref (ad 0)), (1, .int (mI x1)), (2, .int (mI x2)), (3, .int (mI x3))] [] m (L_X12_read_46 n q x1 x2 x3 m) := by
  intro q
  induction q with
  | zero => intros; exact zG_none
  | succ q ih => exact T_X12_read_46 n (L_X12_read_46 n q) ih
set_option maxRecDepth 20000 in
theorem ct_X12_read {ad sc sv : Nat → Nat} (n : Nat) (a0 : Int) (m : ZMem) (ha0 : R32 a0) : zCT LM ad sc sv M_X12_read yX12_read [.ref (ad 0), .int (mI a0)] m (F_X12_read n a0 m) := by
  refine zCT_of (lv := [(0, .ref (ad 0)), (1, .int (mI a0))]) (by decide) rfl (Nat.le_of_ble_eq_true rfl) rfl ?_
  unfold F_X12_read
  refine z_aload_n dX12_read_0 0 rfl ?_
  refine z_iconst dX12_read_1 ?_
  refine z_putI dX12_read_2 (k := 16) zc_X12 lm_0 rfl (by decide) rfl rfl (by decide) k_1054 ?_
  refine z_iload_n dX12_read_5 1 rfl ?_
  refine z_i2l dX12_read_6 ha0 (fun h1 => ?_)
  refine z_lconst dX12_read_7 (x := 0) (by decide +kernel) ?_
  refine z_ldc2 dX12_read_8 (x := 2) k_1376 ?_
  refine z_callS4 dX12_read_11 rfl (ct_X12_in n a0 0 2 (wr m 0 16 0) h1 (by decide) (by decide)) k_1220 k_1221 k_10 k_1222 zn_X12_in ⟨rfl, rfl, Nat.le_of_ble_eq_true rfl, Nat.le_of_ble_eq_true rfl⟩ (Nat.le_of_ble_eq_true rfl) rfl (fun v2 m3 h4 ho5 => ?_)
  refine z_if_ne dX12_read_14 (zb01 h4) (tgt := 24) rfl (fun h6 => ?_) (fun h6 => ?_)
  · refine z_aload_n dX12_read_17 0 rfl ?_
    refine z_bipush dX12_read_18 (x := (-2)) (by decide +kernel) ?_
    refine z_callV1 dX12_read_20 rfl (ct_X12_refuse n (-2) m3 (by decide)) zc_X12 lm_0 k_1194 k_1196 kp_37 k_10 k_1197 zn_X12_refuse ⟨rfl, rfl, Nat.le_of_ble_eq_true rfl, Nat.le_of_ble_eq_true rfl⟩ (Nat.le_of_ble_eq_true rfl) rfl (fun v7 m8 h9 ho10 => ?_)
    exact z_iret dX12_read_23 rfl rfl h9
  · refine z_aload_n dX12_read_24 0 rfl ?_
    refine z_getI dX12_read_25 (k := 49) zc_X12 lm_0 rfl (by decide) k_1087 (fun h11 => ?_)
    refine z_aload_n dX12_read_28 0 rfl ?_
    refine z_getI dX12_read_29 (k := 2) zc_X12 lm_0 rfl (by decide) k_1040 (fun h12 => ?_)
    refine z_icmp_eq dX12_read_32 h11 h12 (tgt := 42) rfl (fun h13 => ?_) (fun h13 => ?_)
    · refine z_iconst dX12_read_42 ?_
      refine z_istore_n dX12_read_43 (lv' := [(2, .int (mI 0)), (0, .ref (ad 0)), (1, .int (mI a0))]) (by decide) rfl ?_
      refine z_iconst dX12_read_44 ?_
      refine z_istore_n dX12_read_45 (lv' := [(3, .int (mI 0)), (2, .int (mI 0)), (0, .ref (ad 0)), (1, .int (mI a0))]) (by decide) rfl ?_
      exact zG_lvk (TL_X12_read_46 n n a0 0 0 m3 ha0 (by decide) (by decide)) [2, 3, 1, 0] rfl
    · refine z_aload_n dX12_read_35 0 rfl ?_
      refine z_bipush dX12_read_36 (x := (-3)) (by decide +kernel) ?_
      refine z_callV1 dX12_read_38 rfl (ct_X12_refuse n (-3) m3 (by decide)) zc_X12 lm_0 k_1194 k_1196 kp_37 k_10 k_1197 zn_X12_refuse ⟨rfl, rfl, Nat.le_of_ble_eq_true rfl, Nat.le_of_ble_eq_true rfl⟩ (Nat.le_of_ble_eq_true rfl) rfl (fun v14 m15 h16 ho17 => ?_)
      exact z_iret dX12_read_41 rfl rfl h16
set_option maxRecDepth 20000 in
theorem T_X12_judge_30 {ad sc sv : Nat → Nat} (n : Nat) (r30 : Int → ZMem → ZR) (hr30 : ∀ (x1 : Int) (m : ZMem), R32 x1 → zG LM ad sc sv M_X12_judge 30 [(0, .ref (ad 0)), (1, .int (mI x1))] [] m (r30 x1 m)) : ∀ (x1 : Int) (m : ZMem), R32 x1 → zG LM ad sc sv M_X12_judge 30 [(0, .ref (ad 0)), (1, .int (mI x1))] [] m (B_X12_judge_30 n r30 x1 m) := by
  intro x1 m hx1
  unfold B_X12_judge_30
  refine z_iload_n dX12_judge_30 1 rfl ?_
  refine z_aload_n dX12_judge_31 0 rfl ?_
  refine z_getI dX12_judge_32 (k := 2) zc_X12 lm_0 rfl (by decide) k_1040 (fun h8 => ?_)
  refine z_icmp_ge dX12_judge_35 hx1 h8 (tgt := 73) rfl (fun h9 => ?_) (fun h9 => ?_)
  · refine z_bipush dX12_judge_73 (x := (-9)) (by decide +kernel) ?_
    exact z_iret dX12_judge_75 rfl rfl (by decide)
  · refine z_aload_n dX12_judge_38 0 rfl ?_
    refine z_iload_n dX12_judge_39 1 rfl ?_
    refine z_aload_n dX12_judge_40 0 rfl ?_
    refine z_getI dX12_judge_41 (k := 1) zc_X12 lm_0 rfl (by decide) k_1039 (fun h10 => ?_)
    refine z_callV4 dX12_judge_44 rfl (ct_X12_isTaken n x1 (m 0 1) m hx1 h10) zc_X12 lm_0 k_1634 k_1636 kp_91 k_10 k_1637 zn_X12_isTaken ⟨rfl, rfl, Nat.le_of_ble_eq_true rfl, Nat.le_of_ble_eq_true rfl⟩ (Nat.le_of_ble_eq_true rfl) rfl (fun v11 m12 h13 ho14 => ?_)
    refine z_if_ne dX12_judge_47 (zb01 h13) (tgt := 67) rfl (fun h15 => ?_) (fun h15 => ?_)
    · refine z_aload_n dX12_judge_50 0 rfl ?_
      refine z_getR dX12_judge_51 (k := 48) (j := 29) zc_X12 lm_0 rfl (by decide) k_1086 ?_
      refine z_iload_n dX12_judge_54 1 rfl ?_
      refine z_iaload dX12_judge_55 hx1 (fun h16 => ?_)
      refine z_aload_n dX12_judge_56 0 rfl ?_
      refine z_getR dX12_judge_57 (k := 10) (j := 4) zc_X12 lm_0 rfl (by decide) k_1048 ?_
      refine z_iload_n dX12_judge_60 1 rfl ?_
      refine z_iaload dX12_judge_61 hx1 (fun h17 => ?_)
      refine z_icmp_eq dX12_judge_62 h16 h17 (tgt := 67) rfl (fun h18 => ?_) (fun h18 => ?_)
      · refine z_iinc dX12_judge_67 (lv' := [(1, .int (mI (x1 + 1))), (0, .ref (ad 0))]) 1 rfl (by decide) rfl (fun h19 => ?_)
        refine z_goto dX12_judge_70 (tgt := 30) rfl ?_
        exact zG_lvk (hr30 (x1 + 1) m12 h19) [1, 0] rfl
      · refine z_iload_n dX12_judge_65 1 rfl ?_
        exact z_iret dX12_judge_66 rfl rfl hx1
    · refine z_iinc dX12_judge_67 (lv' := [(1, .int (mI (x1 + 1))), (0, .ref (ad 0))]) 1 rfl (by decide) rfl (fun h20 => ?_)
      refine z_goto dX12_judge_70 (tgt := 30) rfl ?_
      exact zG_lvk (hr30 (x1 + 1) m12 h20) [1, 0] rfl
theorem TL_X12_judge_30 {ad sc sv : Nat → Nat} (n : Nat) : ∀ q : Nat, ∀ (x1 : Int) (m : ZMem), R32 x1 → zG LM ad sc sv M_X12_judge 30 [(0, .ref (ad 0)), (1, .int (mI x1))] [] m (L_X12_judge_30 n q x1 m) := by
  intro q
  induction q with
  | zero => intros; exact zG_none
  | succ q ih => exact T_X12_judge_30 n (L_X12_judge_30 n q) ih
set_option maxRecDepth 20000 in
theorem ct_X12_judge {ad sc sv : Nat → Nat} (n : Nat) (m : ZMem) : zCT LM ad sc sv M_X12_judge yX12_judge [.ref (ad 0)] m (F_X12_judge n m) := by
  refine zCT_of (lv := [(0, .ref (ad 0))]) (by decide) rfl (Nat.le_of_ble_eq_true rfl) rfl ?_
  unfold F_X12_judge
  refine z_aload_n dX12_judge_0 0 rfl ?_
  refine z_iconst dX12_judge_1 ?_
  refine z_putI dX12_judge_2 (k := 16) zc_X12 lm_0 rfl (by decide) rfl rfl (by decide) k_1054 ?_
  refine z_aload_n dX12_judge_5 0 rfl ?_
  refine z_getI dX12_judge_6 (k := 49) zc_X12 lm_0 rfl (by decide) k_1087 (fun h1 => ?_)
  refine z_aload_n dX12_judge_9 0 rfl ?_
  refine z_getI dX12_judge_10 (k := 2) zc_X12 lm_0 rfl (by decide) k_1040 (fun h2 => ?_)
  refine z_icmp_eq dX12_judge_13 h1 h2 (tgt := 23) rfl (fun h3 => ?_) (fun h3 => ?_)
  · refine z_aload_n dX12_judge_23 0 rfl ?_
    refine z_iconst dX12_judge_24 ?_
    refine z_putI dX12_judge_25 (k := 49) zc_X12 lm_0 rfl (by decide) rfl rfl (by decide) k_1087 ?_
    refine z_iconst dX12_judge_28 ?_
    refine z_istore_n dX12_judge_29 (lv' := [(1, .int (mI 0)), (0, .ref (ad 0))]) (by decide) rfl ?_
    exact zG_lvk (TL_X12_judge_30 n n 0 (wr (wr m 0 16 0) 0 49 0) (by decide)) [1, 0] rfl
  · refine z_aload_n dX12_judge_16 0 rfl ?_
    refine z_bipush dX12_judge_17 (x := (-3)) (by decide +kernel) ?_
    refine z_callV1 dX12_judge_19 rfl (ct_X12_refuse n (-3) (wr m 0 16 0) (by decide)) zc_X12 lm_0 k_1194 k_1196 kp_37 k_10 k_1197 zn_X12_refuse ⟨rfl, rfl, Nat.le_of_ble_eq_true rfl, Nat.le_of_ble_eq_true rfl⟩ (Nat.le_of_ble_eq_true rfl) rfl (fun v4 m5 h6 ho7 => ?_)
    exact z_iret dX12_judge_22 rfl rfl h6
set_option maxRecDepth 20000 in
theorem ct_X12_clear {ad sc sv : Nat → Nat} (n : Nat) (m : ZMem) : zCT LM ad sc sv M_X12_clear yX12_clear [.ref (ad 0)] m (F_X12_clear n m) := by
  refine zCT_of (lv := [(0, .ref (ad 0))]) (by decide) rfl (Nat.le_of_ble_eq_true rfl) rfl ?_
  unfold F_X12_clear
  refine z_aload_n dX12_clear_0 0 rfl ?_
  refine z_iconst dX12_clear_1 ?_
  refine z_putI dX12_clear_2 (k := 16) zc_X12 lm_0 rfl (by decide) rfl rfl (by decide) k_1054 ?_
  refine z_aload_n dX12_clear_5 0 rfl ?_
  refine z_getI dX12_clear_6 (k := 49) zc_X12 lm_0 rfl (by decide) k_1087 (fun h1 => ?_)
  refine z_istore_n dX12_clear_9 (lv' := [(1, .int (mI ((wr m 0 16 0) 0 49))), (0, .ref (ad 0))]) (by decide) rfl ?_
  refine z_aload_n dX12_clear_10 1 rfl ?_
  refine z_iconst dX12_clear_11 ?_
  refine z_putI dX12_clear_12 (k := 49) zc_X12 lm_0 rfl (by decide) rfl rfl (by decide) k_1087 ?_
  refine z_iload_n dX12_clear_15 0 rfl ?_
  exact z_iret dX12_clear_16 rfl rfl h1
set_option maxRecDepth 20000 in
theorem T_X12_seeds_69 {ad sc sv : Nat → Nat} (n : Nat) (r69 : Int → Int → Int → Int → Int → Int → ZMem → ZR) (hr69 : ∀ (x1 : Int) (x3 : Int) (x5 : Int) (x6 : Int) (x7 : Int) (x8 : Int) (m : ZMem), R32 x1 → R32 x3 → R32 x5 → R32 x6 → R32 x7 → R32 x8 → zG LM ad sc sv M_X12_seeds 69 [(0, .ref (ad 0)), (1, .int (mI x1)), (3, .int (mI x3)), (5, .int (mI x5)), (6, .int (mI x6)), (7, .int (mI x7)), (8, .int (mI x8))] [] m (r69 x1 x3 x5 x6 x7 x8 m)) : ∀ (x1 : Int) (x3 : Int) (x5 : Int) (x6 : Int) (x7 : Int) (x8 : Int) (m : ZMem), R32 x1 → R32 x3 → R32 x5 → R32 x6 → R32 x7 → R32 x8 → zG LM ad sc sv M_X12_seeds 69 [(0, .ref (ad 0)), (1, .int (mI x1)), (3, .int (mI x3)), (5, .int (mI x5)), (6, .int (mI x6)), (7, .int (mI x7)), (8, .int (mI x8))] [] m (B_X12_seeds_69 n r69 x1 x3 x5 x6 x7 x8 m) := by
  intro x1 x3 x5 x6 x7 x8 m hx1 hx3 hx5 hx6 hx7 hx8
  unfold B_X12_seeds_69
  refine z_iload dX12_seeds_69 6 rfl ?_
  refine z_iload_n dX12_seeds_71 1 rfl ?_
  refine z_icmp_ge dX12_seeds_72 hx8 hx1 (tgt := 140) rfl (fun h32 => ?_) (fun h32 => ?_)
  · refine z_iload_n dX12_seeds_140 2 rfl ?_
    refine z_iconst dX12_seeds_141 ?_
    refine z_icmp_ne dX12_seeds_142 hx3 (by decide) (tgt := 151) rfl (fun h33 => ?_) (fun h33 => ?_)
    · refine z_iload dX12_seeds_145 5 rfl ?_
      refine z_i2l dX12_seeds_147 hx7 (fun h34 => ?_)
      refine z_goto dX12_seeds_148 (tgt := 162) rfl ?_
      exact z_lret dX12_seeds_162 rfl rfl h34
    · refine z_iload dX12_seeds_151 4 rfl ?_
      refine z_aload_n dX12_seeds_153 0 rfl ?_
      refine z_getI dX12_seeds_154 (k := 0) zc_X12 lm_0 rfl (by decide) k_1038 (fun h35 => ?_)
      refine z_iload_n dX12_seeds_157 2 rfl ?_
      refine z_callS1 dX12_seeds_158 rfl (ct_X12_partOf n x6 (m 0 0) x3 m hx6 h35 hx3) k_1342 k_1343 k_10 k_1344 zn_X12_partOf ⟨rfl, rfl, Nat.le_of_ble_eq_true rfl, Nat.le_of_ble_eq_true rfl⟩ (Nat.le_of_ble_eq_true rfl) rfl (fun v36 m37 h38 ho39 => ?_)
      refine z_i2l dX12_seeds_161 h38 (fun h40 => ?_)
      exact z_lret dX12_seeds_162 rfl rfl h40
  · refine z_iload dX12_seeds_75 3 rfl ?_
    refine z_ldcw dX12_seeds_77 (x := 1103515245) k_1654 ?_
    refine z_imulW dX12_seeds_80 (fun h41 => ?_)
    refine z_sipush dX12_seeds_81 (x := 12345) (by decide +kernel) ?_
    refine z_iaddW dX12_seeds_84 (fun h42 => ?_)
    refine z_istore dX12_seeds_85 (lv' := [(5, .int (mI ((((x5 * 1103515245).bmod 4294967296) + 12345).bmod 4294967296))), (0, .ref (ad 0)), (1, .int (mI x1)), (3, .int (mI x3)), (6, .int (mI x6)), (7, .int (mI x7)), (8, .int (mI x8))]) (by decide) rfl ?_
    refine z_iload dX12_seeds_87 0 rfl ?_
    refine z_ldcw dX12_seeds_89 (x := 2147483647) k_1655 ?_
    refine z_iandm dX12_seeds_92 31 (by decide +kernel) (by decide) (fun h43 => ?_)
    refine z_ldcw dX12_seeds_93 (x := 65536) k_1656 ?_
    refine z_idiv dX12_seeds_96 h43 (by decide) (fun h44 => ?_)
    refine z_bipush dX12_seeds_97 (x := 24) (by decide +kernel) ?_
    refine z_irem dX12_seeds_99 h44 (by decide) (fun h45 => ?_)
    refine z_iconst dX12_seeds_100 ?_
    refine z_iadd dX12_seeds_101 (fun h46 => ?_)
    refine z_istore dX12_seeds_102 (lv' := [(9, .int (mI ((((((((x5 * 1103515245).bmod 4294967296) + 12345).bmod 4294967296) % 2 ^ 31) / 65536) % 24) + 1))), (5, .int (mI ((((x5 * 1103515245).bmod 4294967296) + 12345).bmod 4294967296))), (0, .ref (ad 0)), (1, .int (mI x1)), (3, .int (mI x3)), (6, .int (mI x6)), (7, .int (mI x7)), (8, .int (mI x8))]) (by decide) rfl ?_
    refine z_iload dX12_seeds_104 5 rfl ?_
    refine z_aload_n dX12_seeds_106 2 rfl ?_
    refine z_iload dX12_seeds_107 0 rfl ?_
    refine z_callV1 dX12_seeds_109 rfl (ct_X12_offOf n ((((((((x5 * 1103515245).bmod 4294967296) + 12345).bmod 4294967296) % 2 ^ 31) / 65536) % 24) + 1) m h46) zc_X12 lm_0 k_1352 k_1354 kp_59 k_10 k_1355 zn_X12_offOf ⟨rfl, rfl, Nat.le_of_ble_eq_true rfl, Nat.le_of_ble_eq_true rfl⟩ (Nat.le_of_ble_eq_true rfl) rfl (fun v47 m48 h49 ho50 => ?_)
    refine z_iadd dX12_seeds_112 (fun h51 => ?_)
    refine z_istore dX12_seeds_113 (lv' := [(6, .int (mI (x6 + v47))), (9, .int (mI ((((((((x5 * 1103515245).bmod 4294967296) + 12345).bmod 4294967296) % 2 ^ 31) / 65536) % 24) + 1))), (5, .int (mI ((((x5 * 1103515245).bmod 4294967296) + 12345).bmod 4294967296))), (0, .ref (ad 0)), (1, .int (mI x1)), (3, .int (mI x3)), (7, .int (mI x7)), (8, .int (mI x8))]) (by decide) rfl ?_
    refine z_iload dX12_seeds_115 6 rfl ?_
    refine z_aload_n dX12_seeds_117 3 rfl ?_
    refine z_iload dX12_seeds_118 1 rfl ?_
    refine z_callV4 dX12_seeds_120 rfl (ct_X12_isEnough n ((((((((x5 * 1103515245).bmod 4294967296) + 12345).bmod 4294967296) % 2 ^ 31) / 65536) % 24) + 1) m48 h46) zc_X12 lm_0 k_1410 k_1412 kp_66 k_10 k_1413 zn_X12_isEnough ⟨rfl, rfl, Nat.le_of_ble_eq_true rfl, Nat.le_of_ble_eq_true rfl⟩ (Nat.le_of_ble_eq_true rfl) rfl (fun v52 m53 h54 ho55 => ?_)
    refine z_if_eq dX12_seeds_123 (zb01 h54) (tgt := 130) rfl (fun h56 => ?_) (fun h56 => ?_)
    · refine z_iconst dX12_seeds_130 ?_
      refine z_iadd dX12_seeds_131 (fun h57 => ?_)
      refine z_istore dX12_seeds_132 (lv' := [(7, .int (mI (x7 + 0))), (6, .int (mI (x6 + v47))), (9, .int (mI ((((((((x5 * 1103515245).bmod 4294967296) + 12345).bmod 4294967296) % 2 ^ 31) / 65536) % 24) + 1))), (5, .int (mI ((((x5 * 1103515245).bmod 4294967296) + 12345).bmod 4294967296))), (0, .ref (ad 0)), (1, .int (mI x1)), (3, .int (mI x3)), (8, .int (mI x8))]) (by decide) rfl ?_
      refine z_iinc dX12_seeds_134 (lv' := [(8, .int (mI (x8 + 1))), (7, .int (mI (x7 + 0))), (6, .int (mI (x6 + v47))), (9, .int (mI ((((((((x5 * 1103515245).bmod 4294967296) + 12345).bmod 4294967296) % 2 ^ 31) / 65536) % 24) + 1))), (5, .int (mI ((((x5 * 1103515245).bmod 4294967296) + 12345).bmod 4294967296))), (0, .ref (ad 0)), (1, .int (mI x1)), (3, .int (mI x3))]) 7 rfl (by decide) rfl (fun h58 => ?_)
      refine z_goto dX12_seeds_137 (tgt := 69) rfl ?_
      exact zG_lvk (hr69 x1 x3 ((((x5 * 1103515245).bmod 4294967296) + 12345).bmod 4294967296) (x6 + v47) (x7 + 0) (x8 + 1) m53 hx1 hx3 h42 h51 h57 h58) [5, 6, 7, 4, 2, 1, 0] rfl
    · refine z_iconst dX12_seeds_126 ?_
      refine z_goto dX12_seeds_127 (tgt := 131) rfl ?_
      refine z_iadd dX12_seeds_131 (fun h59 => ?_)
      refine z_istore dX12_seeds_132 (lv' := [(7, .int (mI (x7 + 1))), (6, .int (mI (x6 + v47))), (9, .int (mI ((((((((x5 * 1103515245).bmod 4294967296) + 12345).bmod 4294967296) % 2 ^ 31) / 65536) % 24) + 1))), (5, .int (mI ((((x5 * 1103515245).bmod 4294967296) + 12345).bmod 4294967296))), (0, .ref (ad 0)), (1, .int (mI x1)), (3, .int (mI x3)), (8, .int (mI x8))]) (by decide) rfl ?_
      refine z_iinc dX12_seeds_134 (lv' := [(8, .int (mI (x8 + 1))), (7, .int (mI (x7 + 1))), (6, .int (mI (x6 + v47))), (9, .int (mI ((((((((x5 * 1103515245).bmod 4294967296) + 12345).bmod 4294967296) % 2 ^ 31) / 65536) % 24) + 1))), (5, .int (mI ((((x5 * 1103515245).bmod 4294967296) + 12345).bmod 4294967296))), (0, .ref (ad 0)), (1, .int (mI x1)), (3, .int (mI x3))]) 7 rfl (by decide) rfl (fun h60 => ?_)
      refine z_goto dX12_seeds_137 (tgt := 69) rfl ?_
      exact zG_lvk (hr69 x1 x3 ((((x5 * 1103515245).bmod 4294967296) + 12345).bmod 4294967296) (x6 + v47) (x7 + 1) (x8 + 1) m53 hx1 hx3 h42 h51 h59 h60) [5, 6, 7, 4, 2, 1, 0] rfl
theorem TL_X12_seeds_69 {ad sc sv : Nat → Nat} (n : Nat) : ∀ q : Nat, ∀ (x1 : Int) (x3 : Int) (x5 : Int) (x6 : Int) (x7 : Int) (x8 : Int) (m : ZMem), R32 x1 → R32 x3 → R32 x5 → R32 x6 → R32 x7 → R32 x8 → zG LM ad sc sv M_X12_seeds 69 [(0, .ref (ad 0)), (1, .int (mI x1)), (3, .int (mI x3)), (5, .int (mI x5)), (6, .int (mI x6)), (7, .int (mI x7)), (8, .int (mI x8))] [] m (L_X12_seeds_69 n q x1 x3 x5 x6 x7 x8 m) := by
  intro q
  induction q with
  | zero => intros; exact zG_none
  | succ q ih => exact T_X12_seeds_69 n (L_X12_seeds_69 n q) ih
set_option maxRecDepth 20000 in
theorem ct_X12_seeds {ad sc sv : Nat → Nat} (n : Nat) (a0 : Int) (a1 : Int) (a2 : Int) (m : ZMem) (ha0 : R32 a0) (ha1 : R32 a1) (ha2 : R32 a2) : zCT LM ad sc sv M_X12_seeds yX12_seeds [.ref (ad 0), .int (mI a0), .int (mI a1), .int (mI a2)] m (F_X12_seeds n a0 a1 a2 m) := by
  refine zCT_of (lv := [(0, .ref (ad 0)), (1, .int (mI a0)), (2, .int (mI a1)), (3, .int (mI a2))]) (by decide) rfl (Nat.le_of_ble_eq_true rfl) rfl ?_
  unfold F_X12_seeds
  refine z_aload_n dX12_seeds_0 0 rfl ?_
  refine z_iconst dX12_seeds_1 ?_
  refine z_putI dX12_seeds_2 (k := 16) zc_X12 lm_0 rfl (by decide) rfl rfl (by decide) k_1054 ?_
  refine z_iload_n dX12_seeds_5 1 rfl ?_
  refine z_iconst dX12_seeds_6 ?_
  refine z_bipush dX12_seeds_7 (x := 20) (by decide +kernel) ?_
  refine z_callS1 dX12_seeds_9 rfl (ct_X12_wrongNumber n a0 1 20 (wr m 0 16 0) ha0 (by decide) (by decide)) k_1318 k_1319 k_10 k_1320 zn_X12_wrongNumber ⟨rfl, rfl, Nat.le_of_ble_eq_true rfl, Nat.le_of_ble_eq_true rfl⟩ (Nat.le_of_ble_eq_true rfl) rfl (fun v1 m2 h3 ho4 => ?_)
  refine z_istore dX12_seeds_12 (lv' := [(4, .int (mI v1)), (0, .ref (ad 0)), (1, .int (mI a0)), (2, .int (mI a1)), (3, .int (mI a2))]) (by decide) rfl ?_
  refine z_iload dX12_seeds_14 0 rfl ?_
  refine z_if_ne dX12_seeds_16 h3 (tgt := 36) rfl (fun h5 => ?_) (fun h5 => ?_)
  · refine z_iload_n dX12_seeds_19 4 rfl ?_
    refine z_i2l dX12_seeds_20 ha2 (fun h6 => ?_)
    refine z_lconst dX12_seeds_21 (x := 0) (by decide +kernel) ?_
    refine z_ldc2 dX12_seeds_22 (x := 2) k_1376 ?_
    refine z_callS4 dX12_seeds_25 rfl (ct_X12_in n a2 0 2 m2 h6 (by decide) (by decide)) k_1220 k_1221 k_10 k_1222 zn_X12_in ⟨rfl, rfl, Nat.le_of_ble_eq_true rfl, Nat.le_of_ble_eq_true rfl⟩ (Nat.le_of_ble_eq_true rfl) rfl (fun v7 m8 h9 ho10 => ?_)
    refine z_if_ne dX12_seeds_28 (zb01 h9) (tgt := 36) rfl (fun h11 => ?_) (fun h11 => ?_)
    · refine z_bipush dX12_seeds_31 (x := (-2)) (by decide +kernel) ?_
      refine z_goto dX12_seeds_33 (tgt := 38) rfl ?_
      refine z_istore dX12_seeds_38 (lv' := [(4, .int (mI (-2))), (0, .ref (ad 0)), (1, .int (mI a0)), (2, .int (mI a1)), (3, .int (mI a2))]) (by decide) rfl ?_
      refine z_iload dX12_seeds_40 0 rfl ?_
      refine z_if_ge_f dX12_seeds_42 (by decide) (by decide) (tgt := 57) rfl ?_
      refine z_ldc2 dX12_seeds_45 (x := 4000000000000000000) k_1341 ?_
      refine z_aload_n dX12_seeds_48 1 rfl ?_
      refine z_iload dX12_seeds_49 0 rfl ?_
      refine z_callV1 dX12_seeds_51 rfl (ct_X12_refuse n (-2) m8 (by decide)) zc_X12 lm_0 k_1194 k_1196 kp_37 k_10 k_1197 zn_X12_refuse ⟨rfl, rfl, Nat.le_of_ble_eq_true rfl, Nat.le_of_ble_eq_true rfl⟩ (Nat.le_of_ble_eq_true rfl) rfl (fun v12 m13 h14 ho15 => ?_)
      refine z_i2l dX12_seeds_54 h14 (fun h16 => ?_)
      refine z_lsub dX12_seeds_55 (fun h17 => ?_)
      exact z_lret dX12_seeds_56 rfl rfl h17
    · refine z_iload dX12_seeds_36 0 rfl ?_
      refine z_istore dX12_seeds_38 (lv' := [(4, .int (mI v1)), (0, .ref (ad 0)), (1, .int (mI a0)), (2, .int (mI a1)), (3, .int (mI a2))]) (by decide) rfl ?_
      refine z_iload dX12_seeds_40 0 rfl ?_
      refine z_if_ge dX12_seeds_42 h3 (tgt := 57) rfl (fun h18 => ?_) (fun h18 => ?_)
      · refine z_iload_n dX12_seeds_57 3 rfl ?_
        refine z_istore dX12_seeds_58 (lv' := [(5, .int (mI a1)), (4, .int (mI v1)), (0, .ref (ad 0)), (1, .int (mI a0)), (2, .int (mI a1)), (3, .int (mI a2))]) (by decide) rfl ?_
        refine z_iconst dX12_seeds_60 ?_
        refine z_istore dX12_seeds_61 (lv' := [(6, .int (mI 0)), (5, .int (mI a1)), (4, .int (mI v1)), (0, .ref (ad 0)), (1, .int (mI a0)), (2, .int (mI a1)), (3, .int (mI a2))]) (by decide) rfl ?_
        refine z_iconst dX12_seeds_63 ?_
        refine z_istore dX12_seeds_64 (lv' := [(7, .int (mI 0)), (6, .int (mI 0)), (5, .int (mI a1)), (4, .int (mI v1)), (0, .ref (ad 0)), (1, .int (mI a0)), (2, .int (mI a1)), (3, .int (mI a2))]) (by decide) rfl ?_
        refine z_iconst dX12_seeds_66 ?_
        refine z_istore dX12_seeds_67 (lv' := [(8, .int (mI 0)), (7, .int (mI 0)), (6, .int (mI 0)), (5, .int (mI a1)), (4, .int (mI v1)), (0, .ref (ad 0)), (1, .int (mI a0)), (2, .int (mI a1)), (3, .int (mI a2))]) (by decide) rfl ?_
        exact zG_lvk (TL_X12_seeds_69 n n a0 a2 a1 0 0 0 m8 ha0 ha2 ha1 (by decide) (by decide) (by decide)) [5, 6, 8, 3, 2, 1, 0] rfl
      · refine z_ldc2 dX12_seeds_45 (x := 4000000000000000000) k_1341 ?_
        refine z_aload_n dX12_seeds_48 1 rfl ?_
        refine z_iload dX12_seeds_49 0 rfl ?_
        refine z_callV1 dX12_seeds_51 rfl (ct_X12_refuse n v1 m8 h3) zc_X12 lm_0 k_1194 k_1196 kp_37 k_10 k_1197 zn_X12_refuse ⟨rfl, rfl, Nat.le_of_ble_eq_true rfl, Nat.le_of_ble_eq_true rfl⟩ (Nat.le_of_ble_eq_true rfl) rfl (fun v19 m20 h21 ho22 => ?_)
        refine z_i2l dX12_seeds_54 h21 (fun h23 => ?_)
        refine z_lsub dX12_seeds_55 (fun h24 => ?_)
        exact z_lret dX12_seeds_56 rfl rfl h24
  · refine z_iload dX12_seeds_36 0 rfl ?_
    refine z_istore dX12_seeds_38 (lv' := [(4, .int (mI v1)), (0, .ref (ad 0)), (1, .int (mI a0)), (2, .int (mI a1)), (3, .int (mI a2))]) (by decide) rfl ?_
    refine z_iload dX12_seeds_40 0 rfl ?_
    refine z_if_ge dX12_seeds_42 h3 (tgt := 57) rfl (fun h25 => ?_) (fun h25 => ?_)
    · refine z_iload_n dX12_seeds_57 3 rfl ?_
      refine z_istore dX12_seeds_58 (lv' := [(5, .int (mI a1)), (4, .int (mI v1)), (0, .ref (ad 0)), (1, .int (mI a0)), (2, .int (mI a1)), (3, .int (mI a2))]) (by decide) rfl ?_
      refine z_iconst dX12_seeds_60 ?_
      refine z_istore dX12_seeds_61 (lv' := [(6, .int (mI 0)), (5, .int (mI a1)), (4, .int (mI v1)), (0, .ref (ad 0)), (1, .int (mI a0)), (2, .int (mI a1)), (3, .int (mI a2))]) (by decide) rfl ?_
      refine z_iconst dX12_seeds_63 ?_
      refine z_istore dX12_seeds_64 (lv' := [(7, .int (mI 0)), (6, .int (mI 0)), (5, .int (mI a1)), (4, .int (mI v1)), (0, .ref (ad 0)), (1, .int (mI a0)), (2, .int (mI a1)), (3, .int (mI a2))]) (by decide) rfl ?_
      refine z_iconst dX12_seeds_66 ?_
      refine z_istore dX12_seeds_67 (lv' := [(8, .int (mI 0)), (7, .int (mI 0)), (6, .int (mI 0)), (5, .int (mI a1)), (4, .int (mI v1)), (0, .ref (ad 0)), (1, .int (mI a0)), (2, .int (mI a1)), (3, .int (mI a2))]) (by decide) rfl ?_
      exact zG_lvk (TL_X12_seeds_69 n n a0 a2 a1 0 0 0 m2 ha0 ha2 ha1 (by decide) (by decide) (by decide)) [5, 6, 8, 3, 2, 1, 0] rfl
    · refine z_ldc2 dX12_seeds_45 (x := 4000000000000000000) k_1341 ?_
      refine z_aload_n dX12_seeds_48 1 rfl ?_
      refine z_iload dX12_seeds_49 0 rfl ?_
      refine z_callV1 dX12_seeds_51 rfl (ct_X12_refuse n v1 m2 h3) zc_X12 lm_0 k_1194 k_1196 kp_37 k_10 k_1197 zn_X12_refuse ⟨rfl, rfl, Nat.le_of_ble_eq_true rfl, Nat.le_of_ble_eq_true rfl⟩ (Nat.le_of_ble_eq_true rfl) rfl (fun v26 m27 h28 ho29 => ?_)
      refine z_i2l dX12_seeds_54 h28 (fun h30 => ?_)
      refine z_lsub dX12_seeds_55 (fun h31 => ?_)
      exact z_lret dX12_seeds_56 rfl rfl h31
set_option maxRecDepth 20000 in
theorem T_X12_count_9 {ad sc sv : Nat → Nat} (n : Nat) (r9 : Int → Int → Int → ZMem → ZR) (hr9 : ∀ (x1 : Int) (x2 : Int) (x3 : Int) (m : ZMem), R32 x1 → R32 x2 → R32 x3 → zG LM ad sc sv M_X12_count 9 [(0, .ref (ad 0)), (1, .int (mI x1)), (2, .int (mI x2)), (3, .int (mI x3))] [] m (r9 x1 x2 x3 m)) : ∀ (x1 : Int) (x2 : Int) (x3 : Int) (m : ZMem), R32 x1 → R32 x2 → R32 x3 → zG LM ad sc sv M_X12_count 9 [(0, .ref (ad 0)), (1, .int (mI x1)), (2, .int (mI x2)), (3, .int (mI x3))] [] m (B_X12_count_9 n r9 x1 x2 x3 m) := by
  intro x1 x2 x3 m hx1 hx2 hx3
  unfold B_X12_count_9
  refine z_iload_n dX12_count_9 3 rfl ?_
  refine z_aload_n dX12_count_10 0 rfl ?_
  refine z_getI dX12_count_11 (k := 2) zc_X12 lm_0 rfl (by decide) k_1040 (fun h1 => ?_)
  refine z_icmp_ge dX12_count_14 hx3 h1 (tgt := 32) rfl (fun h2 => ?_) (fun h2 => ?_)
  · refine z_iload_n dX12_count_32 1 rfl ?_
    refine z_case (fun hc3 => ?_) (fun hc3 => ?_)
    · refine z_tsIn dX12_count_33 (cst := 0) hc3 (by decide) (by decide) rfl (tgt := 124) rfl ?_
      refine z_aload_n dX12_count_124 0 rfl ?_
      refine z_getI dX12_count_125 (k := 2) zc_X12 lm_0 rfl (by decide) k_1040 (fun h4 => ?_)
      exact z_iret dX12_count_128 rfl rfl h4
    · refine z_case (fun hc5 => ?_) (fun hc5 => ?_)
      · refine z_tsIn dX12_count_33 (cst := 1) hc5 (by decide) (by decide) rfl (tgt := 129) rfl ?_
        refine z_aload_n dX12_count_129 0 rfl ?_
        refine z_getI dX12_count_130 (k := 0) zc_X12 lm_0 rfl (by decide) k_1038 (fun h6 => ?_)
        exact z_iret dX12_count_133 rfl rfl h6
      · refine z_case (fun hc7 => ?_) (fun hc7 => ?_)
        · refine z_tsIn dX12_count_33 (cst := 2) hc7 (by decide) (by decide) rfl (tgt := 134) rfl ?_
          refine z_aload_n dX12_count_134 0 rfl ?_
          refine z_getI dX12_count_135 (k := 1) zc_X12 lm_0 rfl (by decide) k_1039 (fun h8 => ?_)
          exact z_iret dX12_count_138 rfl rfl h8
        · refine z_case (fun hc9 => ?_) (fun hc9 => ?_)
          · refine z_tsIn dX12_count_33 (cst := 3) hc9 (by decide) (by decide) rfl (tgt := 139) rfl ?_
            refine z_aload_n dX12_count_139 0 rfl ?_
            refine z_getI dX12_count_140 (k := 3) zc_X12 lm_0 rfl (by decide) k_1041 (fun h10 => ?_)
            exact z_iret dX12_count_143 rfl rfl h10
          · refine z_case (fun hc11 => ?_) (fun hc11 => ?_)
            · refine z_tsIn dX12_count_33 (cst := 4) hc11 (by decide) (by decide) rfl (tgt := 144) rfl ?_
              refine z_aload_n dX12_count_144 0 rfl ?_
              refine z_getI dX12_count_145 (k := 4) zc_X12 lm_0 rfl (by decide) k_1042 (fun h12 => ?_)
              exact z_iret dX12_count_148 rfl rfl h12
            · refine z_case (fun hc13 => ?_) (fun hc13 => ?_)
              · refine z_tsIn dX12_count_33 (cst := 5) hc13 (by decide) (by decide) rfl (tgt := 149) rfl ?_
                refine z_iload_n dX12_count_149 2 rfl ?_
                exact z_iret dX12_count_150 rfl rfl hx2
              · refine z_case (fun hc14 => ?_) (fun hc14 => ?_)
                · refine z_tsIn dX12_count_33 (cst := 6) hc14 (by decide) (by decide) rfl (tgt := 151) rfl ?_
                  refine z_aload_n dX12_count_151 0 rfl ?_
                  refine z_getI dX12_count_152 (k := 19) zc_X12 lm_0 rfl (by decide) k_1057 (fun h15 => ?_)
                  exact z_iret dX12_count_155 rfl rfl h15
                · refine z_case (fun hc16 => ?_) (fun hc16 => ?_)
                  · refine z_tsIn dX12_count_33 (cst := 7) hc16 (by decide) (by decide) rfl (tgt := 156) rfl ?_
                    refine z_aload_n dX12_count_156 0 rfl ?_
                    refine z_getI dX12_count_157 (k := 49) zc_X12 lm_0 rfl (by decide) k_1087 (fun h17 => ?_)
                    exact z_iret dX12_count_160 rfl rfl h17
                  · refine z_case (fun hc18 => ?_) (fun hc18 => ?_)
                    · refine z_tsIn dX12_count_33 (cst := 8) hc18 (by decide) (by decide) rfl (tgt := 161) rfl ?_
                      refine z_aload_n dX12_count_161 0 rfl ?_
                      refine z_getI dX12_count_162 (k := 5) zc_X12 lm_0 rfl (by decide) k_1043 (fun h19 => ?_)
                      exact z_iret dX12_count_165 rfl rfl h19
                    · refine z_case (fun hc20 => ?_) (fun hc20 => ?_)
                      · refine z_tsIn dX12_count_33 (cst := 9) hc20 (by decide) (by decide) rfl (tgt := 166) rfl ?_
                        refine z_aload_n dX12_count_166 0 rfl ?_
                        refine z_getI dX12_count_167 (k := 6) zc_X12 lm_0 rfl (by decide) k_1044 (fun h21 => ?_)
                        exact z_iret dX12_count_170 rfl rfl h21
                      · refine z_case (fun hc22 => ?_) (fun hc22 => ?_)
                        · refine z_tsIn dX12_count_33 (cst := 10) hc22 (by decide) (by decide) rfl (tgt := 171) rfl ?_
                          refine z_aload_n dX12_count_171 0 rfl ?_
                          refine z_getI dX12_count_172 (k := 41) zc_X12 lm_0 rfl (by decide) k_1079 (fun h23 => ?_)
                          exact z_iret dX12_count_175 rfl rfl h23
                        · refine z_case (fun hc24 => ?_) (fun hc24 => ?_)
                          · refine z_tsIn dX12_count_33 (cst := 11) hc24 (by decide) (by decide) rfl (tgt := 186) rfl ?_
                            refine z_iload_n dX12_count_186 1 rfl ?_
                            refine z_i2l dX12_count_187 hx1 (fun h25 => ?_)
                            refine z_ldc2 dX12_count_188 (x := 20) k_1661 ?_
                            refine z_ldc2 dX12_count_191 (x := 22) k_1662 ?_
                            refine z_callS4 dX12_count_194 rfl (ct_X12_in n x1 20 22 m h25 (by decide) (by decide)) k_1220 k_1221 k_10 k_1222 zn_X12_in ⟨rfl, rfl, Nat.le_of_ble_eq_true rfl, Nat.le_of_ble_eq_true rfl⟩ (Nat.le_of_ble_eq_true rfl) rfl (fun v26 m27 h28 ho29 => ?_)
                            refine z_if_eq dX12_count_197 (zb01 h28) (tgt := 212) rfl (fun h30 => ?_) (fun h30 => ?_)
                            · refine z_iload_n dX12_count_212 1 rfl ?_
                              refine z_i2l dX12_count_213 hx1 (fun h31 => ?_)
                              refine z_ldc2 dX12_count_214 (x := 11) k_1663 ?_
                              refine z_ldc2 dX12_count_217 (x := 16) k_1664 ?_
                              refine z_callS4 dX12_count_220 rfl (ct_X12_in n x1 11 16 m27 h31 (by decide) (by decide)) k_1220 k_1221 k_10 k_1222 zn_X12_in ⟨rfl, rfl, Nat.le_of_ble_eq_true rfl, Nat.le_of_ble_eq_true rfl⟩ (Nat.le_of_ble_eq_true rfl) rfl (fun v32 m33 h34 ho35 => ?_)
                              refine z_if_eq dX12_count_223 (zb01 h34) (tgt := 238) rfl (fun h36 => ?_) (fun h36 => ?_)
                              · refine z_bipush dX12_count_238 (x := (-9)) (by decide +kernel) ?_
                                exact z_iret dX12_count_240 rfl rfl (by decide)
                              · refine z_aload_n dX12_count_226 0 rfl ?_
                                refine z_getR dX12_count_227 (k := 17) (j := 10) zc_X12 lm_0 rfl (by decide) k_1055 ?_
                                refine z_iload_n dX12_count_230 1 rfl ?_
                                refine z_bipush dX12_count_231 (x := 10) (by decide +kernel) ?_
                                refine z_isub dX12_count_233 (fun h37 => ?_)
                                refine z_iaload dX12_count_234 h37 (fun h38 => ?_)
                                refine z_goto dX12_count_235 (tgt := 240) rfl ?_
                                exact z_iret dX12_count_240 rfl rfl h38
                            · refine z_aload_n dX12_count_200 0 rfl ?_
                              refine z_getR dX12_count_201 (k := 15) (j := 9) zc_X12 lm_0 rfl (by decide) k_1053 ?_
                              refine z_iload_n dX12_count_204 1 rfl ?_
                              refine z_bipush dX12_count_205 (x := 20) (by decide +kernel) ?_
                              refine z_isub dX12_count_207 (fun h39 => ?_)
                              refine z_iaload dX12_count_208 h39 (fun h40 => ?_)
                              refine z_goto dX12_count_209 (tgt := 240) rfl ?_
                              exact z_iret dX12_count_240 rfl rfl h40
                          · refine z_case (fun hc41 => ?_) (fun hc41 => ?_)
                            · refine z_tsIn dX12_count_33 (cst := 12) hc41 (by decide) (by decide) rfl (tgt := 186) rfl ?_
                              refine z_iload_n dX12_count_186 1 rfl ?_
                              refine z_i2l dX12_count_187 hx1 (fun h42 => ?_)
                              refine z_ldc2 dX12_count_188 (x := 20) k_1661 ?_
                              refine z_ldc2 dX12_count_191 (x := 22) k_1662 ?_
                              refine z_callS4 dX12_count_194 rfl (ct_X12_in n x1 20 22 m h42 (by decide) (by decide)) k_1220 k_1221 k_10 k_1222 zn_X12_in ⟨rfl, rfl, Nat.le_of_ble_eq_true rfl, Nat.le_of_ble_eq_true rfl⟩ (Nat.le_of_ble_eq_true rfl) rfl (fun v43 m44 h45 ho46 => ?_)
                              refine z_if_eq dX12_count_197 (zb01 h45) (tgt := 212) rfl (fun h47 => ?_) (fun h47 => ?_)
                              · refine z_iload_n dX12_count_212 1 rfl ?_
                                refine z_i2l dX12_count_213 hx1 (fun h48 => ?_)
                                refine z_ldc2 dX12_count_214 (x := 11) k_1663 ?_
                                refine z_ldc2 dX12_count_217 (x := 16) k_1664 ?_
                                refine z_callS4 dX12_count_220 rfl (ct_X12_in n x1 11 16 m44 h48 (by decide) (by decide)) k_1220 k_1221 k_10 k_1222 zn_X12_in ⟨rfl, rfl, Nat.le_of_ble_eq_true rfl, Nat.le_of_ble_eq_true rfl⟩ (Nat.le_of_ble_eq_true rfl) rfl (fun v49 m50 h51 ho52 => ?_)
                                refine z_if_eq dX12_count_223 (zb01 h51) (tgt := 238) rfl (fun h53 => ?_) (fun h53 => ?_)
                                · refine z_bipush dX12_count_238 (x := (-9)) (by decide +kernel) ?_
                                  exact z_iret dX12_count_240 rfl rfl (by decide)
                                · refine z_aload_n dX12_count_226 0 rfl ?_
                                  refine z_getR dX12_count_227 (k := 17) (j := 10) zc_X12 lm_0 rfl (by decide) k_1055 ?_
                                  refine z_iload_n dX12_count_230 1 rfl ?_
                                  refine z_bipush dX12_count_231 (x := 10) (by decide +kernel) ?_
                                  refine z_isub dX12_count_233 (fun h54 => ?_)
                                  refine z_iaload dX12_count_234 h54 (fun h55 => ?_)
                                  refine z_goto dX12_count_235 (tgt := 240) rfl ?_
                                  exact z_iret dX12_count_240 rfl rfl h55
                              · refine z_aload_n dX12_count_200 0 rfl ?_
                                refine z_getR dX12_count_201 (k := 15) (j := 9) zc_X12 lm_0 rfl (by decide) k_1053 ?_
                                refine z_iload_n dX12_count_204 1 rfl ?_
                                refine z_bipush dX12_count_205 (x := 20) (by decide +kernel) ?_
                                refine z_isub dX12_count_207 (fun h56 => ?_)
                                refine z_iaload dX12_count_208 h56 (fun h57 => ?_)
                                refine z_goto dX12_count_209 (tgt := 240) rfl ?_
                                exact z_iret dX12_count_240 rfl rfl h57
                            · refine z_case (fun hc58 => ?_) (fun hc58 => ?_)
                              · refine z_tsIn dX12_count_33 (cst := 13) hc58 (by decide) (by decide) rfl (tgt := 186) rfl ?_
                                refine z_iload_n dX12_count_186 1 rfl ?_
                                refine z_i2l dX12_count_187 hx1 (fun h59 => ?_)
                                refine z_ldc2 dX12_count_188 (x := 20) k_1661 ?_
                                refine z_ldc2 dX12_count_191 (x := 22) k_1662 ?_
                                refine z_callS4 dX12_count_194 rfl (ct_X12_in n x1 20 22 m h59 (by decide) (by decide)) k_1220 k_1221 k_10 k_1222 zn_X12_in ⟨rfl, rfl, Nat.le_of_ble_eq_true rfl, Nat.le_of_ble_eq_true rfl⟩ (Nat.le_of_ble_eq_true rfl) rfl (fun v60 m61 h62 ho63 => ?_)
                                refine z_if_eq dX12_count_197 (zb01 h62) (tgt := 212) rfl (fun h64 => ?_) (fun h64 => ?_)
                                · refine z_iload_n dX12_count_212 1 rfl ?_
                                  refine z_i2l dX12_count_213 hx1 (fun h65 => ?_)
                                  refine z_ldc2 dX12_count_214 (x := 11) k_1663 ?_
                                  refine z_ldc2 dX12_count_217 (x := 16) k_1664 ?_
                                  refine z_callS4 dX12_count_220 rfl (ct_X12_in n x1 11 16 m61 h65 (by decide) (by decide)) k_1220 k_1221 k_10 k_1222 zn_X12_in ⟨rfl, rfl, Nat.le_of_ble_eq_true rfl, Nat.le_of_ble_eq_true rfl⟩ (Nat.le_of_ble_eq_true rfl) rfl (fun v66 m67 h68 ho69 => ?_)
                                  refine z_if_eq dX12_count_223 (zb01 h68) (tgt := 238) rfl (fun h70 => ?_) (fun h70 => ?_)
                                  · refine z_bipush dX12_count_238 (x := (-9)) (by decide +kernel) ?_
                                    exact z_iret dX12_count_240 rfl rfl (by decide)
                                  · refine z_aload_n dX12_count_226 0 rfl ?_
                                    refine z_getR dX12_count_227 (k := 17) (j := 10) zc_X12 lm_0 rfl (by decide) k_1055 ?_
                                    refine z_iload_n dX12_count_230 1 rfl ?_
                                    refine z_bipush dX12_count_231 (x := 10) (by decide +kernel) ?_
                                    refine z_isub dX12_count_233 (fun h71 => ?_)
                                    refine z_iaload dX12_count_234 h71 (fun h72 => ?_)
                                    refine z_goto dX12_count_235 (tgt := 240) rfl ?_
                                    exact z_iret dX12_count_240 rfl rfl h72
                                · refine z_aload_n dX12_count_200 0 rfl ?_
                                  refine z_getR dX12_count_201 (k := 15) (j := 9) zc_X12 lm_0 rfl (by decide) k_1053 ?_
                                  refine z_iload_n dX12_count_204 1 rfl ?_
                                  refine z_bipush dX12_count_205 (x := 20) (by decide +kernel) ?_
                                  refine z_isub dX12_count_207 (fun h73 => ?_)
                                  refine z_iaload dX12_count_208 h73 (fun h74 => ?_)
                                  refine z_goto dX12_count_209 (tgt := 240) rfl ?_
                                  exact z_iret dX12_count_240 rfl rfl h74
                              · refine z_case (fun hc75 => ?_) (fun hc75 => ?_)
                                · refine z_tsIn dX12_count_33 (cst := 14) hc75 (by decide) (by decide) rfl (tgt := 186) rfl ?_
                                  refine z_iload_n dX12_count_186 1 rfl ?_
                                  refine z_i2l dX12_count_187 hx1 (fun h76 => ?_)
                                  refine z_ldc2 dX12_count_188 (x := 20) k_1661 ?_
                                  refine z_ldc2 dX12_count_191 (x := 22) k_1662 ?_
                                  refine z_callS4 dX12_count_194 rfl (ct_X12_in n x1 20 22 m h76 (by decide) (by decide)) k_1220 k_1221 k_10 k_1222 zn_X12_in ⟨rfl, rfl, Nat.le_of_ble_eq_true rfl, Nat.le_of_ble_eq_true rfl⟩ (Nat.le_of_ble_eq_true rfl) rfl (fun v77 m78 h79 ho80 => ?_)
                                  refine z_if_eq dX12_count_197 (zb01 h79) (tgt := 212) rfl (fun h81 => ?_) (fun h81 => ?_)
                                  · refine z_iload_n dX12_count_212 1 rfl ?_
                                    refine z_i2l dX12_count_213 hx1 (fun h82 => ?_)
                                    refine z_ldc2 dX12_count_214 (x := 11) k_1663 ?_
                                    refine z_ldc2 dX12_count_217 (x := 16) k_1664 ?_
                                    refine z_callS4 dX12_count_220 rfl (ct_X12_in n x1 11 16 m78 h82 (by decide) (by decide)) k_1220 k_1221 k_10 k_1222 zn_X12_in ⟨rfl, rfl, Nat.le_of_ble_eq_true rfl, Nat.le_of_ble_eq_true rfl⟩ (Nat.le_of_ble_eq_true rfl) rfl (fun v83 m84 h85 ho86 => ?_)
                                    refine z_if_eq dX12_count_223 (zb01 h85) (tgt := 238) rfl (fun h87 => ?_) (fun h87 => ?_)
                                    · refine z_bipush dX12_count_238 (x := (-9)) (by decide +kernel) ?_
                                      exact z_iret dX12_count_240 rfl rfl (by decide)
                                    · refine z_aload_n dX12_count_226 0 rfl ?_
                                      refine z_getR dX12_count_227 (k := 17) (j := 10) zc_X12 lm_0 rfl (by decide) k_1055 ?_
                                      refine z_iload_n dX12_count_230 1 rfl ?_
                                      refine z_bipush dX12_count_231 (x := 10) (by decide +kernel) ?_
                                      refine z_isub dX12_count_233 (fun h88 => ?_)
                                      refine z_iaload dX12_count_234 h88 (fun h89 => ?_)
                                      refine z_goto dX12_count_235 (tgt := 240) rfl ?_
                                      exact z_iret dX12_count_240 rfl rfl h89
                                  · refine z_aload_n dX12_count_200 0 rfl ?_
                                    refine z_getR dX12_count_201 (k := 15) (j := 9) zc_X12 lm_0 rfl (by decide) k_1053 ?_
                                    refine z_iload_n dX12_count_204 1 rfl ?_
                                    refine z_bipush dX12_count_205 (x := 20) (by decide +kernel) ?_
                                    refine z_isub dX12_count_207 (fun h90 => ?_)
                                    refine z_iaload dX12_count_208 h90 (fun h91 => ?_)
                                    refine z_goto dX12_count_209 (tgt := 240) rfl ?_
                                    exact z_iret dX12_count_240 rfl rfl h91
                                · refine z_case (fun hc92 => ?_) (fun hc92 => ?_)
                                  · refine z_tsIn dX12_count_33 (cst := 15) hc92 (by decide) (by decide) rfl (tgt := 186) rfl ?_
                                    refine z_iload_n dX12_count_186 1 rfl ?_
                                    refine z_i2l dX12_count_187 hx1 (fun h93 => ?_)
                                    refine z_ldc2 dX12_count_188 (x := 20) k_1661 ?_
                                    refine z_ldc2 dX12_count_191 (x := 22) k_1662 ?_
                                    refine z_callS4 dX12_count_194 rfl (ct_X12_in n x1 20 22 m h93 (by decide) (by decide)) k_1220 k_1221 k_10 k_1222 zn_X12_in ⟨rfl, rfl, Nat.le_of_ble_eq_true rfl, Nat.le_of_ble_eq_true rfl⟩ (Nat.le_of_ble_eq_true rfl) rfl (fun v94 m95 h96 ho97 => ?_)
                                    refine z_if_eq dX12_count_197 (zb01 h96) (tgt := 212) rfl (fun h98 => ?_) (fun h98 => ?_)
                                    · refine z_iload_n dX12_count_212 1 rfl ?_
                                      refine z_i2l dX12_count_213 hx1 (fun h99 => ?_)
                                      refine z_ldc2 dX12_count_214 (x := 11) k_1663 ?_
                                      refine z_ldc2 dX12_count_217 (x := 16) k_1664 ?_
                                      refine z_callS4 dX12_count_220 rfl (ct_X12_in n x1 11 16 m95 h99 (by decide) (by decide)) k_1220 k_1221 k_10 k_1222 zn_X12_in ⟨rfl, rfl, Nat.le_of_ble_eq_true rfl, Nat.le_of_ble_eq_true rfl⟩ (Nat.le_of_ble_eq_true rfl) rfl (fun v100 m101 h102 ho103 => ?_)
                                      refine z_if_eq dX12_count_223 (zb01 h102) (tgt := 238) rfl (fun h104 => ?_) (fun h104 => ?_)
                                      · refine z_bipush dX12_count_238 (x := (-9)) (by decide +kernel) ?_
                                        exact z_iret dX12_count_240 rfl rfl (by decide)
                                      · refine z_aload_n dX12_count_226 0 rfl ?_
                                        refine z_getR dX12_count_227 (k := 17) (j := 10) zc_X12 lm_0 rfl (by decide) k_1055 ?_
                                        refine z_iload_n dX12_count_230 1 rfl ?_
                                        refine z_bipush dX12_count_231 (x := 10) (by decide +kernel) ?_
                                        refine z_isub dX12_count_233 (fun h105 => ?_)
                                        refine z_iaload dX12_count_234 h105 (fun h106 => ?_)
                                        refine z_goto dX12_count_235 (tgt := 240) rfl ?_
                                        exact z_iret dX12_count_240 rfl rfl h106
                                    · refine z_aload_n dX12_count_200 0 rfl ?_
                                      refine z_getR dX12_count_201 (k := 15) (j := 9) zc_X12 lm_0 rfl (by decide) k_1053 ?_
                                      refine z_iload_n dX12_count_204 1 rfl ?_
                                      refine z_bipush dX12_count_205 (x := 20) (by decide +kernel) ?_
                                      refine z_isub dX12_count_207 (fun h107 => ?_)
                                      refine z_iaload dX12_count_208 h107 (fun h108 => ?_)
                                      refine z_goto dX12_count_209 (tgt := 240) rfl ?_
                                      exact z_iret dX12_count_240 rfl rfl h108
                                  · refine z_case (fun hc109 => ?_) (fun hc109 => ?_)
                                    · refine z_tsIn dX12_count_33 (cst := 16) hc109 (by decide) (by decide) rfl (tgt := 186) rfl ?_
                                      refine z_iload_n dX12_count_186 1 rfl ?_
                                      refine z_i2l dX12_count_187 hx1 (fun h110 => ?_)
                                      refine z_ldc2 dX12_count_188 (x := 20) k_1661 ?_
                                      refine z_ldc2 dX12_count_191 (x := 22) k_1662 ?_
                                      refine z_callS4 dX12_count_194 rfl (ct_X12_in n x1 20 22 m h110 (by decide) (by decide)) k_1220 k_1221 k_10 k_1222 zn_X12_in ⟨rfl, rfl, Nat.le_of_ble_eq_true rfl, Nat.le_of_ble_eq_true rfl⟩ (Nat.le_of_ble_eq_true rfl) rfl (fun v111 m112 h113 ho114 => ?_)
                                      refine z_if_eq dX12_count_197 (zb01 h113) (tgt := 212) rfl (fun h115 => ?_) (fun h115 => ?_)
                                      · refine z_iload_n dX12_count_212 1 rfl ?_
                                        refine z_i2l dX12_count_213 hx1 (fun h116 => ?_)
                                        refine z_ldc2 dX12_count_214 (x := 11) k_1663 ?_
                                        refine z_ldc2 dX12_count_217 (x := 16) k_1664 ?_
                                        refine z_callS4 dX12_count_220 rfl (ct_X12_in n x1 11 16 m112 h116 (by decide) (by decide)) k_1220 k_1221 k_10 k_1222 zn_X12_in ⟨rfl, rfl, Nat.le_of_ble_eq_true rfl, Nat.le_of_ble_eq_true rfl⟩ (Nat.le_of_ble_eq_true rfl) rfl (fun v117 m118 h119 ho120 => ?_)
                                        refine z_if_eq dX12_count_223 (zb01 h119) (tgt := 238) rfl (fun h121 => ?_) (fun h121 => ?_)
                                        · refine z_bipush dX12_count_238 (x := (-9)) (by decide +kernel) ?_
                                          exact z_iret dX12_count_240 rfl rfl (by decide)
                                        · refine z_aload_n dX12_count_226 0 rfl ?_
                                          refine z_getR dX12_count_227 (k := 17) (j := 10) zc_X12 lm_0 rfl (by decide) k_1055 ?_
                                          refine z_iload_n dX12_count_230 1 rfl ?_
                                          refine z_bipush dX12_count_231 (x := 10) (by decide +kernel) ?_
                                          refine z_isub dX12_count_233 (fun h122 => ?_)
                                          refine z_iaload dX12_count_234 h122 (fun h123 => ?_)
                                          refine z_goto dX12_count_235 (tgt := 240) rfl ?_
                                          exact z_iret dX12_count_240 rfl rfl h123
                                      · refine z_aload_n dX12_count_200 0 rfl ?_
                                        refine z_getR dX12_count_201 (k := 15) (j := 9) zc_X12 lm_0 rfl (by decide) k_1053 ?_
                                        refine z_iload_n dX12_count_204 1 rfl ?_
                                        refine z_bipush dX12_count_205 (x := 20) (by decide +kernel) ?_
                                        refine z_isub dX12_count_207 (fun h124 => ?_)
                                        refine z_iaload dX12_count_208 h124 (fun h125 => ?_)
                                        refine z_goto dX12_count_209 (tgt := 240) rfl ?_
                                        exact z_iret dX12_count_240 rfl rfl h125
                                    · refine z_case (fun hc126 => ?_) (fun hc126 => ?_)
                                      · refine z_tsIn dX12_count_33 (cst := 17) hc126 (by decide) (by decide) rfl (tgt := 176) rfl ?_
                                        refine z_aload_n dX12_count_176 0 rfl ?_
                                        refine z_getI dX12_count_177 (k := 33) zc_X12 lm_0 rfl (by decide) k_1071 (fun h127 => ?_)
                                        exact z_iret dX12_count_180 rfl rfl h127
                                      · refine z_case (fun hc128 => ?_) (fun hc128 => ?_)
                                        · refine z_tsIn dX12_count_33 (cst := 18) hc128 (by decide) (by decide) rfl (tgt := 181) rfl ?_
                                          refine z_aload_n dX12_count_181 0 rfl ?_
                                          refine z_getI dX12_count_182 (k := 47) zc_X12 lm_0 rfl (by decide) k_1085 (fun h129 => ?_)
                                          exact z_iret dX12_count_185 rfl rfl h129
                                        · refine z_tsOut dX12_count_33 hx1 (by omega) (tgt := 186) rfl ?_
                                          refine z_iload_n dX12_count_186 1 rfl ?_
                                          refine z_i2l dX12_count_187 hx1 (fun h130 => ?_)
                                          refine z_ldc2 dX12_count_188 (x := 20) k_1661 ?_
                                          refine z_ldc2 dX12_count_191 (x := 22) k_1662 ?_
                                          refine z_callS4 dX12_count_194 rfl (ct_X12_in n x1 20 22 m h130 (by decide) (by decide)) k_1220 k_1221 k_10 k_1222 zn_X12_in ⟨rfl, rfl, Nat.le_of_ble_eq_true rfl, Nat.le_of_ble_eq_true rfl⟩ (Nat.le_of_ble_eq_true rfl) rfl (fun v131 m132 h133 ho134 => ?_)
                                          refine z_if_eq dX12_count_197 (zb01 h133) (tgt := 212) rfl (fun h135 => ?_) (fun h135 => ?_)
                                          · refine z_iload_n dX12_count_212 1 rfl ?_
                                            refine z_i2l dX12_count_213 hx1 (fun h136 => ?_)
                                            refine z_ldc2 dX12_count_214 (x := 11) k_1663 ?_
                                            refine z_ldc2 dX12_count_217 (x := 16) k_1664 ?_
                                            refine z_callS4 dX12_count_220 rfl (ct_X12_in n x1 11 16 m132 h136 (by decide) (by decide)) k_1220 k_1221 k_10 k_1222 zn_X12_in ⟨rfl, rfl, Nat.le_of_ble_eq_true rfl, Nat.le_of_ble_eq_true rfl⟩ (Nat.le_of_ble_eq_true rfl) rfl (fun v137 m138 h139 ho140 => ?_)
                                            refine z_if_eq dX12_count_223 (zb01 h139) (tgt := 238) rfl (fun h141 => ?_) (fun h141 => ?_)
                                            · refine z_bipush dX12_count_238 (x := (-9)) (by decide +kernel) ?_
                                              exact z_iret dX12_count_240 rfl rfl (by decide)
                                            · refine z_aload_n dX12_count_226 0 rfl ?_
                                              refine z_getR dX12_count_227 (k := 17) (j := 10) zc_X12 lm_0 rfl (by decide) k_1055 ?_
                                              refine z_iload_n dX12_count_230 1 rfl ?_
                                              refine z_bipush dX12_count_231 (x := 10) (by decide +kernel) ?_
                                              refine z_isub dX12_count_233 (fun h142 => ?_)
                                              refine z_iaload dX12_count_234 h142 (fun h143 => ?_)
                                              refine z_goto dX12_count_235 (tgt := 240) rfl ?_
                                              exact z_iret dX12_count_240 rfl rfl h143
                                          · refine z_aload_n dX12_count_200 0 rfl ?_
                                            refine z_getR dX12_count_201 (k := 15) (j := 9) zc_X12 lm_0 rfl (by decide) k_1053 ?_
                                            refine z_iload_n dX12_count_204 1 rfl ?_
                                            refine z_bipush dX12_count_205 (x := 20) (by decide +kernel) ?_
                                            refine z_isub dX12_count_207 (fun h144 => ?_)
                                            refine z_iaload dX12_count_208 h144 (fun h145 => ?_)
                                            refine z_goto dX12_count_209 (tgt := 240) rfl ?_
                                            exact z_iret dX12_count_240 rfl rfl h145
  · refine z_iload_n dX12_count_17 2 rfl ?_
    refine z_aload_n dX12_count_18 0 rfl ?_
    refine z_getR dX12_count_19 (k := 11) (j := 5) zc_X12 lm_0 rfl (by decide) k_1049 ?_
    refine z_iload_n dX12_count_22 3 rfl ?_
    refine z_iaload dX12_count_23 hx3 (fun h146 => ?_)
    refine z_iadd dX12_count_24 (fun h147 => ?_)
    refine z_istore_n dX12_count_25 (lv' := [(2, .int (mI (x2 + (m 5 (x3 : Int).toNat)))), (0, .ref (ad 0)), (1, .int (mI x1)), (3, .int (mI x3))]) (by decide) rfl ?_
    refine z_iinc dX12_count_26 (lv' := [(3, .int (mI (x3 + 1))), (2, .int (mI (x2 + (m 5 (x3 : Int).toNat)))), (0, .ref (ad 0)), (1, .int (mI x1))]) 3 rfl (by decide) rfl (fun h148 => ?_)
    refine z_goto dX12_count_29 (tgt := 9) rfl ?_
    exact zG_lvk (hr9 x1 (x2 + (m 5 (x3 : Int).toNat)) (x3 + 1) m hx1 h147 h148) [2, 3, 1, 0] rfl
theorem TL_X12_count_9 {ad sc sv : Nat → Nat} (n : Nat) : ∀ q : Nat, ∀ (x1 : Int) (x2 : Int) (x3 : Int) (m : ZMem), R32 x1 → R32 x2 → R32 x3 → zG LM ad sc sv M_X12_count 9 [(0, .ref (ad 0)), (1, .int (mI x1)), (2, .int (mI x2)), (3, .int (mI x3))] [] m (L_X12_count_9 n q x1 x2 x3 m) := by
  intro q
  induction q with
  | zero => intros; exact zG_none
  | succ q ih => exact T_X12_count_9 n (L_X12_count_9 n q) ih
set_option maxRecDepth 20000 in
theorem ct_X12_count {ad sc sv : Nat → Nat} (n : Nat) (a0 : Int) (m : ZMem) (ha0 : R32 a0) : zCT LM ad sc sv M_X12_count yX12_count [.ref (ad 0), .int (mI a0)] m (F_X12_count n a0 m) := by
  refine zCT_of (lv := [(0, .ref (ad 0)), (1, .int (mI a0))]) (by decide) rfl (Nat.le_of_ble_eq_true rfl) rfl ?_
  unfold F_X12_count
  refine z_aload_n dX12_count_0 0 rfl ?_
  refine z_iconst dX12_count_1 ?_
  refine z_putI dX12_count_2 (k := 16) zc_X12 lm_0 rfl (by decide) rfl rfl (by decide) k_1054 ?_
  refine z_iconst dX12_count_5 ?_
  refine z_istore_n dX12_count_6 (lv' := [(2, .int (mI 0)), (0, .ref (ad 0)), (1, .int (mI a0))]) (by decide) rfl ?_
  refine z_iconst dX12_count_7 ?_
  refine z_istore_n dX12_count_8 (lv' := [(3, .int (mI 0)), (2, .int (mI 0)), (0, .ref (ad 0)), (1, .int (mI a0))]) (by decide) rfl ?_
  exact zG_lvk (TL_X12_count_9 n n a0 0 0 (wr m 0 16 0) ha0 (by decide) (by decide)) [2, 3, 1, 0] rfl
