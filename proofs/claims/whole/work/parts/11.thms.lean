set_option maxRecDepth 20000 in
theorem T_X3_allOff_4 {ad sc sv : Nat → Nat} (n : Nat) (r4 : Int → Int → Int → ZMem → ZR) (hr4 : ∀ (x1 : Int) (x2 : Int) (x3 : Int) (m : ZMem), R32 x1 → R32 x2 → R32 x3 → zG LX ad sc sv M_X3_allOff 4 [(0, .ref (ad 1)), (1, .int (mI x1)), (2, .int (mI x2)), (3, .int (mI x3))] [] m (r4 x1 x2 x3 m)) : ∀ (x1 : Int) (x2 : Int) (x3 : Int) (m : ZMem), R32 x1 → R32 x2 → R32 x3 → zG LX ad sc sv M_X3_allOff 4 [(0, .ref (ad 1)), (1, .int (mI x1)), (2, .int (mI x2)), (3, .int (mI x3))] [] m (B_X3_allOff_4 n r4 x1 x2 x3 m) := by
  intro x1 x2 x3 m hx1 hx2 hx3
  unfold B_X3_allOff_4
  refine z_iload_n dX3_allOff_4 3 rfl ?_
  refine z_aload_n dX3_allOff_5 0 rfl ?_
  refine z_getR dX3_allOff_6 (k := 4) (j := 2) zc_X3 lx_1 rfl (by decide) k_80 ?_
  refine z_callV1 dX3_allOff_9 rfl (ct_X9_size n 2 zt_2 m) zc_X9 lx_2 k_532 k_276 k_277 k_3 k_278 zn_X9_size ⟨rfl, rfl, Nat.le_of_ble_eq_true rfl, Nat.le_of_ble_eq_true rfl⟩ (Nat.le_of_ble_eq_true rfl) rfl (fun v1 m2 h3 ho4 => ?_)
  refine z_icmp_ge dX3_allOff_12 hx3 h3 (tgt := 34) rfl (fun h5 => ?_) (fun h5 => ?_)
  · refine z_iload_n dX3_allOff_34 2 rfl ?_
    exact z_iret dX3_allOff_35 rfl rfl hx2
  · refine z_iload_n dX3_allOff_15 2 rfl ?_
    refine z_aload_n dX3_allOff_16 0 rfl ?_
    refine z_iload_n dX3_allOff_17 3 rfl ?_
    refine z_iload_n dX3_allOff_18 1 rfl ?_
    refine z_aload_n dX3_allOff_19 0 rfl ?_
    refine z_getI dX3_allOff_20 (k := 0) zc_X3 lx_1 rfl (by decide) k_64 (fun h6 => ?_)
    refine z_callV1 dX3_allOff_23 rfl (ct_X3_offAtCost n x3 x1 (m2 1 0) m2 hx3 hx1 h6) zc_X3 lx_1 k_533 k_534 k_535 k_2 k_536 zn_X3_offAtCost ⟨rfl, rfl, Nat.le_of_ble_eq_true rfl, Nat.le_of_ble_eq_true rfl⟩ (Nat.le_of_ble_eq_true rfl) rfl (fun v7 m8 h9 ho10 => ?_)
    refine z_iadd dX3_allOff_26 (fun h11 => ?_)
    refine z_istore_n dX3_allOff_27 (lv' := [(2, .int (mI (x2 + v7))), (0, .ref (ad 1)), (1, .int (mI x1)), (3, .int (mI x3))]) (by decide) rfl ?_
    refine z_iinc dX3_allOff_28 (lv' := [(3, .int (mI (x3 + 1))), (2, .int (mI (x2 + v7))), (0, .ref (ad 1)), (1, .int (mI x1))]) 3 rfl (by decide) rfl (fun h12 => ?_)
    refine z_goto dX3_allOff_31 (tgt := 4) rfl ?_
    exact zG_lvk (hr4 x1 (x2 + v7) (x3 + 1) m8 hx1 h11 h12) [2, 3, 1, 0] rfl
theorem TL_X3_allOff_4 {ad sc sv : Nat → Nat} (n : Nat) : ∀ q : Nat, ∀ (x1 : Int) (x2 : Int) (x3 : Int) (m : ZMem), R32 x1 → R32 x2 → R32 x3 → zG LX ad sc sv M_X3_allOff 4 [(0, .ref (ad 1)), (1, .int (mI x1)), (2, .int (mI x2)), (3, .int (mI x3))] [] m (L_X3_allOff_4 n q x1 x2 x3 m) := by
  intro q
  induction q with
  | zero => intros; exact zG_none
  | succ q ih => exact T_X3_allOff_4 n (L_X3_allOff_4 n q) ih
set_option maxRecDepth 20000 in
theorem ct_X3_allOff {ad sc sv : Nat → Nat} (n : Nat) (a0 : Int) (m : ZMem) (ha0 : R32 a0) : zCT LX ad sc sv M_X3_allOff yX3_allOff [.ref (ad 1), .int (mI a0)] m (F_X3_allOff n a0 m) := by
  refine zCT_of (lv := [(0, .ref (ad 1)), (1, .int (mI a0))]) (by decide) rfl (Nat.le_of_ble_eq_true rfl) rfl ?_
  unfold F_X3_allOff
  refine z_iconst dX3_allOff_0 ?_
  refine z_istore_n dX3_allOff_1 (lv' := [(2, .int (mI 0)), (0, .ref (ad 1)), (1, .int (mI a0))]) (by decide) rfl ?_
  refine z_iconst dX3_allOff_2 ?_
  refine z_istore_n dX3_allOff_3 (lv' := [(3, .int (mI 0)), (2, .int (mI 0)), (0, .ref (ad 1)), (1, .int (mI a0))]) (by decide) rfl ?_
  exact zG_lvk (TL_X3_allOff_4 n n a0 0 0 m ha0 (by decide) (by decide)) [2, 3, 1, 0] rfl
set_option maxRecDepth 20000 in
theorem T_X3_greatestOff_5 {ad sc sv : Nat → Nat} (n : Nat) (r5 : Int → Int → Int → Int → ZMem → ZR) (hr5 : ∀ (x1 : Int) (x2 : Int) (x3 : Int) (x4 : Int) (m : ZMem), R32 x1 → R32 x2 → R32 x3 → R32 x4 → zG LX ad sc sv M_X3_greatestOff 5 [(0, .ref (ad 1)), (1, .int (mI x1)), (2, .int (mI x2)), (3, .int (mI x3)), (4, .int (mI x4))] [] m (r5 x1 x2 x3 x4 m)) : ∀ (x1 : Int) (x2 : Int) (x3 : Int) (x4 : Int) (m : ZMem), R32 x1 → R32 x2 → R32 x3 → R32 x4 → zG LX ad sc sv M_X3_greatestOff 5 [(0, .ref (ad 1)), (1, .int (mI x1)), (2, .int (mI x2)), (3, .int (mI x3)), (4, .int (mI x4))] [] m (B_X3_greatestOff_5 n r5 x1 x2 x3 x4 m) := by
  intro x1 x2 x3 x4 m hx1 hx2 hx3 hx4
  unfold B_X3_greatestOff_5
  refine z_iload dX3_greatestOff_5 4 rfl ?_
  refine z_aload_n dX3_greatestOff_7 0 rfl ?_
  refine z_getR dX3_greatestOff_8 (k := 4) (j := 2) zc_X3 lx_1 rfl (by decide) k_80 ?_
  refine z_callV1 dX3_greatestOff_11 rfl (ct_X9_size n 2 zt_2 m) zc_X9 lx_2 k_532 k_276 k_277 k_3 k_278 zn_X9_size ⟨rfl, rfl, Nat.le_of_ble_eq_true rfl, Nat.le_of_ble_eq_true rfl⟩ (Nat.le_of_ble_eq_true rfl) rfl (fun v1 m2 h3 ho4 => ?_)
  refine z_icmp_ge dX3_greatestOff_14 hx4 h3 (tgt := 36) rfl (fun h5 => ?_) (fun h5 => ?_)
  · refine z_iload_n dX3_greatestOff_36 3 rfl ?_
    exact z_iret dX3_greatestOff_37 rfl rfl hx3
  · refine z_iload_n dX3_greatestOff_17 3 rfl ?_
    refine z_aload_n dX3_greatestOff_18 0 rfl ?_
    refine z_iload dX3_greatestOff_19 4 rfl ?_
    refine z_iload_n dX3_greatestOff_21 1 rfl ?_
    refine z_iload_n dX3_greatestOff_22 2 rfl ?_
    refine z_callV1 dX3_greatestOff_23 rfl (ct_X3_offAtCost n x4 x1 x2 m2 hx4 hx1 hx2) zc_X3 lx_1 k_533 k_534 k_535 k_2 k_536 zn_X3_offAtCost ⟨rfl, rfl, Nat.le_of_ble_eq_true rfl, Nat.le_of_ble_eq_true rfl⟩ (Nat.le_of_ble_eq_true rfl) rfl (fun v6 m7 h8 ho9 => ?_)
    refine z_mmax dX3_greatestOff_26 hx3 h8 k_461 k_41 k_4 k_42 (Nat.le_of_ble_eq_true rfl) (Nat.le_of_ble_eq_true rfl) (fun h10 => ?_)
    refine z_istore_n dX3_greatestOff_29 (lv' := [(3, .int (mI (max x3 v6))), (0, .ref (ad 1)), (1, .int (mI x1)), (2, .int (mI x2)), (4, .int (mI x4))]) (by decide) rfl ?_
    refine z_iinc dX3_greatestOff_30 (lv' := [(4, .int (mI (x4 + 1))), (3, .int (mI (max x3 v6))), (0, .ref (ad 1)), (1, .int (mI x1)), (2, .int (mI x2))]) 4 rfl (by decide) rfl (fun h11 => ?_)
    refine z_goto dX3_greatestOff_33 (tgt := 5) rfl ?_
    exact zG_lvk (hr5 x1 x2 (max x3 v6) (x4 + 1) m7 hx1 hx2 h10 h11) [2, 3, 4, 1, 0] rfl
theorem TL_X3_greatestOff_5 {ad sc sv : Nat → Nat} (n : Nat) : ∀ q : Nat, ∀ (x1 : Int) (x2 : Int) (x3 : Int) (x4 : Int) (m : ZMem), R32 x1 → R32 x2 → R32 x3 → R32 x4 → zG LX ad sc sv M_X3_greatestOff 5 [(0, .ref (ad 1)), (1, .int (mI x1)), (2, .int (mI x2)), (3, .int (mI x3)), (4, .int (mI x4))] [] m (L_X3_greatestOff_5 n q x1 x2 x3 x4 m) := by
  intro q
  induction q with
  | zero => intros; exact zG_none
  | succ q ih => exact T_X3_greatestOff_5 n (L_X3_greatestOff_5 n q) ih
set_option maxRecDepth 20000 in
theorem ct_X3_greatestOff {ad sc sv : Nat → Nat} (n : Nat) (a0 : Int) (a1 : Int) (m : ZMem) (ha0 : R32 a0) (ha1 : R32 a1) : zCT LX ad sc sv M_X3_greatestOff yX3_greatestOff [.ref (ad 1), .int (mI a0), .int (mI a1)] m (F_X3_greatestOff n a0 a1 m) := by
  refine zCT_of (lv := [(0, .ref (ad 1)), (1, .int (mI a0)), (2, .int (mI a1))]) (by decide) rfl (Nat.le_of_ble_eq_true rfl) rfl ?_
  unfold F_X3_greatestOff
  refine z_iconst dX3_greatestOff_0 ?_
  refine z_istore_n dX3_greatestOff_1 (lv' := [(3, .int (mI 0)), (0, .ref (ad 1)), (1, .int (mI a0)), (2, .int (mI a1))]) (by decide) rfl ?_
  refine z_iconst dX3_greatestOff_2 ?_
  refine z_istore dX3_greatestOff_3 (lv' := [(4, .int (mI 0)), (3, .int (mI 0)), (0, .ref (ad 1)), (1, .int (mI a0)), (2, .int (mI a1))]) (by decide) rfl ?_
  exact zG_lvk (TL_X3_greatestOff_5 n n a0 a1 0 0 m ha0 ha1 (by decide) (by decide)) [2, 3, 4, 1, 0] rfl
set_option maxRecDepth 20000 in
theorem T_X3_feeds_2 {ad sc sv : Nat → Nat} (n : Nat) (r2 : Int → Int → ZMem → ZR) (hr2 : ∀ (x1 : Int) (x2 : Int) (m : ZMem), R32 x1 → R32 x2 → zG LX ad sc sv M_X3_feeds 2 [(0, .ref (ad 1)), (1, .int (mI x1)), (2, .int (mI x2))] [] m (r2 x1 x2 m)) : ∀ (x1 : Int) (x2 : Int) (m : ZMem), R32 x1 → R32 x2 → zG LX ad sc sv M_X3_feeds 2 [(0, .ref (ad 1)), (1, .int (mI x1)), (2, .int (mI x2))] [] m (B_X3_feeds_2 n r2 x1 x2 m) := by
  intro x1 x2 m hx1 hx2
  unfold B_X3_feeds_2
  refine z_iload_n dX3_feeds_2 2 rfl ?_
  refine z_aload_n dX3_feeds_3 0 rfl ?_
  refine z_getR dX3_feeds_4 (k := 4) (j := 2) zc_X3 lx_1 rfl (by decide) k_80 ?_
  refine z_callV1 dX3_feeds_7 rfl (ct_X9_size n 2 zt_2 m) zc_X9 lx_2 k_532 k_276 k_277 k_3 k_278 zn_X9_size ⟨rfl, rfl, Nat.le_of_ble_eq_true rfl, Nat.le_of_ble_eq_true rfl⟩ (Nat.le_of_ble_eq_true rfl) rfl (fun v1 m2 h3 ho4 => ?_)
  refine z_icmp_ge dX3_feeds_10 hx2 h3 (tgt := 42) rfl (fun h5 => ?_) (fun h5 => ?_)
  · refine z_iconst dX3_feeds_42 ?_
    exact z_zret dX3_feeds_43 rfl rfl (by decide)
  · refine z_bipush dX3_feeds_13 (x := 12) (by decide +kernel) ?_
    refine z_aload_n dX3_feeds_15 0 rfl ?_
    refine z_getR dX3_feeds_16 (k := 4) (j := 2) zc_X3 lx_1 rfl (by decide) k_80 ?_
    refine z_iload_n dX3_feeds_19 2 rfl ?_
    refine z_iconst dX3_feeds_20 ?_
    refine z_callV1 dX3_feeds_21 rfl (ct_X9_at n 2 zt_2 x2 4 m2 hx2 (by decide)) zc_X9 lx_2 k_457 k_264 k_265 k_3 k_266 zn_X9_at ⟨rfl, rfl, Nat.le_of_ble_eq_true rfl, Nat.le_of_ble_eq_true rfl⟩ (Nat.le_of_ble_eq_true rfl) rfl (fun v6 m7 h8 ho9 => ?_)
    refine z_imul dX3_feeds_24 (fun h10 => ?_)
    refine z_aload_n dX3_feeds_25 0 rfl ?_
    refine z_iload_n dX3_feeds_26 2 rfl ?_
    refine z_iload_n dX3_feeds_27 1 rfl ?_
    refine z_callV1 dX3_feeds_28 rfl (ct_X3_takenFor n x2 x1 m7 hx2 hx1) zc_X3 lx_1 k_619 k_620 k_621 k_2 k_622 zn_X3_takenFor ⟨rfl, rfl, Nat.le_of_ble_eq_true rfl, Nat.le_of_ble_eq_true rfl⟩ (Nat.le_of_ble_eq_true rfl) rfl (fun v11 m12 h13 ho14 => ?_)
    refine z_icmp_ge dX3_feeds_31 h10 h13 (tgt := 36) rfl (fun h15 => ?_) (fun h15 => ?_)
    · refine z_iinc dX3_feeds_36 (lv' := [(2, .int (mI (x2 + 1))), (0, .ref (ad 1)), (1, .int (mI x1))]) 2 rfl (by decide) rfl (fun h16 => ?_)
      refine z_goto dX3_feeds_39 (tgt := 2) rfl ?_
      exact zG_lvk (hr2 x1 (x2 + 1) m12 hx1 h16) [1, 2, 0] rfl
    · refine z_iconst dX3_feeds_34 ?_
      exact z_zret dX3_feeds_35 rfl rfl (by decide)
theorem TL_X3_feeds_2 {ad sc sv : Nat → Nat} (n : Nat) : ∀ q : Nat, ∀ (x1 : Int) (x2 : Int) (m : ZMem), R32 x1 → R32 x2 → zG LX ad sc sv M_X3_feeds 2 [(0, .ref (ad 1)), (1, .int (mI x1)), (2, .int (mI x2))] [] m (L_X3_feeds_2 n q x1 x2 m) := by
  intro q
  induction q with
  | zero => intros; exact zG_none
  | succ q ih => exact T_X3_feeds_2 n (L_X3_feeds_2 n q) ih
set_option maxRecDepth 20000 in
theorem ct_X3_feeds {ad sc sv : Nat → Nat} (n : Nat) (a0 : Int) (m : ZMem) (ha0 : R32 a0) : zCT LX ad sc sv M_X3_feeds yX3_feeds [.ref (ad 1), .int (mI a0)] m (F_X3_feeds n a0 m) := by
  refine zCT_of (lv := [(0, .ref (ad 1)), (1, .int (mI a0))]) (by decide) rfl (Nat.le_of_ble_eq_true rfl) rfl ?_
  unfold F_X3_feeds
  refine z_iconst dX3_feeds_0 ?_
  refine z_istore_n dX3_feeds_1 (lv' := [(2, .int (mI 0)), (0, .ref (ad 1)), (1, .int (mI a0))]) (by decide) rfl ?_
  exact zG_lvk (TL_X3_feeds_2 n n a0 0 m ha0 (by decide)) [1, 2, 0] rfl
set_option maxRecDepth 20000 in
theorem ct_X3_left {ad sc sv : Nat → Nat} (n : Nat) (a0 : Int) (m : ZMem) (ha0 : R32 a0) : zCT LX ad sc sv M_X3_left yX3_left [.ref (ad 1), .int (mI a0)] m (F_X3_left n a0 m) := by
  refine zCT_of (lv := [(0, .ref (ad 1)), (1, .int (mI a0))]) (by decide) rfl (Nat.le_of_ble_eq_true rfl) rfl ?_
  unfold F_X3_left
  refine z_bipush dX3_left_0 (x := 12) (by decide +kernel) ?_
  refine z_aload_n dX3_left_2 0 rfl ?_
  refine z_iload_n dX3_left_3 1 rfl ?_
  refine z_callV1 dX3_left_4 rfl (ct_X3_takenNow n a0 m ha0) zc_X3 lx_1 k_472 k_450 k_451 k_2 k_452 zn_X3_takenNow ⟨rfl, rfl, Nat.le_of_ble_eq_true rfl, Nat.le_of_ble_eq_true rfl⟩ (Nat.le_of_ble_eq_true rfl) rfl (fun v1 m2 h3 ho4 => ?_)
  refine z_bipush dX3_left_7 (x := 12) (by decide +kernel) ?_
  refine z_callS1 dX3_left_9 rfl (ct_X8_roundedUp n v1 12 m2 h3 (by decide)) k_462 k_463 k_15 k_464 zn_X8_roundedUp ⟨rfl, rfl, Nat.le_of_ble_eq_true rfl, Nat.le_of_ble_eq_true rfl⟩ (Nat.le_of_ble_eq_true rfl) rfl (fun v5 m6 h7 ho8 => ?_)
  refine z_imul dX3_left_12 (fun h9 => ?_)
  refine z_istore_n dX3_left_13 (lv' := [(2, .int (mI (12 * v5))), (0, .ref (ad 1)), (1, .int (mI a0))]) (by decide) rfl ?_
  refine z_bipush dX3_left_14 (x := 12) (by decide +kernel) ?_
  refine z_aload_n dX3_left_16 1 rfl ?_
  refine z_getR dX3_left_17 (k := 4) (j := 2) zc_X3 lx_1 rfl (by decide) k_80 ?_
  refine z_iload_n dX3_left_20 2 rfl ?_
  refine z_iconst dX3_left_21 ?_
  refine z_callV1 dX3_left_22 rfl (ct_X9_at n 2 zt_2 a0 3 m6 ha0 (by decide)) zc_X9 lx_2 k_457 k_264 k_265 k_3 k_266 zn_X9_at ⟨rfl, rfl, Nat.le_of_ble_eq_true rfl, Nat.le_of_ble_eq_true rfl⟩ (Nat.le_of_ble_eq_true rfl) rfl (fun v10 m11 h12 ho13 => ?_)
  refine z_imul dX3_left_25 (fun h14 => ?_)
  refine z_aload_n dX3_left_26 1 rfl ?_
  refine z_getI dX3_left_27 (k := 1) zc_X3 lx_1 rfl (by decide) k_70 (fun h15 => ?_)
  refine z_imul dX3_left_30 (fun h16 => ?_)
  refine z_aload_n dX3_left_31 1 rfl ?_
  refine z_getI dX3_left_32 (k := 0) zc_X3 lx_1 rfl (by decide) k_64 (fun h17 => ?_)
  refine z_callS1 dX3_left_35 rfl (ct_X8_roundedUp n ((12 * v10) * (m11 1 1)) (m11 1 0) m11 h16 h17) k_462 k_463 k_15 k_464 zn_X8_roundedUp ⟨rfl, rfl, Nat.le_of_ble_eq_true rfl, Nat.le_of_ble_eq_true rfl⟩ (Nat.le_of_ble_eq_true rfl) rfl (fun v18 m19 h20 ho21 => ?_)
  refine z_istore_n dX3_left_38 (lv' := [(3, .int (mI v18)), (2, .int (mI (12 * v5))), (0, .ref (ad 1)), (1, .int (mI a0))]) (by decide) rfl ?_
  refine z_iload_n dX3_left_39 1 rfl ?_
  refine z_iload_n dX3_left_40 0 rfl ?_
  refine z_isub dX3_left_41 (fun h22 => ?_)
  refine z_iconst dX3_left_42 ?_
  refine z_mmax dX3_left_43 h22 (by decide) k_461 k_41 k_4 k_42 (Nat.le_of_ble_eq_true rfl) (Nat.le_of_ble_eq_true rfl) (fun h23 => ?_)
  exact z_iret dX3_left_46 rfl rfl h23
set_option maxRecDepth 20000 in
theorem T_X4_allDone_4 {ad sc sv : Nat → Nat} (n : Nat) (r4 : Int → Int → ZMem → ZR) (hr4 : ∀ (x1 : Int) (x2 : Int) (m : ZMem), R32 x1 → R32 x2 → zG LX ad sc sv M_X4_allDone 4 [(0, .ref (ad 62)), (1, .int (mI x1)), (2, .int (mI x2))] [] m (r4 x1 x2 m)) : ∀ (x1 : Int) (x2 : Int) (m : ZMem), R32 x1 → R32 x2 → zG LX ad sc sv M_X4_allDone 4 [(0, .ref (ad 62)), (1, .int (mI x1)), (2, .int (mI x2))] [] m (B_X4_allDone_4 n r4 x1 x2 m) := by
  intro x1 x2 m hx1 hx2
  unfold B_X4_allDone_4
  refine z_iload_n dX4_allDone_4 2 rfl ?_
  refine z_aload_n dX4_allDone_5 0 rfl ?_
  refine z_getR dX4_allDone_6 (k := 0) (j := 63) zc_X4 lx_62 rfl (by decide) k_190 ?_
  refine z_callV1 dX4_allDone_9 rfl (ct_X9_size n 63 zt_63 m) zc_X9 lx_63 k_905 k_276 k_277 k_3 k_278 zn_X9_size ⟨rfl, rfl, Nat.le_of_ble_eq_true rfl, Nat.le_of_ble_eq_true rfl⟩ (Nat.le_of_ble_eq_true rfl) rfl (fun v1 m2 h3 ho4 => ?_)
  refine z_icmp_ge dX4_allDone_12 hx2 h3 (tgt := 35) rfl (fun h5 => ?_) (fun h5 => ?_)
  · refine z_iload_n dX4_allDone_35 1 rfl ?_
    exact z_iret dX4_allDone_36 rfl rfl hx1
  · refine z_iload_n dX4_allDone_15 1 rfl ?_
    refine z_aload_n dX4_allDone_16 0 rfl ?_
    refine z_getR dX4_allDone_17 (k := 0) (j := 63) zc_X4 lx_62 rfl (by decide) k_190 ?_
    refine z_iload_n dX4_allDone_20 2 rfl ?_
    refine z_iconst dX4_allDone_21 ?_
    refine z_callV1 dX4_allDone_22 rfl (ct_X9_at n 63 zt_63 x2 0 m2 hx2 (by decide)) zc_X9 lx_63 k_910 k_264 k_265 k_3 k_266 zn_X9_at ⟨rfl, rfl, Nat.le_of_ble_eq_true rfl, Nat.le_of_ble_eq_true rfl⟩ (Nat.le_of_ble_eq_true rfl) rfl (fun v6 m7 h8 ho9 => ?_)
    refine z_mmax dX4_allDone_25 hx1 h8 k_920 k_41 k_4 k_42 (Nat.le_of_ble_eq_true rfl) (Nat.le_of_ble_eq_true rfl) (fun h10 => ?_)
    refine z_istore_n dX4_allDone_28 (lv' := [(1, .int (mI (max x1 v6))), (0, .ref (ad 62)), (2, .int (mI x2))]) (by decide) rfl ?_
    refine z_iinc dX4_allDone_29 (lv' := [(2, .int (mI (x2 + 1))), (1, .int (mI (max x1 v6))), (0, .ref (ad 62))]) 2 rfl (by decide) rfl (fun h11 => ?_)
    refine z_goto dX4_allDone_32 (tgt := 4) rfl ?_
    exact zG_lvk (hr4 (max x1 v6) (x2 + 1) m7 h10 h11) [2, 1, 0] rfl
theorem TL_X4_allDone_4 {ad sc sv : Nat → Nat} (n : Nat) : ∀ q : Nat, ∀ (x1 : Int) (x2 : Int) (m : ZMem), R32 x1 → R32 x2 → zG LX ad sc sv M_X4_allDone 4 [(0, .ref (ad 62)), (1, .int (mI x1)), (2, .int (mI x2))] [] m (L_X4_allDone_4 n q x1 x2 m) := by
  intro q
  induction q with
  | zero => intros; exact zG_none
  | succ q ih => exact T_X4_allDone_4 n (L_X4_allDone_4 n q) ih
set_option maxRecDepth 20000 in
theorem ct_X4_allDone {ad sc sv : Nat → Nat} (n : Nat) (m : ZMem) : zCT LX ad sc sv M_X4_allDone yX4_allDone [.ref (ad 62)] m (F_X4_allDone n m) := by
  refine zCT_of (lv := [(0, .ref (ad 62))]) (by decide) rfl (Nat.le_of_ble_eq_true rfl) rfl ?_
  unfold F_X4_allDone
  refine z_iconst dX4_allDone_0 ?_
  refine z_istore_n dX4_allDone_1 (lv' := [(1, .int (mI 0)), (0, .ref (ad 62))]) (by decide) rfl ?_
  refine z_iconst dX4_allDone_2 ?_
  refine z_istore_n dX4_allDone_3 (lv' := [(2, .int (mI 0)), (1, .int (mI 0)), (0, .ref (ad 62))]) (by decide) rfl ?_
  exact zG_lvk (TL_X4_allDone_4 n n 0 0 m (by decide) (by decide)) [2, 1, 0] rfl
set_option maxRecDepth 20000 in
theorem T_X4_freeFirst_4 {ad sc sv : Nat → Nat} (n : Nat) (r4 : Int → Int → ZMem → ZR) (hr4 : ∀ (x1 : Int) (x2 : Int) (m : ZMem), R32 x1 → R32 x2 → zG LX ad sc sv M_X4_freeFirst 4 [(0, .ref (ad 62)), (1, .int (mI x1)), (2, .int (mI x2))] [] m (r4 x1 x2 m)) : ∀ (x1 : Int) (x2 : Int) (m : ZMem), R32 x1 → R32 x2 → zG LX ad sc sv M_X4_freeFirst 4 [(0, .ref (ad 62)), (1, .int (mI x1)), (2, .int (mI x2))] [] m (B_X4_freeFirst_4 n r4 x1 x2 m) := by
  intro x1 x2 m hx1 hx2
  unfold B_X4_freeFirst_4
  refine z_iload_n dX4_freeFirst_4 2 rfl ?_
  refine z_aload_n dX4_freeFirst_5 0 rfl ?_
  refine z_getR dX4_freeFirst_6 (k := 0) (j := 63) zc_X4 lx_62 rfl (by decide) k_190 ?_
  refine z_callV1 dX4_freeFirst_9 rfl (ct_X9_size n 63 zt_63 m) zc_X9 lx_63 k_905 k_276 k_277 k_3 k_278 zn_X9_size ⟨rfl, rfl, Nat.le_of_ble_eq_true rfl, Nat.le_of_ble_eq_true rfl⟩ (Nat.le_of_ble_eq_true rfl) rfl (fun v1 m2 h3 ho4 => ?_)
  refine z_icmp_ge dX4_freeFirst_12 hx2 h3 (tgt := 44) rfl (fun h5 => ?_) (fun h5 => ?_)
  · refine z_iload_n dX4_freeFirst_44 1 rfl ?_
    exact z_iret dX4_freeFirst_45 rfl rfl hx1
  · refine z_aload_n dX4_freeFirst_15 0 rfl ?_
    refine z_getR dX4_freeFirst_16 (k := 0) (j := 63) zc_X4 lx_62 rfl (by decide) k_190 ?_
    refine z_iload_n dX4_freeFirst_19 2 rfl ?_
    refine z_iconst dX4_freeFirst_20 ?_
    refine z_callV1 dX4_freeFirst_21 rfl (ct_X9_at n 63 zt_63 x2 0 m2 hx2 (by decide)) zc_X9 lx_63 k_910 k_264 k_265 k_3 k_266 zn_X9_at ⟨rfl, rfl, Nat.le_of_ble_eq_true rfl, Nat.le_of_ble_eq_true rfl⟩ (Nat.le_of_ble_eq_true rfl) rfl (fun v6 m7 h8 ho9 => ?_)
    refine z_aload_n dX4_freeFirst_24 0 rfl ?_
    refine z_getR dX4_freeFirst_25 (k := 0) (j := 63) zc_X4 lx_62 rfl (by decide) k_190 ?_
    refine z_iload_n dX4_freeFirst_28 1 rfl ?_
    refine z_iconst dX4_freeFirst_29 ?_
    refine z_callV1 dX4_freeFirst_30 rfl (ct_X9_at n 63 zt_63 x1 0 m7 hx1 (by decide)) zc_X9 lx_63 k_910 k_264 k_265 k_3 k_266 zn_X9_at ⟨rfl, rfl, Nat.le_of_ble_eq_true rfl, Nat.le_of_ble_eq_true rfl⟩ (Nat.le_of_ble_eq_true rfl) rfl (fun v10 m11 h12 ho13 => ?_)
    refine z_icmp_ge dX4_freeFirst_33 h8 h12 (tgt := 38) rfl (fun h14 => ?_) (fun h14 => ?_)
    · refine z_iinc dX4_freeFirst_38 (lv' := [(2, .int (mI (x2 + 1))), (0, .ref (ad 62)), (1, .int (mI x1))]) 2 rfl (by decide) rfl (fun h15 => ?_)
      refine z_goto dX4_freeFirst_41 (tgt := 4) rfl ?_
      exact zG_lvk (hr4 x1 (x2 + 1) m11 hx1 h15) [1, 2, 0] rfl
    · refine z_iload_n dX4_freeFirst_36 2 rfl ?_
      refine z_istore_n dX4_freeFirst_37 (lv' := [(1, .int (mI x2)), (0, .ref (ad 62)), (2, .int (mI x2))]) (by decide) rfl ?_
      refine z_iinc dX4_freeFirst_38 (lv' := [(2, .int (mI (x2 + 1))), (1, .int (mI x2)), (0, .ref (ad 62))]) 2 rfl (by decide) rfl (fun h16 => ?_)
      refine z_goto dX4_freeFirst_41 (tgt := 4) rfl ?_
      exact zG_lvk (hr4 x2 (x2 + 1) m11 hx2 h16) [2, 1, 0] rfl
theorem TL_X4_freeFirst_4 {ad sc sv : Nat → Nat} (n : Nat) : ∀ q : Nat, ∀ (x1 : Int) (x2 : Int) (m : ZMem), R32 x1 → R32 x2 → zG LX ad sc sv M_X4_freeFirst 4 [(0, .ref (ad 62)), (1, .int (mI x1)), (2, .int (mI x2))] [] m (L_X4_freeFirst_4 n q x1 x2 m) := by
  intro q
  induction q with
  | zero => intros; exact zG_none
  | succ q ih => exact T_X4_freeFirst_4 n (L_X4_freeFirst_4 n q) ih
set_option maxRecDepth 20000 in
theorem ct_X4_freeFirst {ad sc sv : Nat → Nat} (n : Nat) (m : ZMem) : zCT LX ad sc sv M_X4_freeFirst yX4_freeFirst [.ref (ad 62)] m (F_X4_freeFirst n m) := by
  refine zCT_of (lv := [(0, .ref (ad 62))]) (by decide) rfl (Nat.le_of_ble_eq_true rfl) rfl ?_
  unfold F_X4_freeFirst
  refine z_iconst dX4_freeFirst_0 ?_
  refine z_istore_n dX4_freeFirst_1 (lv' := [(1, .int (mI 0)), (0, .ref (ad 62))]) (by decide) rfl ?_
  refine z_iconst dX4_freeFirst_2 ?_
  refine z_istore_n dX4_freeFirst_3 (lv' := [(2, .int (mI 1)), (1, .int (mI 0)), (0, .ref (ad 62))]) (by decide) rfl ?_
  exact zG_lvk (TL_X4_freeFirst_4 n n 0 1 m (by decide) (by decide)) [2, 1, 0] rfl
set_option maxRecDepth 20000 in
theorem ct_X4_putOn {ad sc sv : Nat → Nat} (n : Nat) (a0 : Int) (a1 : Int) (m : ZMem) (ha0 : R32 a0) (ha1 : R32 a1) : zCT LX ad sc sv M_X4_putOn yX4_putOn [.ref (ad 62), .int (mI a0), .int (mI a1)] m (F_X4_putOn n a0 a1 m) := by
  refine zCT_of (lv := [(0, .ref (ad 62)), (1, .int (mI a0)), (2, .int (mI a1))]) (by decide) rfl (Nat.le_of_ble_eq_true rfl) rfl ?_
  unfold F_X4_putOn
  refine z_aload_n dX4_putOn_0 0 rfl ?_
  refine z_getR dX4_putOn_1 (k := 0) (j := 63) zc_X4 lx_62 rfl (by decide) k_190 ?_
  refine z_iload_n dX4_putOn_4 1 rfl ?_
  refine z_iconst dX4_putOn_5 ?_
  refine z_aload_n dX4_putOn_6 0 rfl ?_
  refine z_getR dX4_putOn_7 (k := 0) (j := 63) zc_X4 lx_62 rfl (by decide) k_190 ?_
  refine z_iload_n dX4_putOn_10 1 rfl ?_
  refine z_iconst dX4_putOn_11 ?_
  refine z_callV1 dX4_putOn_12 rfl (ct_X9_at n 63 zt_63 a0 0 m ha0 (by decide)) zc_X9 lx_63 k_910 k_264 k_265 k_3 k_266 zn_X9_at ⟨rfl, rfl, Nat.le_of_ble_eq_true rfl, Nat.le_of_ble_eq_true rfl⟩ (Nat.le_of_ble_eq_true rfl) rfl (fun v1 m2 h3 ho4 => ?_)
  refine z_iload_n dX4_putOn_15 2 rfl ?_
  refine z_iadd dX4_putOn_16 (fun h5 => ?_)
  refine z_callV0 dX4_putOn_17 rfl (ct_X9_put n 63 zt_63 a0 0 (v1 + a1) m2 ha0 (by decide) h5) zc_X9 lx_63 k_915 k_268 k_269 k_3 k_270 zn_X9_put ⟨rfl, rfl, Nat.le_of_ble_eq_true rfl, Nat.le_of_ble_eq_true rfl⟩ (Nat.le_of_ble_eq_true rfl) rfl (fun v6 m7 ho9 => ?_)
  exact z_vret dX4_putOn_20 rfl rfl
set_option maxRecDepth 20000 in
theorem T_X4_oneBehindTheOther_11 {ad sc sv : Nat → Nat} (n : Nat) (r11 : Int → ZMem → ZR) (hr11 : ∀ (x3 : Int) (m : ZMem), R32 x3 → zG LX ad sc sv M_X4_oneBehindTheOther 11 [(0, .ref (ad 62)), (1, .ref (ad 45)), (3, .int (mI x3))] [] m (r11 x3 m)) : ∀ (x3 : Int) (m : ZMem), R32 x3 → zG LX ad sc sv M_X4_oneBehindTheOther 11 [(0, .ref (ad 62)), (1, .ref (ad 45)), (3, .int (mI x3))] [] m (B_X4_oneBehindTheOther_11 n r11 x3 m) := by
  intro x3 m hx3
  unfold B_X4_oneBehindTheOther_11
  refine z_iload_n dX4_oneBehindTheOther_11 2 rfl ?_
  refine z_aload_n dX4_oneBehindTheOther_12 1 rfl ?_
  refine z_callV1 dX4_oneBehindTheOther_13 rfl (ct_X9_size n 45 zt_45 m) zc_X9 lx_45 k_905 k_276 k_277 k_3 k_278 zn_X9_size ⟨rfl, rfl, Nat.le_of_ble_eq_true rfl, Nat.le_of_ble_eq_true rfl⟩ (Nat.le_of_ble_eq_true rfl) rfl (fun v5 m6 h7 ho8 => ?_)
  refine z_icmp_ge dX4_oneBehindTheOther_16 hx3 h7 (tgt := 39) rfl (fun h9 => ?_) (fun h9 => ?_)
  · refine z_aload_n dX4_oneBehindTheOther_39 0 rfl ?_
    refine z_callV1 dX4_oneBehindTheOther_40 rfl (ct_X4_allDone n m6) zc_X4 lx_62 k_916 k_918 kp_34 k_9 k_919 zn_X4_allDone ⟨rfl, rfl, Nat.le_of_ble_eq_true rfl, Nat.le_of_ble_eq_true rfl⟩ (Nat.le_of_ble_eq_true rfl) rfl (fun v10 m11 h12 ho13 => ?_)
    exact z_iret dX4_oneBehindTheOther_43 rfl rfl h12
  · refine z_aload_n dX4_oneBehindTheOther_19 0 rfl ?_
    refine z_aload_n dX4_oneBehindTheOther_20 0 rfl ?_
    refine z_callV1 dX4_oneBehindTheOther_21 rfl (ct_X4_freeFirst n m6) zc_X4 lx_62 k_906 k_908 kp_32 k_9 k_909 zn_X4_freeFirst ⟨rfl, rfl, Nat.le_of_ble_eq_true rfl, Nat.le_of_ble_eq_true rfl⟩ (Nat.le_of_ble_eq_true rfl) rfl (fun v14 m15 h16 ho17 => ?_)
    refine z_aload_n dX4_oneBehindTheOther_24 1 rfl ?_
    refine z_iload_n dX4_oneBehindTheOther_25 2 rfl ?_
    refine z_iconst dX4_oneBehindTheOther_26 ?_
    refine z_callV1 dX4_oneBehindTheOther_27 rfl (ct_X9_at n 45 zt_45 x3 0 m15 hx3 (by decide)) zc_X9 lx_45 k_910 k_264 k_265 k_3 k_266 zn_X9_at ⟨rfl, rfl, Nat.le_of_ble_eq_true rfl, Nat.le_of_ble_eq_true rfl⟩ (Nat.le_of_ble_eq_true rfl) rfl (fun v18 m19 h20 ho21 => ?_)
    refine z_callV0 dX4_oneBehindTheOther_30 rfl (ct_X4_putOn n v14 v18 m19 h16 h20) zc_X4 lx_62 k_911 k_913 kp_33 k_9 k_914 zn_X4_putOn ⟨rfl, rfl, Nat.le_of_ble_eq_true rfl, Nat.le_of_ble_eq_true rfl⟩ (Nat.le_of_ble_eq_true rfl) rfl (fun v22 m23 ho25 => ?_)
    refine z_iinc dX4_oneBehindTheOther_33 (lv' := [(3, .int (mI (x3 + 1))), (0, .ref (ad 62)), (1, .ref (ad 45))]) 2 rfl (by decide) rfl (fun h26 => ?_)
    refine z_goto dX4_oneBehindTheOther_36 (tgt := 11) rfl ?_
    exact zG_lvk (hr11 (x3 + 1) m23 h26) [1, 2, 0] rfl
theorem TL_X4_oneBehindTheOther_11 {ad sc sv : Nat → Nat} (n : Nat) : ∀ q : Nat, ∀ (x3 : Int) (m : ZMem), R32 x3 → zG LX ad sc sv M_X4_oneBehindTheOther 11 [(0, .ref (ad 62)), (1, .ref (ad 45)), (3, .int (mI x3))] [] m (L_X4_oneBehindTheOther_11 n q x3 m) := by
  intro q
  induction q with
  | zero => intros; exact zG_none
  | succ q ih => exact T_X4_oneBehindTheOther_11 n (L_X4_oneBehindTheOther_11 n q) ih
set_option maxRecDepth 20000 in
theorem ct_X4_oneBehindTheOther {ad sc sv : Nat → Nat} (n : Nat) (a0 : Int) (m : ZMem) (ha0 : R32 a0) : zCT LX ad sc sv M_X4_oneBehindTheOther yX4_oneBehindTheOther [.ref (ad 62), .ref (ad 45), .int (mI a0)] m (F_X4_oneBehindTheOther n a0 m) := by
  refine zCT_of (lv := [(0, .ref (ad 62)), (1, .ref (ad 45)), (2, .int (mI a0))]) (by decide) rfl (Nat.le_of_ble_eq_true rfl) rfl ?_
  unfold F_X4_oneBehindTheOther
  refine z_aload_n dX4_oneBehindTheOther_0 0 rfl ?_
  refine z_getR dX4_oneBehindTheOther_1 (k := 0) (j := 63) zc_X4 lx_62 rfl (by decide) k_190 ?_
  refine z_iload_n dX4_oneBehindTheOther_4 2 rfl ?_
  refine z_iconst dX4_oneBehindTheOther_5 ?_
  refine z_callV0 dX4_oneBehindTheOther_6 rfl (ct_X9_reset n 63 zt_63 a0 0 m ha0 (by decide)) zc_X9 lx_63 k_904 k_58 k_59 k_3 k_60 zn_X9_reset ⟨rfl, rfl, Nat.le_of_ble_eq_true rfl, Nat.le_of_ble_eq_true rfl⟩ (Nat.le_of_ble_eq_true rfl) rfl (fun v1 m2 ho4 => ?_)
  refine z_iconst dX4_oneBehindTheOther_9 ?_
  refine z_istore_n dX4_oneBehindTheOther_10 (lv' := [(3, .int (mI 0)), (0, .ref (ad 62)), (1, .ref (ad 45)), (2, .int (mI a0))]) (by decide) rfl ?_
  exact zG_lvk (TL_X4_oneBehindTheOther_11 n n 0 m2 (by decide)) [1, 2, 0] rfl
set_option maxRecDepth 20000 in
theorem T_X4_waysOf_4 {ad sc sv : Nat → Nat} (n : Nat) (r4 : Int → Int → Int → ZMem → ZR) (hr4 : ∀ (x1 : Int) (x2 : Int) (x3 : Int) (m : ZMem), R32 x1 → R32 x2 → R32 x3 → zG LX ad sc sv M_X4_waysOf 4 [(0, .ref (ad 45)), (1, .int (mI x1)), (2, .int (mI x2)), (3, .int (mI x3))] [] m (r4 x1 x2 x3 m)) : ∀ (x1 : Int) (x2 : Int) (x3 : Int) (m : ZMem), R32 x1 → R32 x2 → R32 x3 → zG LX ad sc sv M_X4_waysOf 4 [(0, .ref (ad 45)), (1, .int (mI x1)), (2, .int (mI x2)), (3, .int (mI x3))] [] m (B_X4_waysOf_4 n r4 x1 x2 x3 m) := by
  intro x1 x2 x3 m hx1 hx2 hx3
  unfold B_X4_waysOf_4
  refine z_iload_n dX4_waysOf_4 3 rfl ?_
  refine z_aload_n dX4_waysOf_5 0 rfl ?_
  refine z_callV1 dX4_waysOf_6 rfl (ct_X9_size n 45 zt_45 m) zc_X9 lx_45 k_905 k_276 k_277 k_3 k_278 zn_X9_size ⟨rfl, rfl, Nat.le_of_ble_eq_true rfl, Nat.le_of_ble_eq_true rfl⟩ (Nat.le_of_ble_eq_true rfl) rfl (fun v1 m2 h3 ho4 => ?_)
  refine z_icmp_ge dX4_waysOf_9 hx3 h3 (tgt := 22) rfl (fun h5 => ?_) (fun h5 => ?_)
  · refine z_iload_n dX4_waysOf_22 2 rfl ?_
    exact z_iret dX4_waysOf_23 rfl rfl hx2
  · refine z_iload_n dX4_waysOf_12 2 rfl ?_
    refine z_iload_n dX4_waysOf_13 1 rfl ?_
    refine z_imul dX4_waysOf_14 (fun h6 => ?_)
    refine z_istore_n dX4_waysOf_15 (lv' := [(2, .int (mI (x2 * x1))), (0, .ref (ad 45)), (1, .int (mI x1)), (3, .int (mI x3))]) (by decide) rfl ?_
    refine z_iinc dX4_waysOf_16 (lv' := [(3, .int (mI (x3 + 1))), (2, .int (mI (x2 * x1))), (0, .ref (ad 45)), (1, .int (mI x1))]) 3 rfl (by decide) rfl (fun h7 => ?_)
    refine z_goto dX4_waysOf_19 (tgt := 4) rfl ?_
    exact zG_lvk (hr4 x1 (x2 * x1) (x3 + 1) m2 hx1 h6 h7) [2, 3, 1, 0] rfl
theorem TL_X4_waysOf_4 {ad sc sv : Nat → Nat} (n : Nat) : ∀ q : Nat, ∀ (x1 : Int) (x2 : Int) (x3 : Int) (m : ZMem), R32 x1 → R32 x2 → R32 x3 → zG LX ad sc sv M_X4_waysOf 4 [(0, .ref (ad 45)), (1, .int (mI x1)), (2, .int (mI x2)), (3, .int (mI x3))] [] m (L_X4_waysOf_4 n q x1 x2 x3 m) := by
  intro q
  induction q with
  | zero => intros; exact zG_none
  | succ q ih => exact T_X4_waysOf_4 n (L_X4_waysOf_4 n q) ih
set_option maxRecDepth 20000 in
theorem ct_X4_waysOf {ad sc sv : Nat → Nat} (n : Nat) (a0 : Int) (m : ZMem) (ha0 : R32 a0) : zCT LX ad sc sv M_X4_waysOf yX4_waysOf [.ref (ad 45), .int (mI a0)] m (F_X4_waysOf n a0 m) := by
  refine zCT_of (lv := [(0, .ref (ad 45)), (1, .int (mI a0))]) (by decide) rfl (Nat.le_of_ble_eq_true rfl) rfl ?_
  unfold F_X4_waysOf
  refine z_iconst dX4_waysOf_0 ?_
  refine z_istore_n dX4_waysOf_1 (lv' := [(2, .int (mI 1)), (0, .ref (ad 45)), (1, .int (mI a0))]) (by decide) rfl ?_
  refine z_iconst dX4_waysOf_2 ?_
  refine z_istore_n dX4_waysOf_3 (lv' := [(3, .int (mI 0)), (2, .int (mI 1)), (0, .ref (ad 45)), (1, .int (mI a0))]) (by decide) rfl ?_
  exact zG_lvk (TL_X4_waysOf_4 n n a0 1 0 m ha0 (by decide) (by decide)) [2, 3, 1, 0] rfl
set_option maxRecDepth 20000 in
theorem T_X4_nextWay_42 {ad sc sv : Nat → Nat} (n : Nat) (r6 : Int → Int → Int → ZMem → ZR) (hr6 : ∀ (x2 : Int) (x4 : Int) (x5 : Int) (m : ZMem), R32 x2 → R32 x4 → R32 x5 → zG LX ad sc sv M_X4_nextWay 6 [(0, .ref (ad 62)), (1, .ref (ad 45)), (2, .int (mI x2)), (4, .int (mI x4)), (5, .int (mI x5))] [] m (r6 x2 x4 x5 m)) : ∀ (x2 : Int) (x4 : Int) (x5 : Int) (x6 : Int) (s0 : Int) (m : ZMem), R32 x2 → R32 x4 → R32 x5 → R32 x6 → R32 s0 → zG LX ad sc sv M_X4_nextWay 42 [(0, .ref (ad 62)), (1, .ref (ad 45)), (2, .int (mI x2)), (4, .int (mI x4)), (5, .int (mI x5)), (6, .int (mI x6))] [.int (mI s0)] m (B_X4_nextWay_42 n r6 x2 x4 x5 x6 s0 m) := by
  intro x2 x4 x5 x6 s0 m hx2 hx4 hx5 hx6 hs0
  unfold B_X4_nextWay_42
  refine z_istore dX4_nextWay_42 (lv' := [(7, .int (mI s0)), (0, .ref (ad 62)), (1, .ref (ad 45)), (2, .int (mI x2)), (4, .int (mI x4)), (5, .int (mI x5)), (6, .int (mI x6))]) (by decide) rfl ?_
  refine z_aload_n dX4_nextWay_44 1 rfl ?_
  refine z_iload dX4_nextWay_45 6 rfl ?_
  refine z_aload_n dX4_nextWay_47 2 rfl ?_
  refine z_iload dX4_nextWay_48 5 rfl ?_
  refine z_iconst dX4_nextWay_50 ?_
  refine z_callV1 dX4_nextWay_51 rfl (ct_X9_at n 45 zt_45 x5 0 m hx5 (by decide)) zc_X9 lx_45 k_910 k_264 k_265 k_3 k_266 zn_X9_at ⟨rfl, rfl, Nat.le_of_ble_eq_true rfl, Nat.le_of_ble_eq_true rfl⟩ (Nat.le_of_ble_eq_true rfl) rfl (fun v12 m13 h14 ho15 => ?_)
  refine z_ineg dX4_nextWay_54 (fun h16 => ?_)
  refine z_callV0 dX4_nextWay_55 rfl (ct_X4_putOn n x6 (-v12) m13 hx6 h16) zc_X4 lx_62 k_911 k_913 kp_33 k_9 k_914 zn_X4_putOn ⟨rfl, rfl, Nat.le_of_ble_eq_true rfl, Nat.le_of_ble_eq_true rfl⟩ (Nat.le_of_ble_eq_true rfl) rfl (fun v17 m18 ho20 => ?_)
  refine z_aload_n dX4_nextWay_58 1 rfl ?_
  refine z_iload dX4_nextWay_59 0 rfl ?_
  refine z_aload_n dX4_nextWay_61 2 rfl ?_
  refine z_iload dX4_nextWay_62 5 rfl ?_
  refine z_iconst dX4_nextWay_64 ?_
  refine z_callV1 dX4_nextWay_65 rfl (ct_X9_at n 45 zt_45 x5 0 m18 hx5 (by decide)) zc_X9 lx_45 k_910 k_264 k_265 k_3 k_266 zn_X9_at ⟨rfl, rfl, Nat.le_of_ble_eq_true rfl, Nat.le_of_ble_eq_true rfl⟩ (Nat.le_of_ble_eq_true rfl) rfl (fun v21 m22 h23 ho24 => ?_)
  refine z_callV0 dX4_nextWay_68 rfl (ct_X4_putOn n s0 v21 m22 hs0 h23) zc_X4 lx_62 k_911 k_913 kp_33 k_9 k_914 zn_X4_putOn ⟨rfl, rfl, Nat.le_of_ble_eq_true rfl, Nat.le_of_ble_eq_true rfl⟩ (Nat.le_of_ble_eq_true rfl) rfl (fun v25 m26 ho28 => ?_)
  refine z_iload dX4_nextWay_71 4 rfl ?_
  refine z_iload dX4_nextWay_73 0 rfl ?_
  refine z_iload dX4_nextWay_75 6 rfl ?_
  refine z_isub dX4_nextWay_77 (fun h29 => ?_)
  refine z_iconst dX4_nextWay_78 ?_
  refine z_iload dX4_nextWay_79 5 rfl ?_
  refine z_imul dX4_nextWay_81 (fun h30 => ?_)
  refine z_ishl dX4_nextWay_82 (fun h31 => ?_)
  refine z_iadd dX4_nextWay_83 (fun h32 => ?_)
  refine z_istore dX4_nextWay_84 (lv' := [(4, .int (mI (x4 + ((s0 - x6) * 2 ^ ((2 * x5) : Int).toNat)))), (7, .int (mI s0)), (0, .ref (ad 62)), (1, .ref (ad 45)), (2, .int (mI x2)), (5, .int (mI x5)), (6, .int (mI x6))]) (by decide) rfl ?_
  refine z_iload dX4_nextWay_86 1 rfl ?_
  refine z_if_le dX4_nextWay_88 hs0 (tgt := 94) rfl (fun h33 => ?_) (fun h33 => ?_)
  · refine z_iinc dX4_nextWay_94 (lv' := [(5, .int (mI (x5 + 1))), (4, .int (mI (x4 + ((s0 - x6) * 2 ^ ((2 * x5) : Int).toNat)))), (7, .int (mI s0)), (0, .ref (ad 62)), (1, .ref (ad 45)), (2, .int (mI x2)), (6, .int (mI x6))]) 5 rfl (by decide) rfl (fun h34 => ?_)
    refine z_goto dX4_nextWay_97 (tgt := 6) rfl ?_
    exact zG_lvk (hr6 x2 (x4 + ((s0 - x6) * 2 ^ ((2 * x5) : Int).toNat)) (x5 + 1) m26 hx2 h32 h34) [3, 4, 5, 1, 0] rfl
  · refine z_iload dX4_nextWay_91 0 rfl ?_
    exact z_iret dX4_nextWay_93 rfl rfl h32
set_option maxRecDepth 20000 in
theorem T_X4_nextWay_6 {ad sc sv : Nat → Nat} (n : Nat) (r6 : Int → Int → Int → ZMem → ZR) (hr6 : ∀ (x2 : Int) (x4 : Int) (x5 : Int) (m : ZMem), R32 x2 → R32 x4 → R32 x5 → zG LX ad sc sv M_X4_nextWay 6 [(0, .ref (ad 62)), (1, .ref (ad 45)), (2, .int (mI x2)), (4, .int (mI x4)), (5, .int (mI x5))] [] m (r6 x2 x4 x5 m)) : ∀ (x2 : Int) (x4 : Int) (x5 : Int) (m : ZMem), R32 x2 → R32 x4 → R32 x5 → zG LX ad sc sv M_X4_nextWay 6 [(0, .ref (ad 62)), (1, .ref (ad 45)), (2, .int (mI x2)), (4, .int (mI x4)), (5, .int (mI x5))] [] m (B_X4_nextWay_6 n r6 x2 x4 x5 m) := by
  intro x2 x4 x5 m hx2 hx4 hx5
  unfold B_X4_nextWay_6
  refine z_iload dX4_nextWay_6 4 rfl ?_
  refine z_aload_n dX4_nextWay_8 1 rfl ?_
  refine z_callV1 dX4_nextWay_9 rfl (ct_X9_size n 45 zt_45 m) zc_X9 lx_45 k_905 k_276 k_277 k_3 k_278 zn_X9_size ⟨rfl, rfl, Nat.le_of_ble_eq_true rfl, Nat.le_of_ble_eq_true rfl⟩ (Nat.le_of_ble_eq_true rfl) rfl (fun v1 m2 h3 ho4 => ?_)
  refine z_icmp_ge dX4_nextWay_12 hx5 h3 (tgt := 100) rfl (fun h5 => ?_) (fun h5 => ?_)
  · refine z_iload dX4_nextWay_100 3 rfl ?_
    exact z_iret dX4_nextWay_102 rfl rfl hx4
  · refine z_iload dX4_nextWay_15 3 rfl ?_
    refine z_iconst dX4_nextWay_17 ?_
    refine z_iload dX4_nextWay_18 4 rfl ?_
    refine z_imul dX4_nextWay_20 (fun h6 => ?_)
    refine z_ishr dX4_nextWay_21 hx4 (fun h7 => ?_)
    refine z_iconst dX4_nextWay_22 ?_
    refine z_iandm dX4_nextWay_23 2 (by decide +kernel) (by decide) (fun h8 => ?_)
    refine z_istore dX4_nextWay_24 (lv' := [(6, .int (mI ((x4 / 2 ^ ((2 * x5) : Int).toNat) % 2 ^ 2))), (0, .ref (ad 62)), (1, .ref (ad 45)), (2, .int (mI x2)), (4, .int (mI x4)), (5, .int (mI x5))]) (by decide) rfl ?_
    refine z_iload dX4_nextWay_26 0 rfl ?_
    refine z_iconst dX4_nextWay_28 ?_
    refine z_iadd dX4_nextWay_29 (fun h9 => ?_)
    refine z_iload_n dX4_nextWay_30 3 rfl ?_
    refine z_icmp_ge dX4_nextWay_31 h9 hx2 (tgt := 41) rfl (fun h10 => ?_) (fun h10 => ?_)
    · refine z_iconst dX4_nextWay_41 ?_
      exact zG_lvk (T_X4_nextWay_42 n r6 hr6 x2 x4 x5 ((x4 / 2 ^ ((2 * x5) : Int).toNat) % 2 ^ 2) 0 m2 hx2 hx4 hx5 h8 (by decide)) [1, 2, 3, 4, 5, 0] rfl
    · refine z_iload dX4_nextWay_34 0 rfl ?_
      refine z_iconst dX4_nextWay_36 ?_
      refine z_iadd dX4_nextWay_37 (fun h11 => ?_)
      refine z_goto dX4_nextWay_38 (tgt := 42) rfl ?_
      exact zG_lvk (T_X4_nextWay_42 n r6 hr6 x2 x4 x5 ((x4 / 2 ^ ((2 * x5) : Int).toNat) % 2 ^ 2) (((x4 / 2 ^ ((2 * x5) : Int).toNat) % 2 ^ 2) + 1) m2 hx2 hx4 hx5 h8 h11) [1, 2, 3, 4, 5, 0] rfl
theorem TL_X4_nextWay_6 {ad sc sv : Nat → Nat} (n : Nat) : ∀ q : Nat, ∀ (x2 : Int) (x4 : Int) (x5 : Int) (m : ZMem), R32 x2 → R32 x4 → R32 x5 → zG LX ad sc sv M_X4_nextWay 6 [(0, .ref (ad 62)), (1, .ref (ad 45)), (2, .int (mI x2)), (4, .int (mI x4)), (5, .int (mI x5))] [] m (L_X4_nextWay_6 n q x2 x4 x5 m) := by
  intro q
  induction q with
  | zero => intros; exact zG_none
  | succ q ih => exact T_X4_nextWay_6 n (L_X4_nextWay_6 n q) ih
set_option maxRecDepth 20000 in
theorem ct_X4_nextWay {ad sc sv : Nat → Nat} (n : Nat) (a0 : Int) (a1 : Int) (m : ZMem) (ha0 : R32 a0) (ha1 : R32 a1) : zCT LX ad sc sv M_X4_nextWay yX4_nextWay [.ref (ad 62), .ref (ad 45), .int (mI a0), .int (mI a1)] m (F_X4_nextWay n a0 a1 m) := by
  refine zCT_of (lv := [(0, .ref (ad 62)), (1, .ref (ad 45)), (2, .int (mI a0)), (3, .int (mI a1))]) (by decide) rfl (Nat.le_of_ble_eq_true rfl) rfl ?_
  unfold F_X4_nextWay
  refine z_iload_n dX4_nextWay_0 3 rfl ?_
  refine z_istore dX4_nextWay_1 (lv' := [(4, .int (mI a1)), (0, .ref (ad 62)), (1, .ref (ad 45)), (2, .int (mI a0)), (3, .int (mI a1))]) (by decide) rfl ?_
  refine z_iconst dX4_nextWay_3 ?_
  refine z_istore dX4_nextWay_4 (lv' := [(5, .int (mI 0)), (4, .int (mI a1)), (0, .ref (ad 62)), (1, .ref (ad 45)), (2, .int (mI a0)), (3, .int (mI a1))]) (by decide) rfl ?_
  exact zG_lvk (TL_X4_nextWay_6 n n a0 a1 0 m ha0 ha1 (by decide)) [2, 3, 4, 1, 0] rfl
set_option maxRecDepth 20000 in
theorem T_X4_soonest_37 {ad sc sv : Nat → Nat} (n : Nat) (r37 : Int → Int → Int → Int → Int → Int → ZMem → ZR) (hr37 : ∀ (x2 : Int) (x3 : Int) (x4 : Int) (x5 : Int) (x6 : Int) (x7 : Int) (m : ZMem), R32 x2 → R32 x3 → R32 x4 → R32 x5 → R32 x6 → R32 x7 → zG LX ad sc sv M_X4_soonest 37 [(0, .ref (ad 62)), (1, .ref (ad 45)), (2, .int (mI x2)), (3, .int (mI x3)), (4, .int (mI x4)), (5, .int (mI x5)), (6, .int (mI x6)), (7, .int (mI x7))] [] m (r37 x2 x3 x4 x5 x6 x7 m)) : ∀ (x2 : Int) (x3 : Int) (x4 : Int) (x5 : Int) (x6 : Int) (x7 : Int) (m : ZMem), R32 x2 → R32 x3 → R32 x4 → R32 x5 → R32 x6 → R32 x7 → zG LX ad sc sv M_X4_soonest 37 [(0, .ref (ad 62)), (1, .ref (ad 45)), (2, .int (mI x2)), (3, .int (mI x3)), (4, .int (mI x4)), (5, .int (mI x5)), (6, .int (mI x6)), (7, .int (mI x7))] [] m (B_X4_soonest_37 n r37 x2 x3 x4 x5 x6 x7 m) := by
  intro x2 x3 x4 x5 x6 x7 m hx2 hx3 hx4 hx5 hx6 hx7
  unfold B_X4_soonest_37
  refine z_iload dX4_soonest_37 7 rfl ?_
  refine z_iconst dX4_soonest_39 ?_
  refine z_icmp_le dX4_soonest_40 hx7 (by decide) (tgt := 78) rfl (fun h17 => ?_) (fun h17 => ?_)
  · refine z_iload_n dX4_soonest_78 3 rfl ?_
    refine z_if_eq dX4_soonest_79 hx3 (tgt := 87) rfl (fun h18 => ?_) (fun h18 => ?_)
    · refine z_iload dX4_soonest_87 6 rfl ?_
      exact z_iret dX4_soonest_89 rfl rfl hx6
    · refine z_iload dX4_soonest_82 5 rfl ?_
      refine z_goto dX4_soonest_84 (tgt := 89) rfl ?_
      exact z_iret dX4_soonest_89 rfl rfl hx5
  · refine z_aload_n dX4_soonest_43 0 rfl ?_
    refine z_aload_n dX4_soonest_44 1 rfl ?_
    refine z_iload_n dX4_soonest_45 2 rfl ?_
    refine z_iload dX4_soonest_46 4 rfl ?_
    refine z_callV1 dX4_soonest_48 rfl (ct_X4_nextWay n x2 x4 m hx2 hx4) zc_X4 lx_62 k_929 k_931 kp_35 k_9 k_932 zn_X4_nextWay ⟨rfl, rfl, Nat.le_of_ble_eq_true rfl, Nat.le_of_ble_eq_true rfl⟩ (Nat.le_of_ble_eq_true rfl) rfl (fun v19 m20 h21 ho22 => ?_)
    refine z_istore dX4_soonest_51 (lv' := [(4, .int (mI v19)), (0, .ref (ad 62)), (1, .ref (ad 45)), (2, .int (mI x2)), (3, .int (mI x3)), (5, .int (mI x5)), (6, .int (mI x6)), (7, .int (mI x7))]) (by decide) rfl ?_
    refine z_aload_n dX4_soonest_53 1 rfl ?_
    refine z_callV1 dX4_soonest_54 rfl (ct_X4_allDone n m20) zc_X4 lx_62 k_916 k_918 kp_34 k_9 k_919 zn_X4_allDone ⟨rfl, rfl, Nat.le_of_ble_eq_true rfl, Nat.le_of_ble_eq_true rfl⟩ (Nat.le_of_ble_eq_true rfl) rfl (fun v23 m24 h25 ho26 => ?_)
    refine z_iload dX4_soonest_57 6 rfl ?_
    refine z_icmp_ge dX4_soonest_59 h25 hx6 (tgt := 72) rfl (fun h27 => ?_) (fun h27 => ?_)
    · refine z_iinc dX4_soonest_72 (lv' := [(7, .int (mI (x7 + (-1)))), (4, .int (mI v19)), (0, .ref (ad 62)), (1, .ref (ad 45)), (2, .int (mI x2)), (3, .int (mI x3)), (5, .int (mI x5)), (6, .int (mI x6))]) 7 rfl (by decide) rfl (fun h28 => ?_)
      refine z_goto dX4_soonest_75 (tgt := 37) rfl ?_
      exact zG_lvk (hr37 x2 x3 v19 x5 x6 (x7 + (-1)) m24 hx2 hx3 h21 hx5 hx6 h28) [2, 3, 4, 5, 1, 6, 7, 0] rfl
    · refine z_iload dX4_soonest_62 0 rfl ?_
      refine z_istore dX4_soonest_64 (lv' := [(5, .int (mI v19)), (4, .int (mI v19)), (0, .ref (ad 62)), (1, .ref (ad 45)), (2, .int (mI x2)), (3, .int (mI x3)), (6, .int (mI x6)), (7, .int (mI x7))]) (by decide) rfl ?_
      refine z_aload_n dX4_soonest_66 2 rfl ?_
      refine z_callV1 dX4_soonest_67 rfl (ct_X4_allDone n m24) zc_X4 lx_62 k_916 k_918 kp_34 k_9 k_919 zn_X4_allDone ⟨rfl, rfl, Nat.le_of_ble_eq_true rfl, Nat.le_of_ble_eq_true rfl⟩ (Nat.le_of_ble_eq_true rfl) rfl (fun v29 m30 h31 ho32 => ?_)
      refine z_istore dX4_soonest_70 (lv' := [(6, .int (mI v29)), (5, .int (mI v19)), (4, .int (mI v19)), (0, .ref (ad 62)), (1, .ref (ad 45)), (2, .int (mI x2)), (3, .int (mI x3)), (7, .int (mI x7))]) (by decide) rfl ?_
      refine z_iinc dX4_soonest_72 (lv' := [(7, .int (mI (x7 + (-1)))), (6, .int (mI v29)), (5, .int (mI v19)), (4, .int (mI v19)), (0, .ref (ad 62)), (1, .ref (ad 45)), (2, .int (mI x2)), (3, .int (mI x3))]) 7 rfl (by decide) rfl (fun h33 => ?_)
      refine z_goto dX4_soonest_75 (tgt := 37) rfl ?_
      exact zG_lvk (hr37 x2 x3 v19 v19 v29 (x7 + (-1)) m30 hx2 hx3 h21 h21 h31 h33) [4, 5, 6, 7, 3, 2, 1, 0] rfl
theorem TL_X4_soonest_37 {ad sc sv : Nat → Nat} (n : Nat) : ∀ q : Nat, ∀ (x2 : Int) (x3 : Int) (x4 : Int) (x5 : Int) (x6 : Int) (x7 : Int) (m : ZMem), R32 x2 → R32 x3 → R32 x4 → R32 x5 → R32 x6 → R32 x7 → zG LX ad sc sv M_X4_soonest 37 [(0, .ref (ad 62)), (1, .ref (ad 45)), (2, .int (mI x2)), (3, .int (mI x3)), (4, .int (mI x4)), (5, .int (mI x5)), (6, .int (mI x6)), (7, .int (mI x7))] [] m (L_X4_soonest_37 n q x2 x3 x4 x5 x6 x7 m) := by
  intro q
  induction q with
  | zero => intros; exact zG_none
  | succ q ih => exact T_X4_soonest_37 n (L_X4_soonest_37 n q) ih
set_option maxRecDepth 20000 in
theorem ct_X4_soonest {ad sc sv : Nat → Nat} (n : Nat) (a0 : Int) (a1 : Int) (m : ZMem) (ha0 : R32 a0) (ha1 : R32 a1) : zCT LX ad sc sv M_X4_soonest yX4_soonest [.ref (ad 62), .ref (ad 45), .int (mI a0), .int (mI a1)] m (F_X4_soonest n a0 a1 m) := by
  refine zCT_of (lv := [(0, .ref (ad 62)), (1, .ref (ad 45)), (2, .int (mI a0)), (3, .int (mI a1))]) (by decide) rfl (Nat.le_of_ble_eq_true rfl) rfl ?_
  unfold F_X4_soonest
  refine z_iconst dX4_soonest_0 ?_
  refine z_istore dX4_soonest_1 (lv' := [(4, .int (mI 0)), (0, .ref (ad 62)), (1, .ref (ad 45)), (2, .int (mI a0)), (3, .int (mI a1))]) (by decide) rfl ?_
  refine z_iconst dX4_soonest_3 ?_
  refine z_istore dX4_soonest_4 (lv' := [(5, .int (mI 0)), (4, .int (mI 0)), (0, .ref (ad 62)), (1, .ref (ad 45)), (2, .int (mI a0)), (3, .int (mI a1))]) (by decide) rfl ?_
  refine z_aload_n dX4_soonest_6 2 rfl ?_
  refine z_aload_n dX4_soonest_7 3 rfl ?_
  refine z_iconst dX4_soonest_8 ?_
  refine z_callV1 dX4_soonest_9 rfl (ct_X4_oneBehindTheOther n 1 m (by decide)) zc_X4 lx_62 k_925 k_901 k_902 k_9 k_903 zn_X4_oneBehindTheOther ⟨rfl, rfl, Nat.le_of_ble_eq_true rfl, Nat.le_of_ble_eq_true rfl⟩ (Nat.le_of_ble_eq_true rfl) rfl (fun v1 m2 h3 ho4 => ?_)
  refine z_istore dX4_soonest_12 (lv' := [(6, .int (mI v1)), (5, .int (mI 0)), (4, .int (mI 0)), (0, .ref (ad 62)), (1, .ref (ad 45)), (2, .int (mI a0)), (3, .int (mI a1))]) (by decide) rfl ?_
  refine z_aload_n dX4_soonest_14 3 rfl ?_
  refine z_getR dX4_soonest_15 (k := 0) (j := 63) zc_X4 lx_62 rfl (by decide) k_190 ?_
  refine z_iload_n dX4_soonest_18 5 rfl ?_
  refine z_iconst dX4_soonest_19 ?_
  refine z_callV0 dX4_soonest_20 rfl (ct_X9_reset n 63 zt_63 a0 0 m2 ha0 (by decide)) zc_X9 lx_63 k_904 k_58 k_59 k_3 k_60 zn_X9_reset ⟨rfl, rfl, Nat.le_of_ble_eq_true rfl, Nat.le_of_ble_eq_true rfl⟩ (Nat.le_of_ble_eq_true rfl) rfl (fun v5 m6 ho8 => ?_)
  refine z_aload_n dX4_soonest_23 3 rfl ?_
  refine z_iconst dX4_soonest_24 ?_
  refine z_iload dX4_soonest_25 0 rfl ?_
  refine z_callV0 dX4_soonest_27 rfl (ct_X4_putOn n 0 v1 m6 (by decide) h3) zc_X4 lx_62 k_911 k_913 kp_33 k_9 k_914 zn_X4_putOn ⟨rfl, rfl, Nat.le_of_ble_eq_true rfl, Nat.le_of_ble_eq_true rfl⟩ (Nat.le_of_ble_eq_true rfl) rfl (fun v9 m10 ho12 => ?_)
  refine z_aload_n dX4_soonest_30 4 rfl ?_
  refine z_iload_n dX4_soonest_31 5 rfl ?_
  refine z_callS1 dX4_soonest_32 rfl (ct_X4_waysOf n a0 m10 ha0) k_926 k_927 k_9 k_928 zn_X4_waysOf ⟨rfl, rfl, Nat.le_of_ble_eq_true rfl, Nat.le_of_ble_eq_true rfl⟩ (Nat.le_of_ble_eq_true rfl) rfl (fun v13 m14 h15 ho16 => ?_)
  refine z_istore dX4_soonest_35 (lv' := [(7, .int (mI v13)), (6, .int (mI v1)), (5, .int (mI 0)), (4, .int (mI 0)), (0, .ref (ad 62)), (1, .ref (ad 45)), (2, .int (mI a0)), (3, .int (mI a1))]) (by decide) rfl ?_
  exact zG_lvk (TL_X4_soonest_37 n n a0 a1 0 0 v1 v13 m14 ha0 ha1 (by decide) (by decide) h3 h15) [4, 5, 6, 7, 3, 2, 1, 0] rfl
set_option maxRecDepth 20000 in
theorem T_X4_groupsApart_4 {ad sc sv : Nat → Nat} (n : Nat) (r4 : Int → Int → Int → ZMem → ZR) (hr4 : ∀ (x1 : Int) (x2 : Int) (x3 : Int) (m : ZMem), R32 x1 → R32 x2 → R32 x3 → zG LX ad sc sv M_X4_groupsApart 4 [(0, .ref (ad 45)), (1, .int (mI x1)), (2, .int (mI x2)), (3, .int (mI x3))] [] m (r4 x1 x2 x3 m)) : ∀ (x1 : Int) (x2 : Int) (x3 : Int) (m : ZMem), R32 x1 → R32 x2 → R32 x3 → zG LX ad sc sv M_X4_groupsApart 4 [(0, .ref (ad 45)), (1, .int (mI x1)), (2, .int (mI x2)), (3, .int (mI x3))] [] m (B_X4_groupsApart_4 n r4 x1 x2 x3 m) := by
  intro x1 x2 x3 m hx1 hx2 hx3
  unfold B_X4_groupsApart_4
  refine z_iload_n dX4_groupsApart_4 3 rfl ?_
  refine z_aload_n dX4_groupsApart_5 0 rfl ?_
  refine z_callV1 dX4_groupsApart_6 rfl (ct_X9_size n 45 zt_45 m) zc_X9 lx_45 k_905 k_276 k_277 k_3 k_278 zn_X9_size ⟨rfl, rfl, Nat.le_of_ble_eq_true rfl, Nat.le_of_ble_eq_true rfl⟩ (Nat.le_of_ble_eq_true rfl) rfl (fun v1 m2 h3 ho4 => ?_)
  refine z_icmp_ge dX4_groupsApart_9 hx3 h3 (tgt := 46) rfl (fun h5 => ?_) (fun h5 => ?_)
  · refine z_iload_n dX4_groupsApart_46 2 rfl ?_
    refine z_mabs dX4_groupsApart_47 hx2 k_1014 k_466 k_4 k_467 (Nat.le_of_ble_eq_true rfl) (Nat.le_of_ble_eq_true rfl) (fun h6 => ?_)
    exact z_iret dX4_groupsApart_50 rfl rfl h6
  · refine z_iload_n dX4_groupsApart_12 2 rfl ?_
    refine z_iload_n dX4_groupsApart_13 1 rfl ?_
    refine z_iload_n dX4_groupsApart_14 3 rfl ?_
    refine z_ishr dX4_groupsApart_15 hx1 (fun h7 => ?_)
    refine z_iconst dX4_groupsApart_16 ?_
    refine z_iandm dX4_groupsApart_17 1 (by decide +kernel) (by decide) (fun h8 => ?_)
    refine z_iconst dX4_groupsApart_18 ?_
    refine z_icmp_ne dX4_groupsApart_19 h8 (by decide) (tgt := 31) rfl (fun h9 => ?_) (fun h9 => ?_)
    · refine z_aload_n dX4_groupsApart_22 0 rfl ?_
      refine z_iload_n dX4_groupsApart_23 3 rfl ?_
      refine z_iconst dX4_groupsApart_24 ?_
      refine z_callV1 dX4_groupsApart_25 rfl (ct_X9_at n 45 zt_45 x3 0 m2 hx3 (by decide)) zc_X9 lx_45 k_910 k_264 k_265 k_3 k_266 zn_X9_at ⟨rfl, rfl, Nat.le_of_ble_eq_true rfl, Nat.le_of_ble_eq_true rfl⟩ (Nat.le_of_ble_eq_true rfl) rfl (fun v10 m11 h12 ho13 => ?_)
      refine z_goto dX4_groupsApart_28 (tgt := 38) rfl ?_
      refine z_iadd dX4_groupsApart_38 (fun h14 => ?_)
      refine z_istore_n dX4_groupsApart_39 (lv' := [(2, .int (mI (x2 + v10))), (0, .ref (ad 45)), (1, .int (mI x1)), (3, .int (mI x3))]) (by decide) rfl ?_
      refine z_iinc dX4_groupsApart_40 (lv' := [(3, .int (mI (x3 + 1))), (2, .int (mI (x2 + v10))), (0, .ref (ad 45)), (1, .int (mI x1))]) 3 rfl (by decide) rfl (fun h15 => ?_)
      refine z_goto dX4_groupsApart_43 (tgt := 4) rfl ?_
      exact zG_lvk (hr4 x1 (x2 + v10) (x3 + 1) m11 hx1 h14 h15) [2, 3, 1, 0] rfl
    · refine z_aload_n dX4_groupsApart_31 0 rfl ?_
      refine z_iload_n dX4_groupsApart_32 3 rfl ?_
      refine z_iconst dX4_groupsApart_33 ?_
      refine z_callV1 dX4_groupsApart_34 rfl (ct_X9_at n 45 zt_45 x3 0 m2 hx3 (by decide)) zc_X9 lx_45 k_910 k_264 k_265 k_3 k_266 zn_X9_at ⟨rfl, rfl, Nat.le_of_ble_eq_true rfl, Nat.le_of_ble_eq_true rfl⟩ (Nat.le_of_ble_eq_true rfl) rfl (fun v16 m17 h18 ho19 => ?_)
      refine z_ineg dX4_groupsApart_37 (fun h20 => ?_)
      refine z_iadd dX4_groupsApart_38 (fun h21 => ?_)
      refine z_istore_n dX4_groupsApart_39 (lv' := [(2, .int (mI (x2 + (-v16)))), (0, .ref (ad 45)), (1, .int (mI x1)), (3, .int (mI x3))]) (by decide) rfl ?_
      refine z_iinc dX4_groupsApart_40 (lv' := [(3, .int (mI (x3 + 1))), (2, .int (mI (x2 + (-v16)))), (0, .ref (ad 45)), (1, .int (mI x1))]) 3 rfl (by decide) rfl (fun h22 => ?_)
      refine z_goto dX4_groupsApart_43 (tgt := 4) rfl ?_
      exact zG_lvk (hr4 x1 (x2 + (-v16)) (x3 + 1) m17 hx1 h21 h22) [2, 3, 1, 0] rfl
theorem TL_X4_groupsApart_4 {ad sc sv : Nat → Nat} (n : Nat) : ∀ q : Nat, ∀ (x1 : Int) (x2 : Int) (x3 : Int) (m : ZMem), R32 x1 → R32 x2 → R32 x3 → zG LX ad sc sv M_X4_groupsApart 4 [(0, .ref (ad 45)), (1, .int (mI x1)), (2, .int (mI x2)), (3, .int (mI x3))] [] m (L_X4_groupsApart_4 n q x1 x2 x3 m) := by
  intro q
  induction q with
  | zero => intros; exact zG_none
  | succ q ih => exact T_X4_groupsApart_4 n (L_X4_groupsApart_4 n q) ih
set_option maxRecDepth 20000 in
theorem ct_X4_groupsApart {ad sc sv : Nat → Nat} (n : Nat) (a0 : Int) (m : ZMem) (ha0 : R32 a0) : zCT LX ad sc sv M_X4_groupsApart yX4_groupsApart [.ref (ad 45), .int (mI a0)] m (F_X4_groupsApart n a0 m) := by
  refine zCT_of (lv := [(0, .ref (ad 45)), (1, .int (mI a0))]) (by decide) rfl (Nat.le_of_ble_eq_true rfl) rfl ?_
  unfold F_X4_groupsApart
  refine z_iconst dX4_groupsApart_0 ?_
  refine z_istore_n dX4_groupsApart_1 (lv' := [(2, .int (mI 0)), (0, .ref (ad 45)), (1, .int (mI a0))]) (by decide) rfl ?_
  refine z_iconst dX4_groupsApart_2 ?_
  refine z_istore_n dX4_groupsApart_3 (lv' := [(3, .int (mI 0)), (2, .int (mI 0)), (0, .ref (ad 45)), (1, .int (mI a0))]) (by decide) rfl ?_
  exact zG_lvk (TL_X4_groupsApart_4 n n a0 0 0 m ha0 (by decide) (by decide)) [2, 3, 1, 0] rfl
set_option maxRecDepth 20000 in
theorem T_X4_groupOfFirst_4 {ad sc sv : Nat → Nat} (n : Nat) (r4 : Int → Int → ZMem → ZR) (hr4 : ∀ (x1 : Int) (x2 : Int) (m : ZMem), R32 x1 → R32 x2 → zG LX ad sc sv M_X4_groupOfFirst 4 [(0, .ref (ad 45)), (1, .int (mI x1)), (2, .int (mI x2))] [] m (r4 x1 x2 m)) : ∀ (x1 : Int) (x2 : Int) (m : ZMem), R32 x1 → R32 x2 → zG LX ad sc sv M_X4_groupOfFirst 4 [(0, .ref (ad 45)), (1, .int (mI x1)), (2, .int (mI x2))] [] m (B_X4_groupOfFirst_4 n r4 x1 x2 m) := by
  intro x1 x2 m hx1 hx2
  unfold B_X4_groupOfFirst_4
  refine z_iload_n dX4_groupOfFirst_4 2 rfl ?_
  refine z_iconst dX4_groupOfFirst_5 ?_
  refine z_aload_n dX4_groupOfFirst_6 0 rfl ?_
  refine z_callV1 dX4_groupOfFirst_7 rfl (ct_X9_size n 45 zt_45 m) zc_X9 lx_45 k_905 k_276 k_277 k_3 k_278 zn_X9_size ⟨rfl, rfl, Nat.le_of_ble_eq_true rfl, Nat.le_of_ble_eq_true rfl⟩ (Nat.le_of_ble_eq_true rfl) rfl (fun v1 m2 h3 ho4 => ?_)
  refine z_ishl dX4_groupOfFirst_10 (fun h5 => ?_)
  refine z_icmp_ge dX4_groupOfFirst_11 hx2 h5 (tgt := 35) rfl (fun h6 => ?_) (fun h6 => ?_)
  · refine z_iload_n dX4_groupOfFirst_35 1 rfl ?_
    exact z_iret dX4_groupOfFirst_36 rfl rfl hx1
  · refine z_aload_n dX4_groupOfFirst_14 0 rfl ?_
    refine z_iload_n dX4_groupOfFirst_15 2 rfl ?_
    refine z_callS1 dX4_groupOfFirst_16 rfl (ct_X4_groupsApart n x2 m2 hx2) k_1011 k_1012 k_9 k_1013 zn_X4_groupsApart ⟨rfl, rfl, Nat.le_of_ble_eq_true rfl, Nat.le_of_ble_eq_true rfl⟩ (Nat.le_of_ble_eq_true rfl) rfl (fun v7 m8 h9 ho10 => ?_)
    refine z_aload_n dX4_groupOfFirst_19 0 rfl ?_
    refine z_iload_n dX4_groupOfFirst_20 1 rfl ?_
    refine z_callS1 dX4_groupOfFirst_21 rfl (ct_X4_groupsApart n x1 m8 hx1) k_1011 k_1012 k_9 k_1013 zn_X4_groupsApart ⟨rfl, rfl, Nat.le_of_ble_eq_true rfl, Nat.le_of_ble_eq_true rfl⟩ (Nat.le_of_ble_eq_true rfl) rfl (fun v11 m12 h13 ho14 => ?_)
    refine z_icmp_ge dX4_groupOfFirst_24 h9 h13 (tgt := 29) rfl (fun h15 => ?_) (fun h15 => ?_)
    · refine z_iinc dX4_groupOfFirst_29 (lv' := [(2, .int (mI (x2 + 2))), (0, .ref (ad 45)), (1, .int (mI x1))]) 2 rfl (by decide) rfl (fun h16 => ?_)
      refine z_goto dX4_groupOfFirst_32 (tgt := 4) rfl ?_
      exact zG_lvk (hr4 x1 (x2 + 2) m12 hx1 h16) [1, 2, 0] rfl
    · refine z_iload_n dX4_groupOfFirst_27 2 rfl ?_
      refine z_istore_n dX4_groupOfFirst_28 (lv' := [(1, .int (mI x2)), (0, .ref (ad 45)), (2, .int (mI x2))]) (by decide) rfl ?_
      refine z_iinc dX4_groupOfFirst_29 (lv' := [(2, .int (mI (x2 + 2))), (1, .int (mI x2)), (0, .ref (ad 45))]) 2 rfl (by decide) rfl (fun h17 => ?_)
      refine z_goto dX4_groupOfFirst_32 (tgt := 4) rfl ?_
      exact zG_lvk (hr4 x2 (x2 + 2) m12 hx2 h17) [2, 1, 0] rfl
theorem TL_X4_groupOfFirst_4 {ad sc sv : Nat → Nat} (n : Nat) : ∀ q : Nat, ∀ (x1 : Int) (x2 : Int) (m : ZMem), R32 x1 → R32 x2 → zG LX ad sc sv M_X4_groupOfFirst 4 [(0, .ref (ad 45)), (1, .int (mI x1)), (2, .int (mI x2))] [] m (L_X4_groupOfFirst_4 n q x1 x2 m) := by
  intro q
  induction q with
  | zero => intros; exact zG_none
  | succ q ih => exact T_X4_groupOfFirst_4 n (L_X4_groupOfFirst_4 n q) ih
set_option maxRecDepth 20000 in
theorem ct_X4_groupOfFirst {ad sc sv : Nat → Nat} (n : Nat) (m : ZMem) : zCT LX ad sc sv M_X4_groupOfFirst yX4_groupOfFirst [.ref (ad 45)] m (F_X4_groupOfFirst n m) := by
  refine zCT_of (lv := [(0, .ref (ad 45))]) (by decide) rfl (Nat.le_of_ble_eq_true rfl) rfl ?_
  unfold F_X4_groupOfFirst
  refine z_iconst dX4_groupOfFirst_0 ?_
  refine z_istore_n dX4_groupOfFirst_1 (lv' := [(1, .int (mI 1)), (0, .ref (ad 45))]) (by decide) rfl ?_
  refine z_iconst dX4_groupOfFirst_2 ?_
  refine z_istore_n dX4_groupOfFirst_3 (lv' := [(2, .int (mI 3)), (1, .int (mI 1)), (0, .ref (ad 45))]) (by decide) rfl ?_
  exact zG_lvk (TL_X4_groupOfFirst_4 n n 1 3 m (by decide) (by decide)) [2, 1, 0] rfl
set_option maxRecDepth 20000 in
theorem ct_X5_comes {ad sc sv : Nat → Nat} (n : Nat) (a0 : Int) (a1 : Int) (a2 : Int) (m : ZMem) (ha0 : R32 a0) (ha1 : R32 a1) (ha2 : R32 a2) : zCT LX ad sc sv M_X5_comes yX5_comes [.ref (ad 54), .int (mI a0), .int (mI a1), .int (mI a2)] m (F_X5_comes n a0 a1 a2 m) := by
  refine zCT_of (lv := [(0, .ref (ad 54)), (1, .int (mI a0)), (2, .int (mI a1)), (3, .int (mI a2))]) (by decide) rfl (Nat.le_of_ble_eq_true rfl) rfl ?_
  unfold F_X5_comes
  refine z_aload_n dX5_comes_0 0 rfl ?_
  refine z_getR dX5_comes_1 (k := 1) (j := 57) zc_X5 lx_54 rfl (by decide) k_164 ?_
  refine z_iload_n dX5_comes_4 1 rfl ?_
  refine z_iconst dX5_comes_5 ?_
  refine z_callV1 dX5_comes_6 rfl (ct_X9_at n 57 zt_57 a0 0 m ha0 (by decide)) zc_X9 lx_57 k_688 k_264 k_265 k_3 k_266 zn_X9_at ⟨rfl, rfl, Nat.le_of_ble_eq_true rfl, Nat.le_of_ble_eq_true rfl⟩ (Nat.le_of_ble_eq_true rfl) rfl (fun v1 m2 h3 ho4 => ?_)
  refine z_bipush dX5_comes_9 (x := (-9)) (by decide +kernel) ?_
  refine z_icmp_ne dX5_comes_11 h3 (by decide) (tgt := 43) rfl (fun h5 => ?_) (fun h5 => ?_)
  · refine z_aload_n dX5_comes_14 0 rfl ?_
    refine z_getR dX5_comes_15 (k := 1) (j := 57) zc_X5 lx_54 rfl (by decide) k_164 ?_
    refine z_iload_n dX5_comes_18 1 rfl ?_
    refine z_iconst dX5_comes_19 ?_
    refine z_iload_n dX5_comes_20 2 rfl ?_
    refine z_callV0 dX5_comes_21 rfl (ct_X9_put n 57 zt_57 a0 0 a1 m2 ha0 (by decide) ha1) zc_X9 lx_57 k_689 k_268 k_269 k_3 k_270 zn_X9_put ⟨rfl, rfl, Nat.le_of_ble_eq_true rfl, Nat.le_of_ble_eq_true rfl⟩ (Nat.le_of_ble_eq_true rfl) rfl (fun v6 m7 ho9 => ?_)
    refine z_aload_n dX5_comes_24 0 rfl ?_
    refine z_getR dX5_comes_25 (k := 1) (j := 57) zc_X5 lx_54 rfl (by decide) k_164 ?_
    refine z_iload_n dX5_comes_28 1 rfl ?_
    refine z_iconst dX5_comes_29 ?_
    refine z_iload_n dX5_comes_30 3 rfl ?_
    refine z_callV0 dX5_comes_31 rfl (ct_X9_put n 57 zt_57 a0 1 a2 m7 ha0 (by decide) ha2) zc_X9 lx_57 k_689 k_268 k_269 k_3 k_270 zn_X9_put ⟨rfl, rfl, Nat.le_of_ble_eq_true rfl, Nat.le_of_ble_eq_true rfl⟩ (Nat.le_of_ble_eq_true rfl) rfl (fun v10 m11 ho13 => ?_)
    refine z_aload_n dX5_comes_34 0 rfl ?_
    refine z_getR dX5_comes_35 (k := 0) (j := 55) zc_X5 lx_54 rfl (by decide) k_163 ?_
    refine z_iload_n dX5_comes_38 1 rfl ?_
    refine z_callV1 dX5_comes_39 rfl (ct_X9_add n 55 zt_55 a0 m11 ha0) zc_X9 lx_55 k_690 k_272 k_273 k_3 k_274 zn_X9_add ⟨rfl, rfl, Nat.le_of_ble_eq_true rfl, Nat.le_of_ble_eq_true rfl⟩ (Nat.le_of_ble_eq_true rfl) rfl (fun v14 m15 h16 ho17 => ?_)
    refine z_pop dX5_comes_42 rfl ?_
    exact z_vret dX5_comes_43 rfl rfl
  · exact z_vret dX5_comes_43 rfl rfl
set_option maxRecDepth 20000 in
theorem ct_X5_unit {ad sc sv : Nat → Nat} (n : Nat) (a0 : Int) (m : ZMem) (ha0 : R32 a0) : zCT LX ad sc sv M_X5_unit yX5_unit [.int (mI a0)] m (F_X5_unit n a0 m) := by
  refine zCT_of (lv := [(0, .int (mI a0))]) (by decide) rfl (Nat.le_of_ble_eq_true rfl) rfl ?_
  unfold F_X5_unit
  refine z_iload_n dX5_unit_0 0 rfl ?_
  refine z_if_ne dX5_unit_1 ha0 (tgt := 8) rfl (fun h1 => ?_) (fun h1 => ?_)
  · refine z_iconst dX5_unit_4 ?_
    refine z_goto dX5_unit_5 (tgt := 21) rfl ?_
    exact z_iret dX5_unit_21 rfl rfl (by decide)
  · refine z_iload_n dX5_unit_8 0 rfl ?_
    refine z_iconst dX5_unit_9 ?_
    refine z_icmp_ne dX5_unit_10 ha0 (by decide) (tgt := 18) rfl (fun h2 => ?_) (fun h2 => ?_)
    · refine z_bipush dX5_unit_13 (x := 13) (by decide +kernel) ?_
      refine z_goto dX5_unit_15 (tgt := 21) rfl ?_
      exact z_iret dX5_unit_21 rfl rfl (by decide)
    · refine z_sipush dX5_unit_18 (x := 169) (by decide +kernel) ?_
      exact z_iret dX5_unit_21 rfl rfl (by decide)
set_option maxRecDepth 20000 in
theorem ct_X8_cut {ad sc sv : Nat → Nat} (n : Nat) (a0 : Int) (a1 : Int) (m : ZMem) (ha0 : R32 a0) (ha1 : R32 a1) : zCT LX ad sc sv M_X8_cut yX8_cut [.int (mI a0), .int (mI a1)] m (F_X8_cut n a0 a1 m) := by
  refine zCT_of (lv := [(0, .int (mI a0)), (1, .int (mI a1))]) (by decide) rfl (Nat.le_of_ble_eq_true rfl) rfl ?_
  unfold F_X8_cut
  refine z_iload_n dX8_cut_0 1 rfl ?_
  refine z_iconst dX8_cut_1 ?_
  refine z_icmp_ge dX8_cut_2 ha1 (by decide) (tgt := 9) rfl (fun h1 => ?_) (fun h1 => ?_)
  · refine z_iload_n dX8_cut_9 0 rfl ?_
    refine z_iload_n dX8_cut_10 1 rfl ?_
    refine z_idiv dX8_cut_11 ha0 ha1 (fun h2 => ?_)
    exact z_iret dX8_cut_12 rfl rfl h2
  · refine z_iconst dX8_cut_5 ?_
    refine z_goto dX8_cut_6 (tgt := 12) rfl ?_
    exact z_iret dX8_cut_12 rfl rfl (by decide)
set_option maxRecDepth 20000 in
theorem ct_X5_levelOf {ad sc sv : Nat → Nat} (n : Nat) (a0 : Int) (a1 : Int) (m : ZMem) (ha0 : R32 a0) (ha1 : R32 a1) : zCT LX ad sc sv M_X5_levelOf yX5_levelOf [.int (mI a0), .int (mI a1)] m (F_X5_levelOf n a0 a1 m) := by
  refine zCT_of (lv := [(0, .int (mI a0)), (1, .int (mI a1))]) (by decide) rfl (Nat.le_of_ble_eq_true rfl) rfl ?_
  unfold F_X5_levelOf
  refine z_iload_n dX5_levelOf_0 0 rfl ?_
  refine z_iload_n dX5_levelOf_1 1 rfl ?_
  refine z_callS1 dX5_levelOf_2 rfl (ct_X5_unit n a1 m ha1) k_699 k_700 k_7 k_701 zn_X5_unit ⟨rfl, rfl, Nat.le_of_ble_eq_true rfl, Nat.le_of_ble_eq_true rfl⟩ (Nat.le_of_ble_eq_true rfl) rfl (fun v1 m2 h3 ho4 => ?_)
  refine z_callS1 dX5_levelOf_5 rfl (ct_X8_cut n a0 v1 m2 ha0 h3) k_702 k_522 k_15 k_523 zn_X8_cut ⟨rfl, rfl, Nat.le_of_ble_eq_true rfl, Nat.le_of_ble_eq_true rfl⟩ (Nat.le_of_ble_eq_true rfl) rfl (fun v5 m6 h7 ho8 => ?_)
  refine z_bipush dX5_levelOf_8 (x := 13) (by decide +kernel) ?_
  refine z_irem dX5_levelOf_10 h7 (by decide) (fun h9 => ?_)
  exact z_iret dX5_levelOf_11 rfl rfl h9
set_option maxRecDepth 20000 in
theorem T_X5_goOnFrom_56 {ad sc sv : Nat → Nat} (n : Nat) (r56 : Int → Int → Int → Int → ZMem → ZR) (hr56 : ∀ (x1 : Int) (x2 : Int) (x4 : Int) (x6 : Int) (m : ZMem), R32 x1 → R32 x2 → R32 x4 → R32 x6 → zG LX ad sc sv M_X5_goOnFrom 56 [(0, .ref (ad 54)), (1, .int (mI x1)), (2, .int (mI x2)), (3, .ref (ad 8)), (4, .int (mI x4)), (6, .int (mI x6))] [] m (r56 x1 x2 x4 x6 m)) : ∀ (x1 : Int) (x2 : Int) (x4 : Int) (x6 : Int) (m : ZMem), R32 x1 → R32 x2 → R32 x4 → R32 x6 → zG LX ad sc sv M_X5_goOnFrom 56 [(0, .ref (ad 54)), (1, .int (mI x1)), (2, .int (mI x2)), (3, .ref (ad 8)), (4, .int (mI x4)), (6, .int (mI x6))] [] m (B_X5_goOnFrom_56 n r56 x1 x2 x4 x6 m) := by
  intro x1 x2 x4 x6 m hx1 hx2 hx4 hx6
  unfold B_X5_goOnFrom_56
  refine z_iload dX5_goOnFrom_56 5 rfl ?_
  refine z_iconst dX5_goOnFrom_58 ?_
  refine z_icmp_ge dX5_goOnFrom_59 hx6 (by decide) (tgt := 133) rfl (fun h31 => ?_) (fun h31 => ?_)
  · exact z_vret dX5_goOnFrom_133 rfl rfl
  · refine z_iload dX5_goOnFrom_62 5 rfl ?_
    refine z_iload_n dX5_goOnFrom_64 2 rfl ?_
    refine z_icmp_eq dX5_goOnFrom_65 hx6 hx2 (tgt := 127) rfl (fun h32 => ?_) (fun h32 => ?_)
    · refine z_iinc dX5_goOnFrom_127 (lv' := [(6, .int (mI (x6 + 1))), (0, .ref (ad 54)), (1, .int (mI x1)), (2, .int (mI x2)), (3, .ref (ad 8)), (4, .int (mI x4))]) 5 rfl (by decide) rfl (fun h33 => ?_)
      refine z_goto dX5_goOnFrom_130 (tgt := 56) rfl ?_
      exact zG_lvk (hr56 x1 x2 x4 (x6 + 1) m hx1 hx2 hx4 h33) [1, 2, 3, 4, 5, 0] rfl
    · refine z_iload dX5_goOnFrom_68 4 rfl ?_
      refine z_aload_n dX5_goOnFrom_70 3 rfl ?_
      refine z_iload dX5_goOnFrom_71 5 rfl ?_
      refine z_iconst dX5_goOnFrom_73 ?_
      refine z_callV1 dX5_goOnFrom_74 rfl (ct_X9_at n 8 zt_8 x6 0 m hx6 (by decide)) zc_X9 lx_8 k_688 k_264 k_265 k_3 k_266 zn_X9_at ⟨rfl, rfl, Nat.le_of_ble_eq_true rfl, Nat.le_of_ble_eq_true rfl⟩ (Nat.le_of_ble_eq_true rfl) rfl (fun v34 m35 h36 ho37 => ?_)
      refine z_iload_n dX5_goOnFrom_77 1 rfl ?_
      refine z_iload dX5_goOnFrom_78 5 rfl ?_
      refine z_callS1 dX5_goOnFrom_80 rfl (ct_X5_levelOf n x1 x6 m35 hx1 hx6) k_696 k_697 k_7 k_698 zn_X5_levelOf ⟨rfl, rfl, Nat.le_of_ble_eq_true rfl, Nat.le_of_ble_eq_true rfl⟩ (Nat.le_of_ble_eq_true rfl) rfl (fun v38 m39 h40 ho41 => ?_)
      refine z_isub dX5_goOnFrom_83 (fun h42 => ?_)
      refine z_mmin dX5_goOnFrom_84 hx4 h42 k_703 k_62 k_4 k_63 (Nat.le_of_ble_eq_true rfl) (Nat.le_of_ble_eq_true rfl) (fun h43 => ?_)
      refine z_istore dX5_goOnFrom_87 (lv' := [(7, .int (mI (min x4 (v34 - v38)))), (0, .ref (ad 54)), (1, .int (mI x1)), (2, .int (mI x2)), (3, .ref (ad 8)), (4, .int (mI x4)), (6, .int (mI x6))]) (by decide) rfl ?_
      refine z_iload_n dX5_goOnFrom_89 2 rfl ?_
      refine z_iload dX5_goOnFrom_90 0 rfl ?_
      refine z_iload_n dX5_goOnFrom_92 3 rfl ?_
      refine z_callS1 dX5_goOnFrom_93 rfl (ct_X5_unit n x2 m39 hx2) k_699 k_700 k_7 k_701 zn_X5_unit ⟨rfl, rfl, Nat.le_of_ble_eq_true rfl, Nat.le_of_ble_eq_true rfl⟩ (Nat.le_of_ble_eq_true rfl) rfl (fun v44 m45 h46 ho47 => ?_)
      refine z_imul dX5_goOnFrom_96 (fun h48 => ?_)
      refine z_isub dX5_goOnFrom_97 (fun h49 => ?_)
      refine z_iload dX5_goOnFrom_98 0 rfl ?_
      refine z_iload dX5_goOnFrom_100 6 rfl ?_
      refine z_callS1 dX5_goOnFrom_102 rfl (ct_X5_unit n x6 m45 hx6) k_699 k_700 k_7 k_701 zn_X5_unit ⟨rfl, rfl, Nat.le_of_ble_eq_true rfl, Nat.le_of_ble_eq_true rfl⟩ (Nat.le_of_ble_eq_true rfl) rfl (fun v50 m51 h52 ho53 => ?_)
      refine z_imul dX5_goOnFrom_105 (fun h54 => ?_)
      refine z_iadd dX5_goOnFrom_106 (fun h55 => ?_)
      refine z_istore dX5_goOnFrom_107 (lv' := [(8, .int (mI ((x1 - ((min x4 (v34 - v38)) * v44)) + ((min x4 (v34 - v38)) * v50)))), (7, .int (mI (min x4 (v34 - v38)))), (0, .ref (ad 54)), (1, .int (mI x1)), (2, .int (mI x2)), (3, .ref (ad 8)), (4, .int (mI x4)), (6, .int (mI x6))]) (by decide) rfl ?_
      refine z_aload_n dX5_goOnFrom_109 2 rfl ?_
      refine z_iload dX5_goOnFrom_110 0 rfl ?_
      refine z_iload_n dX5_goOnFrom_112 3 rfl ?_
      refine z_sipush dX5_goOnFrom_113 (x := 300) (by decide +kernel) ?_
      refine z_bipush dX5_goOnFrom_116 (x := 10) (by decide +kernel) ?_
      refine z_iload dX5_goOnFrom_118 7 rfl ?_
      refine z_imul dX5_goOnFrom_120 (fun h56 => ?_)
      refine z_iadd dX5_goOnFrom_121 (fun h57 => ?_)
      refine z_iload_n dX5_goOnFrom_122 4 rfl ?_
      refine z_iadd dX5_goOnFrom_123 (fun h58 => ?_)
      refine z_callV0 dX5_goOnFrom_124 rfl (ct_X5_comes n ((x1 - ((min x4 (v34 - v38)) * v44)) + ((min x4 (v34 - v38)) * v50)) x1 ((300 + (10 * x6)) + x2) m51 h55 hx1 h58) zc_X5 lx_54 k_684 k_686 kp_24 k_7 k_687 zn_X5_comes ⟨rfl, rfl, Nat.le_of_ble_eq_true rfl, Nat.le_of_ble_eq_true rfl⟩ (Nat.le_of_ble_eq_true rfl) rfl (fun v59 m60 ho62 => ?_)
      refine z_iinc dX5_goOnFrom_127 (lv' := [(6, .int (mI (x6 + 1))), (8, .int (mI ((x1 - ((min x4 (v34 - v38)) * v44)) + ((min x4 (v34 - v38)) * v50)))), (7, .int (mI (min x4 (v34 - v38)))), (0, .ref (ad 54)), (1, .int (mI x1)), (2, .int (mI x2)), (3, .ref (ad 8)), (4, .int (mI x4))]) 7 rfl (by decide) rfl (fun h63 => ?_)
      refine z_goto dX5_goOnFrom_130 (tgt := 56) rfl ?_
      exact zG_lvk (hr56 x1 x2 x4 (x6 + 1) m60 hx1 hx2 hx4 h63) [3, 4, 5, 6, 7, 0] rfl
theorem TL_X5_goOnFrom_56 {ad sc sv : Nat → Nat} (n : Nat) : ∀ q : Nat, ∀ (x1 : Int) (x2 : Int) (x4 : Int) (x6 : Int) (m : ZMem), R32 x1 → R32 x2 → R32 x4 → R32 x6 → zG LX ad sc sv M_X5_goOnFrom 56 [(0, .ref (ad 54)), (1, .int (mI x1)), (2, .int (mI x2)), (3, .ref (ad 8)), (4, .int (mI x4)), (6, .int (mI x6))] [] m (L_X5_goOnFrom_56 n q x1 x2 x4 x6 m) := by
  intro q
  induction q with
  | zero => intros; exact zG_none
  | succ q ih => exact T_X5_goOnFrom_56 n (L_X5_goOnFrom_56 n q) ih
set_option maxRecDepth 20000 in
theorem ct_X5_goOnFrom {ad sc sv : Nat → Nat} (n : Nat) (a0 : Int) (a1 : Int) (m : ZMem) (ha0 : R32 a0) (ha1 : R32 a1) : zCT LX ad sc sv M_X5_goOnFrom yX5_goOnFrom [.ref (ad 54), .int (mI a0), .int (mI a1), .ref (ad 8)] m (F_X5_goOnFrom n a0 a1 m) := by
  refine zCT_of (lv := [(0, .ref (ad 54)), (1, .int (mI a0)), (2, .int (mI a1)), (3, .ref (ad 8))]) (by decide) rfl (Nat.le_of_ble_eq_true rfl) rfl ?_
  unfold F_X5_goOnFrom
  refine z_iload_n dX5_goOnFrom_0 1 rfl ?_
  refine z_iload_n dX5_goOnFrom_1 2 rfl ?_
  refine z_callS1 dX5_goOnFrom_2 rfl (ct_X5_levelOf n a0 a1 m ha0 ha1) k_696 k_697 k_7 k_698 zn_X5_levelOf ⟨rfl, rfl, Nat.le_of_ble_eq_true rfl, Nat.le_of_ble_eq_true rfl⟩ (Nat.le_of_ble_eq_true rfl) rfl (fun v1 m2 h3 ho4 => ?_)
  refine z_istore dX5_goOnFrom_5 (lv' := [(4, .int (mI v1)), (0, .ref (ad 54)), (1, .int (mI a0)), (2, .int (mI a1)), (3, .ref (ad 8))]) (by decide) rfl ?_
  refine z_iload_n dX5_goOnFrom_7 2 rfl ?_
  refine z_iload dX5_goOnFrom_8 0 rfl ?_
  refine z_iload_n dX5_goOnFrom_10 3 rfl ?_
  refine z_callS1 dX5_goOnFrom_11 rfl (ct_X5_unit n a1 m2 ha1) k_699 k_700 k_7 k_701 zn_X5_unit ⟨rfl, rfl, Nat.le_of_ble_eq_true rfl, Nat.le_of_ble_eq_true rfl⟩ (Nat.le_of_ble_eq_true rfl) rfl (fun v5 m6 h7 ho8 => ?_)
  refine z_imul dX5_goOnFrom_14 (fun h9 => ?_)
  refine z_isub dX5_goOnFrom_15 (fun h10 => ?_)
  refine z_istore dX5_goOnFrom_16 (lv' := [(5, .int (mI (a0 - (v1 * v5)))), (4, .int (mI v1)), (0, .ref (ad 54)), (1, .int (mI a0)), (2, .int (mI a1)), (3, .ref (ad 8))]) (by decide) rfl ?_
  refine z_aload_n dX5_goOnFrom_18 2 rfl ?_
  refine z_iload dX5_goOnFrom_19 0 rfl ?_
  refine z_aload_n dX5_goOnFrom_21 5 rfl ?_
  refine z_iload_n dX5_goOnFrom_22 4 rfl ?_
  refine z_iconst dX5_goOnFrom_23 ?_
  refine z_callV1 dX5_goOnFrom_24 rfl (ct_X9_at n 8 zt_8 a1 0 m6 ha1 (by decide)) zc_X9 lx_8 k_688 k_264 k_265 k_3 k_266 zn_X9_at ⟨rfl, rfl, Nat.le_of_ble_eq_true rfl, Nat.le_of_ble_eq_true rfl⟩ (Nat.le_of_ble_eq_true rfl) rfl (fun v11 m12 h13 ho14 => ?_)
  refine z_iload_n dX5_goOnFrom_27 4 rfl ?_
  refine z_callS1 dX5_goOnFrom_28 rfl (ct_X5_unit n a1 m12 ha1) k_699 k_700 k_7 k_701 zn_X5_unit ⟨rfl, rfl, Nat.le_of_ble_eq_true rfl, Nat.le_of_ble_eq_true rfl⟩ (Nat.le_of_ble_eq_true rfl) rfl (fun v15 m16 h17 ho18 => ?_)
  refine z_imul dX5_goOnFrom_31 (fun h19 => ?_)
  refine z_iadd dX5_goOnFrom_32 (fun h20 => ?_)
  refine z_iload_n dX5_goOnFrom_33 3 rfl ?_
  refine z_bipush dX5_goOnFrom_34 (x := 100) (by decide +kernel) ?_
  refine z_iload_n dX5_goOnFrom_36 4 rfl ?_
  refine z_iadd dX5_goOnFrom_37 (fun h21 => ?_)
  refine z_callV0 dX5_goOnFrom_38 rfl (ct_X5_comes n ((a0 - (v1 * v5)) + (v11 * v15)) a0 (100 + a1) m16 h20 ha0 h21) zc_X5 lx_54 k_684 k_686 kp_24 k_7 k_687 zn_X5_comes ⟨rfl, rfl, Nat.le_of_ble_eq_true rfl, Nat.le_of_ble_eq_true rfl⟩ (Nat.le_of_ble_eq_true rfl) rfl (fun v22 m23 ho25 => ?_)
  refine z_aload_n dX5_goOnFrom_41 2 rfl ?_
  refine z_iload dX5_goOnFrom_42 0 rfl ?_
  refine z_iload_n dX5_goOnFrom_44 3 rfl ?_
  refine z_sipush dX5_goOnFrom_45 (x := 200) (by decide +kernel) ?_
  refine z_iload_n dX5_goOnFrom_48 4 rfl ?_
  refine z_iadd dX5_goOnFrom_49 (fun h26 => ?_)
  refine z_callV0 dX5_goOnFrom_50 rfl (ct_X5_comes n (a0 - (v1 * v5)) a0 (200 + a1) m23 h10 ha0 h26) zc_X5 lx_54 k_684 k_686 kp_24 k_7 k_687 zn_X5_comes ⟨rfl, rfl, Nat.le_of_ble_eq_true rfl, Nat.le_of_ble_eq_true rfl⟩ (Nat.le_of_ble_eq_true rfl) rfl (fun v27 m28 ho30 => ?_)
  refine z_iconst dX5_goOnFrom_53 ?_
  refine z_istore dX5_goOnFrom_54 (lv' := [(6, .int (mI 0)), (5, .int (mI (a0 - (v1 * v5)))), (4, .int (mI v1)), (0, .ref (ad 54)), (1, .int (mI a0)), (2, .int (mI a1)), (3, .ref (ad 8))]) (by decide) rfl ?_
  exact zG_lvk (TL_X5_goOnFrom_56 n n a0 a1 v1 0 m28 ha0 ha1 h3 (by decide)) [3, 4, 5, 6, 2, 0] rfl
set_option maxRecDepth 20000 in
theorem T_X5_seekAll_50 {ad sc sv : Nat → Nat} (n : Nat) (r30 : Int → ZMem → ZR) (r50 : Int → Int → ZMem → ZR) (hr30 : ∀ (x2 : Int) (m : ZMem), R32 x2 → zG LX ad sc sv M_X5_seekAll 30 [(0, .ref (ad 54)), (1, .ref (ad 8)), (2, .int (mI x2))] [] m (r30 x2 m)) (hr50 : ∀ (x2 : Int) (x3 : Int) (m : ZMem), R32 x2 → R32 x3 → zG LX ad sc sv M_X5_seekAll 50 [(0, .ref (ad 54)), (1, .ref (ad 8)), (2, .int (mI x2)), (3, .int (mI x3))] [] m (r50 x2 x3 m)) : ∀ (x2 : Int) (x3 : Int) (m : ZMem), R32 x2 → R32 x3 → zG LX ad sc sv M_X5_seekAll 50 [(0, .ref (ad 54)), (1, .ref (ad 8)), (2, .int (mI x2)), (3, .int (mI x3))] [] m (B_X5_seekAll_50 n r30 r50 x2 x3 m) := by
  intro x2 x3 m hx2 hx3
  unfold B_X5_seekAll_50
  refine z_iload_n dX5_seekAll_50 3 rfl ?_
  refine z_iconst dX5_seekAll_51 ?_
  refine z_icmp_ge dX5_seekAll_52 hx3 (by decide) (tgt := 76) rfl (fun h19 => ?_) (fun h19 => ?_)
  · refine z_iinc dX5_seekAll_76 (lv' := [(2, .int (mI (x2 + 1))), (0, .ref (ad 54)), (1, .ref (ad 8)), (3, .int (mI x3))]) 2 rfl (by decide) rfl (fun h20 => ?_)
    refine z_goto dX5_seekAll_79 (tgt := 30) rfl ?_
    exact zG_lvk (hr30 (x2 + 1) m h20) [1, 2, 0] rfl
  · refine z_aload_n dX5_seekAll_55 0 rfl ?_
    refine z_aload_n dX5_seekAll_56 0 rfl ?_
    refine z_getR dX5_seekAll_57 (k := 0) (j := 55) zc_X5 lx_54 rfl (by decide) k_163 ?_
    refine z_iload_n dX5_seekAll_60 2 rfl ?_
    refine z_iconst dX5_seekAll_61 ?_
    refine z_callV1 dX5_seekAll_62 rfl (ct_X9_at n 55 zt_55 x2 0 m hx2 (by decide)) zc_X9 lx_55 k_688 k_264 k_265 k_3 k_266 zn_X9_at ⟨rfl, rfl, Nat.le_of_ble_eq_true rfl, Nat.le_of_ble_eq_true rfl⟩ (Nat.le_of_ble_eq_true rfl) rfl (fun v21 m22 h23 ho24 => ?_)
    refine z_iload_n dX5_seekAll_65 3 rfl ?_
    refine z_aload_n dX5_seekAll_66 1 rfl ?_
    refine z_callV0 dX5_seekAll_67 rfl (ct_X5_goOnFrom n v21 x3 m22 h23 hx3) zc_X5 lx_54 k_692 k_694 kp_25 k_7 k_695 zn_X5_goOnFrom ⟨rfl, rfl, Nat.le_of_ble_eq_true rfl, Nat.le_of_ble_eq_true rfl⟩ (Nat.le_of_ble_eq_true rfl) rfl (fun v25 m26 ho28 => ?_)
    refine z_iinc dX5_seekAll_70 (lv' := [(3, .int (mI (x3 + 1))), (0, .ref (ad 54)), (1, .ref (ad 8)), (2, .int (mI x2))]) 3 rfl (by decide) rfl (fun h29 => ?_)
    refine z_goto dX5_seekAll_73 (tgt := 50) rfl ?_
    exact zG_lvk (hr50 x2 (x3 + 1) m26 hx2 h29) [1, 2, 3, 0] rfl
theorem TL_X5_seekAll_50 {ad sc sv : Nat → Nat} (n : Nat) (r30 : Int → ZMem → ZR) (hr30 : ∀ (x2 : Int) (m : ZMem), R32 x2 → zG LX ad sc sv M_X5_seekAll 30 [(0, .ref (ad 54)), (1, .ref (ad 8)), (2, .int (mI x2))] [] m (r30 x2 m)) : ∀ q : Nat, ∀ (x2 : Int) (x3 : Int) (m : ZMem), R32 x2 → R32 x3 → zG LX ad sc sv M_X5_seekAll 50 [(0, .ref (ad 54)), (1, .ref (ad 8)), (2, .int (mI x2)), (3, .int (mI x3))] [] m (L_X5_seekAll_50 n r30 q x2 x3 m) := by
  intro q
  induction q with
  | zero => intros; exact zG_none
  | succ q ih => exact T_X5_seekAll_50 n r30 (L_X5_seekAll_50 n r30 q) hr30 ih
set_option maxRecDepth 20000 in
theorem T_X5_seekAll_30 {ad sc sv : Nat → Nat} (n : Nat) (r30 : Int → ZMem → ZR) (hr30 : ∀ (x2 : Int) (m : ZMem), R32 x2 → zG LX ad sc sv M_X5_seekAll 30 [(0, .ref (ad 54)), (1, .ref (ad 8)), (2, .int (mI x2))] [] m (r30 x2 m)) : ∀ (x2 : Int) (m : ZMem), R32 x2 → zG LX ad sc sv M_X5_seekAll 30 [(0, .ref (ad 54)), (1, .ref (ad 8)), (2, .int (mI x2))] [] m (B_X5_seekAll_30 n r30 x2 m) := by
  intro x2 m hx2
  unfold B_X5_seekAll_30
  refine z_iload_n dX5_seekAll_30 2 rfl ?_
  refine z_sipush dX5_seekAll_31 (x := 2197) (by decide +kernel) ?_
  refine z_icmp_ge dX5_seekAll_34 hx2 (by decide) (tgt := 82) rfl (fun h13 => ?_) (fun h13 => ?_)
  · exact z_vret dX5_seekAll_82 rfl rfl
  · refine z_iload_n dX5_seekAll_37 2 rfl ?_
    refine z_aload_n dX5_seekAll_38 0 rfl ?_
    refine z_getR dX5_seekAll_39 (k := 0) (j := 55) zc_X5 lx_54 rfl (by decide) k_163 ?_
    refine z_callV1 dX5_seekAll_42 rfl (ct_X9_size n 55 zt_55 m) zc_X9 lx_55 k_691 k_276 k_277 k_3 k_278 zn_X9_size ⟨rfl, rfl, Nat.le_of_ble_eq_true rfl, Nat.le_of_ble_eq_true rfl⟩ (Nat.le_of_ble_eq_true rfl) rfl (fun v14 m15 h16 ho17 => ?_)
    refine z_icmp_ge dX5_seekAll_45 hx2 h16 (tgt := 82) rfl (fun h18 => ?_) (fun h18 => ?_)
    · exact z_vret dX5_seekAll_82 rfl rfl
    · refine z_iconst dX5_seekAll_48 ?_
      refine z_istore_n dX5_seekAll_49 (lv' := [(3, .int (mI 0)), (0, .ref (ad 54)), (1, .ref (ad 8)), (2, .int (mI x2))]) (by decide) rfl ?_
      exact zG_lvk (TL_X5_seekAll_50 n r30 hr30 n x2 0 m15 hx2 (by decide)) [1, 2, 3, 0] rfl
theorem TL_X5_seekAll_30 {ad sc sv : Nat → Nat} (n : Nat) : ∀ q : Nat, ∀ (x2 : Int) (m : ZMem), R32 x2 → zG LX ad sc sv M_X5_seekAll 30 [(0, .ref (ad 54)), (1, .ref (ad 8)), (2, .int (mI x2))] [] m (L_X5_seekAll_30 n q x2 m) := by
  intro q
  induction q with
  | zero => intros; exact zG_none
  | succ q ih => exact T_X5_seekAll_30 n (L_X5_seekAll_30 n q) ih
set_option maxRecDepth 20000 in
theorem ct_X5_seekAll {ad sc sv : Nat → Nat} (n : Nat) (m : ZMem) : zCT LX ad sc sv M_X5_seekAll yX5_seekAll [.ref (ad 54), .ref (ad 8)] m (F_X5_seekAll n m) := by
  refine zCT_of (lv := [(0, .ref (ad 54)), (1, .ref (ad 8))]) (by decide) rfl (Nat.le_of_ble_eq_true rfl) rfl ?_
  unfold F_X5_seekAll
  refine z_aload_n dX5_seekAll_0 0 rfl ?_
  refine z_getR dX5_seekAll_1 (k := 0) (j := 55) zc_X5 lx_54 rfl (by decide) k_163 ?_
  refine z_iconst dX5_seekAll_4 ?_
  refine z_iconst dX5_seekAll_5 ?_
  refine z_callV0 dX5_seekAll_6 rfl (ct_X9_reset n 55 zt_55 0 0 m (by decide) (by decide)) zc_X9 lx_55 k_683 k_58 k_59 k_3 k_60 zn_X9_reset ⟨rfl, rfl, Nat.le_of_ble_eq_true rfl, Nat.le_of_ble_eq_true rfl⟩ (Nat.le_of_ble_eq_true rfl) rfl (fun v1 m2 ho4 => ?_)
  refine z_aload_n dX5_seekAll_9 0 rfl ?_
  refine z_getR dX5_seekAll_10 (k := 1) (j := 57) zc_X5 lx_54 rfl (by decide) k_164 ?_
  refine z_sipush dX5_seekAll_13 (x := 2197) (by decide +kernel) ?_
  refine z_bipush dX5_seekAll_16 (x := (-9)) (by decide +kernel) ?_
  refine z_callV0 dX5_seekAll_18 rfl (ct_X9_reset n 57 zt_57 2197 (-9) m2 (by decide) (by decide)) zc_X9 lx_57 k_683 k_58 k_59 k_3 k_60 zn_X9_reset ⟨rfl, rfl, Nat.le_of_ble_eq_true rfl, Nat.le_of_ble_eq_true rfl⟩ (Nat.le_of_ble_eq_true rfl) rfl (fun v5 m6 ho8 => ?_)
  refine z_aload_n dX5_seekAll_21 0 rfl ?_
  refine z_iconst dX5_seekAll_22 ?_
  refine z_iconst dX5_seekAll_23 ?_
  refine z_iconst dX5_seekAll_24 ?_
  refine z_callV0 dX5_seekAll_25 rfl (ct_X5_comes n 0 0 0 m6 (by decide) (by decide) (by decide)) zc_X5 lx_54 k_684 k_686 kp_24 k_7 k_687 zn_X5_comes ⟨rfl, rfl, Nat.le_of_ble_eq_true rfl, Nat.le_of_ble_eq_true rfl⟩ (Nat.le_of_ble_eq_true rfl) rfl (fun v9 m10 ho12 => ?_)
  refine z_iconst dX5_seekAll_28 ?_
  refine z_istore_n dX5_seekAll_29 (lv' := [(2, .int (mI 0)), (0, .ref (ad 54)), (1, .ref (ad 8))]) (by decide) rfl ?_
  exact zG_lvk (TL_X5_seekAll_30 n n 0 m10 (by decide)) [1, 2, 0] rfl
set_option maxRecDepth 20000 in
theorem T_X5_firstWith_2 {ad sc sv : Nat → Nat} (n : Nat) (r2 : Int → Int → ZMem → ZR) (hr2 : ∀ (x1 : Int) (x2 : Int) (m : ZMem), R32 x1 → R32 x2 → zG LX ad sc sv M_X5_firstWith 2 [(0, .ref (ad 54)), (1, .int (mI x1)), (2, .int (mI x2))] [] m (r2 x1 x2 m)) : ∀ (x1 : Int) (x2 : Int) (m : ZMem), R32 x1 → R32 x2 → zG LX ad sc sv M_X5_firstWith 2 [(0, .ref (ad 54)), (1, .int (mI x1)), (2, .int (mI x2))] [] m (B_X5_firstWith_2 n r2 x1 x2 m) := by
  intro x1 x2 m hx1 hx2
  unfold B_X5_firstWith_2
  refine z_iload_n dX5_firstWith_2 2 rfl ?_
  refine z_aload_n dX5_firstWith_3 0 rfl ?_
  refine z_getR dX5_firstWith_4 (k := 0) (j := 55) zc_X5 lx_54 rfl (by decide) k_163 ?_
  refine z_callV1 dX5_firstWith_7 rfl (ct_X9_size n 55 zt_55 m) zc_X9 lx_55 k_691 k_276 k_277 k_3 k_278 zn_X9_size ⟨rfl, rfl, Nat.le_of_ble_eq_true rfl, Nat.le_of_ble_eq_true rfl⟩ (Nat.le_of_ble_eq_true rfl) rfl (fun v1 m2 h3 ho4 => ?_)
  refine z_icmp_ge dX5_firstWith_10 hx2 h3 (tgt := 58) rfl (fun h5 => ?_) (fun h5 => ?_)
  · refine z_bipush dX5_firstWith_58 (x := (-9)) (by decide +kernel) ?_
    exact z_iret dX5_firstWith_60 rfl rfl (by decide)
  · refine z_aload_n dX5_firstWith_13 0 rfl ?_
    refine z_getR dX5_firstWith_14 (k := 0) (j := 55) zc_X5 lx_54 rfl (by decide) k_163 ?_
    refine z_iload_n dX5_firstWith_17 2 rfl ?_
    refine z_iconst dX5_firstWith_18 ?_
    refine z_callV1 dX5_firstWith_19 rfl (ct_X9_at n 55 zt_55 x2 0 m2 hx2 (by decide)) zc_X9 lx_55 k_688 k_264 k_265 k_3 k_266 zn_X9_at ⟨rfl, rfl, Nat.le_of_ble_eq_true rfl, Nat.le_of_ble_eq_true rfl⟩ (Nat.le_of_ble_eq_true rfl) rfl (fun v6 m7 h8 ho9 => ?_)
    refine z_istore_n dX5_firstWith_22 (lv' := [(3, .int (mI v6)), (0, .ref (ad 54)), (1, .int (mI x1)), (2, .int (mI x2))]) (by decide) rfl ?_
    refine z_iload_n dX5_firstWith_23 0 rfl ?_
    refine z_iconst dX5_firstWith_24 ?_
    refine z_callS1 dX5_firstWith_25 rfl (ct_X5_levelOf n v6 0 m7 h8 (by decide)) k_696 k_697 k_7 k_698 zn_X5_levelOf ⟨rfl, rfl, Nat.le_of_ble_eq_true rfl, Nat.le_of_ble_eq_true rfl⟩ (Nat.le_of_ble_eq_true rfl) rfl (fun v10 m11 h12 ho13 => ?_)
    refine z_iload_n dX5_firstWith_28 2 rfl ?_
    refine z_icmp_eq dX5_firstWith_29 h12 hx1 (tgt := 50) rfl (fun h14 => ?_) (fun h14 => ?_)
    · refine z_iload_n dX5_firstWith_50 0 rfl ?_
      exact z_iret dX5_firstWith_51 rfl rfl h8
    · refine z_iload_n dX5_firstWith_32 0 rfl ?_
      refine z_iconst dX5_firstWith_33 ?_
      refine z_callS1 dX5_firstWith_34 rfl (ct_X5_levelOf n v6 1 m11 h8 (by decide)) k_696 k_697 k_7 k_698 zn_X5_levelOf ⟨rfl, rfl, Nat.le_of_ble_eq_true rfl, Nat.le_of_ble_eq_true rfl⟩ (Nat.le_of_ble_eq_true rfl) rfl (fun v15 m16 h17 ho18 => ?_)
      refine z_iload_n dX5_firstWith_37 2 rfl ?_
      refine z_icmp_eq dX5_firstWith_38 h17 hx1 (tgt := 50) rfl (fun h19 => ?_) (fun h19 => ?_)
      · refine z_iload_n dX5_firstWith_50 0 rfl ?_
        exact z_iret dX5_firstWith_51 rfl rfl h8
      · refine z_iload_n dX5_firstWith_41 0 rfl ?_
        refine z_iconst dX5_firstWith_42 ?_
        refine z_callS1 dX5_firstWith_43 rfl (ct_X5_levelOf n v6 2 m16 h8 (by decide)) k_696 k_697 k_7 k_698 zn_X5_levelOf ⟨rfl, rfl, Nat.le_of_ble_eq_true rfl, Nat.le_of_ble_eq_true rfl⟩ (Nat.le_of_ble_eq_true rfl) rfl (fun v20 m21 h22 ho23 => ?_)
        refine z_iload_n dX5_firstWith_46 2 rfl ?_
        refine z_icmp_ne dX5_firstWith_47 h22 hx1 (tgt := 52) rfl (fun h24 => ?_) (fun h24 => ?_)
        · refine z_iload_n dX5_firstWith_50 0 rfl ?_
          exact z_iret dX5_firstWith_51 rfl rfl h8
        · refine z_iinc dX5_firstWith_52 (lv' := [(2, .int (mI (x2 + 1))), (3, .int (mI v6)), (0, .ref (ad 54)), (1, .int (mI x1))]) 3 rfl (by decide) rfl (fun h25 => ?_)
          refine z_goto dX5_firstWith_55 (tgt := 2) rfl ?_
          exact zG_lvk (hr2 x1 (x2 + 1) m21 hx1 h25) [2, 3, 0] rfl
theorem TL_X5_firstWith_2 {ad sc sv : Nat → Nat} (n : Nat) : ∀ q : Nat, ∀ (x1 : Int) (x2 : Int) (m : ZMem), R32 x1 → R32 x2 → zG LX ad sc sv M_X5_firstWith 2 [(0, .ref (ad 54)), (1, .int (mI x1)), (2, .int (mI x2))] [] m (L_X5_firstWith_2 n q x1 x2 m) := by
  intro q
  induction q with
  | zero => intros; exact zG_none
  | succ q ih => exact T_X5_firstWith_2 n (L_X5_firstWith_2 n q) ih
set_option maxRecDepth 20000 in
theorem ct_X5_firstWith {ad sc sv : Nat → Nat} (n : Nat) (a0 : Int) (m : ZMem) (ha0 : R32 a0) : zCT LX ad sc sv M_X5_firstWith yX5_firstWith [.ref (ad 54), .int (mI a0)] m (F_X5_firstWith n a0 m) := by
  refine zCT_of (lv := [(0, .ref (ad 54)), (1, .int (mI a0))]) (by decide) rfl (Nat.le_of_ble_eq_true rfl) rfl ?_
  unfold F_X5_firstWith
  refine z_iconst dX5_firstWith_0 ?_
  refine z_istore_n dX5_firstWith_1 (lv' := [(2, .int (mI 0)), (0, .ref (ad 54)), (1, .int (mI a0))]) (by decide) rfl ?_
  exact zG_lvk (TL_X5_firstWith_2 n n a0 0 m ha0 (by decide)) [1, 2, 0] rfl
set_option maxRecDepth 20000 in
theorem T_X5_stepsTo_25 {ad sc sv : Nat → Nat} (n : Nat) (r25 : Int → Int → ZMem → ZR) (hr25 : ∀ (x2 : Int) (x3 : Int) (m : ZMem), R32 x2 → R32 x3 → zG LX ad sc sv M_X5_stepsTo 25 [(0, .ref (ad 54)), (2, .int (mI x2)), (3, .int (mI x3))] [] m (r25 x2 x3 m)) : ∀ (x2 : Int) (x3 : Int) (m : ZMem), R32 x2 → R32 x3 → zG LX ad sc sv M_X5_stepsTo 25 [(0, .ref (ad 54)), (2, .int (mI x2)), (3, .int (mI x3))] [] m (B_X5_stepsTo_25 n r25 x2 x3 m) := by
  intro x2 x3 m hx2 hx3
  unfold B_X5_stepsTo_25
  refine z_iload_n dX5_stepsTo_25 1 rfl ?_
  refine z_sipush dX5_stepsTo_26 (x := 2197) (by decide +kernel) ?_
  refine z_icmp_ge dX5_stepsTo_29 hx2 (by decide) (tgt := 52) rfl (fun h7 => ?_) (fun h7 => ?_)
  · refine z_iload_n dX5_stepsTo_52 1 rfl ?_
    exact z_iret dX5_stepsTo_53 rfl rfl hx2
  · refine z_iload_n dX5_stepsTo_32 2 rfl ?_
    refine z_if_eq dX5_stepsTo_33 hx3 (tgt := 52) rfl (fun h8 => ?_) (fun h8 => ?_)
    · refine z_iload_n dX5_stepsTo_52 1 rfl ?_
      exact z_iret dX5_stepsTo_53 rfl rfl hx2
    · refine z_aload_n dX5_stepsTo_36 0 rfl ?_
      refine z_getR dX5_stepsTo_37 (k := 1) (j := 57) zc_X5 lx_54 rfl (by decide) k_164 ?_
      refine z_iload_n dX5_stepsTo_40 2 rfl ?_
      refine z_iconst dX5_stepsTo_41 ?_
      refine z_callV1 dX5_stepsTo_42 rfl (ct_X9_at n 57 zt_57 x3 0 m hx3 (by decide)) zc_X9 lx_57 k_688 k_264 k_265 k_3 k_266 zn_X9_at ⟨rfl, rfl, Nat.le_of_ble_eq_true rfl, Nat.le_of_ble_eq_true rfl⟩ (Nat.le_of_ble_eq_true rfl) rfl (fun v9 m10 h11 ho12 => ?_)
      refine z_istore_n dX5_stepsTo_45 (lv' := [(3, .int (mI v9)), (0, .ref (ad 54)), (2, .int (mI x2))]) (by decide) rfl ?_
      refine z_iinc dX5_stepsTo_46 (lv' := [(2, .int (mI (x2 + 1))), (3, .int (mI v9)), (0, .ref (ad 54))]) 2 rfl (by decide) rfl (fun h13 => ?_)
      refine z_goto dX5_stepsTo_49 (tgt := 25) rfl ?_
      exact zG_lvk (hr25 (x2 + 1) v9 m10 h13 h11) [2, 0, 1] rfl
theorem TL_X5_stepsTo_25 {ad sc sv : Nat → Nat} (n : Nat) : ∀ q : Nat, ∀ (x2 : Int) (x3 : Int) (m : ZMem), R32 x2 → R32 x3 → zG LX ad sc sv M_X5_stepsTo 25 [(0, .ref (ad 54)), (2, .int (mI x2)), (3, .int (mI x3))] [] m (L_X5_stepsTo_25 n q x2 x3 m) := by
  intro q
  induction q with
  | zero => intros; exact zG_none
  | succ q ih => exact T_X5_stepsTo_25 n (L_X5_stepsTo_25 n q) ih
set_option maxRecDepth 20000 in
theorem ct_X5_stepsTo {ad sc sv : Nat → Nat} (n : Nat) (a0 : Int) (m : ZMem) (ha0 : R32 a0) : zCT LX ad sc sv M_X5_stepsTo yX5_stepsTo [.ref (ad 54), .int (mI a0)] m (F_X5_stepsTo n a0 m) := by
  refine zCT_of (lv := [(0, .ref (ad 54)), (1, .int (mI a0))]) (by decide) rfl (Nat.le_of_ble_eq_true rfl) rfl ?_
  unfold F_X5_stepsTo
  refine z_iload_n dX5_stepsTo_0 1 rfl ?_
  refine z_if_lt dX5_stepsTo_1 ha0 (tgt := 18) rfl (fun h1 => ?_) (fun h1 => ?_)
  · refine z_bipush dX5_stepsTo_18 (x := (-9)) (by decide +kernel) ?_
    exact z_iret dX5_stepsTo_20 rfl rfl (by decide)
  · refine z_aload_n dX5_stepsTo_4 0 rfl ?_
    refine z_getR dX5_stepsTo_5 (k := 1) (j := 57) zc_X5 lx_54 rfl (by decide) k_164 ?_
    refine z_iload_n dX5_stepsTo_8 1 rfl ?_
    refine z_iconst dX5_stepsTo_9 ?_
    refine z_callV1 dX5_stepsTo_10 rfl (ct_X9_at n 57 zt_57 a0 0 m ha0 (by decide)) zc_X9 lx_57 k_688 k_264 k_265 k_3 k_266 zn_X9_at ⟨rfl, rfl, Nat.le_of_ble_eq_true rfl, Nat.le_of_ble_eq_true rfl⟩ (Nat.le_of_ble_eq_true rfl) rfl (fun v2 m3 h4 ho5 => ?_)
    refine z_bipush dX5_stepsTo_13 (x := (-9)) (by decide +kernel) ?_
    refine z_icmp_ne dX5_stepsTo_15 h4 (by decide) (tgt := 21) rfl (fun h6 => ?_) (fun h6 => ?_)
    · refine z_bipush dX5_stepsTo_18 (x := (-9)) (by decide +kernel) ?_
      exact z_iret dX5_stepsTo_20 rfl rfl (by decide)
    · refine z_iconst dX5_stepsTo_21 ?_
      refine z_istore_n dX5_stepsTo_22 (lv' := [(2, .int (mI 0)), (0, .ref (ad 54)), (1, .int (mI a0))]) (by decide) rfl ?_
      refine z_iload_n dX5_stepsTo_23 2 rfl ?_
      refine z_istore_n dX5_stepsTo_24 (lv' := [(3, .int (mI a0)), (2, .int (mI 0)), (0, .ref (ad 54)), (1, .int (mI a0))]) (by decide) rfl ?_
      exact zG_lvk (TL_X5_stepsTo_25 n n 0 a0 m3 (by decide) ha0) [2, 1, 0] rfl
set_option maxRecDepth 20000 in
theorem ct_X5_fewestTo {ad sc sv : Nat → Nat} (n : Nat) (a0 : Int) (m : ZMem) (ha0 : R32 a0) : zCT LX ad sc sv M_X5_fewestTo yX5_fewestTo [.ref (ad 54), .ref (ad 8), .int (mI a0)] m (F_X5_fewestTo n a0 m) := by
  refine zCT_of (lv := [(0, .ref (ad 54)), (1, .ref (ad 8)), (2, .int (mI a0))]) (by decide) rfl (Nat.le_of_ble_eq_true rfl) rfl ?_
  unfold F_X5_fewestTo
  refine z_aload_n dX5_fewestTo_0 0 rfl ?_
  refine z_aload_n dX5_fewestTo_1 1 rfl ?_
  refine z_callV0 dX5_fewestTo_2 rfl (ct_X5_seekAll n m) zc_X5 lx_54 k_679 k_681 kp_23 k_7 k_682 zn_X5_seekAll ⟨rfl, rfl, Nat.le_of_ble_eq_true rfl, Nat.le_of_ble_eq_true rfl⟩ (Nat.le_of_ble_eq_true rfl) rfl (fun v1 m2 ho4 => ?_)
  refine z_aload_n dX5_fewestTo_5 0 rfl ?_
  refine z_aload_n dX5_fewestTo_6 0 rfl ?_
  refine z_iload_n dX5_fewestTo_7 2 rfl ?_
  refine z_callV1 dX5_fewestTo_8 rfl (ct_X5_firstWith n a0 m2 ha0) zc_X5 lx_54 k_704 k_706 kp_26 k_7 k_707 zn_X5_firstWith ⟨rfl, rfl, Nat.le_of_ble_eq_true rfl, Nat.le_of_ble_eq_true rfl⟩ (Nat.le_of_ble_eq_true rfl) rfl (fun v5 m6 h7 ho8 => ?_)
  refine z_callV1 dX5_fewestTo_11 rfl (ct_X5_stepsTo n v5 m6 h7) zc_X5 lx_54 k_708 k_710 kp_27 k_7 k_711 zn_X5_stepsTo ⟨rfl, rfl, Nat.le_of_ble_eq_true rfl, Nat.le_of_ble_eq_true rfl⟩ (Nat.le_of_ble_eq_true rfl) rfl (fun v9 m10 h11 ho12 => ?_)
  exact z_iret dX5_fewestTo_14 rfl rfl h11
set_option maxRecDepth 20000 in
theorem ct_X5_fewestToAll {ad sc sv : Nat → Nat} (n : Nat) (a0 : Int) (a1 : Int) (a2 : Int) (m : ZMem) (ha0 : R32 a0) (ha1 : R32 a1) (ha2 : R32 a2) : zCT LX ad sc sv M_X5_fewestToAll yX5_fewestToAll [.ref (ad 54), .ref (ad 8), .int (mI a0), .int (mI a1), .int (mI a2)] m (F_X5_fewestToAll n a0 a1 a2 m) := by
  refine zCT_of (lv := [(0, .ref (ad 54)), (1, .ref (ad 8)), (2, .int (mI a0)), (3, .int (mI a1)), (4, .int (mI a2))]) (by decide) rfl (Nat.le_of_ble_eq_true rfl) rfl ?_
  unfold F_X5_fewestToAll
  refine z_aload_n dX5_fewestToAll_0 0 rfl ?_
  refine z_aload_n dX5_fewestToAll_1 1 rfl ?_
  refine z_callV0 dX5_fewestToAll_2 rfl (ct_X5_seekAll n m) zc_X5 lx_54 k_679 k_681 kp_23 k_7 k_682 zn_X5_seekAll ⟨rfl, rfl, Nat.le_of_ble_eq_true rfl, Nat.le_of_ble_eq_true rfl⟩ (Nat.le_of_ble_eq_true rfl) rfl (fun v1 m2 ho4 => ?_)
  refine z_aload_n dX5_fewestToAll_5 0 rfl ?_
  refine z_iload_n dX5_fewestToAll_6 2 rfl ?_
  refine z_iconst dX5_fewestToAll_7 ?_
  refine z_callS1 dX5_fewestToAll_8 rfl (ct_X5_unit n 1 m2 (by decide)) k_699 k_700 k_7 k_701 zn_X5_unit ⟨rfl, rfl, Nat.le_of_ble_eq_true rfl, Nat.le_of_ble_eq_true rfl⟩ (Nat.le_of_ble_eq_true rfl) rfl (fun v5 m6 h7 ho8 => ?_)
  refine z_iload_n dX5_fewestToAll_11 3 rfl ?_
  refine z_imul dX5_fewestToAll_12 (fun h9 => ?_)
  refine z_iadd dX5_fewestToAll_13 (fun h10 => ?_)
  refine z_iconst dX5_fewestToAll_14 ?_
  refine z_callS1 dX5_fewestToAll_15 rfl (ct_X5_unit n 2 m6 (by decide)) k_699 k_700 k_7 k_701 zn_X5_unit ⟨rfl, rfl, Nat.le_of_ble_eq_true rfl, Nat.le_of_ble_eq_true rfl⟩ (Nat.le_of_ble_eq_true rfl) rfl (fun v11 m12 h13 ho14 => ?_)
  refine z_iload dX5_fewestToAll_18 4 rfl ?_
  refine z_imul dX5_fewestToAll_20 (fun h15 => ?_)
  refine z_iadd dX5_fewestToAll_21 (fun h16 => ?_)
  refine z_callV1 dX5_fewestToAll_22 rfl (ct_X5_stepsTo n ((a0 + (v5 * a1)) + (v11 * a2)) m12 h16) zc_X5 lx_54 k_708 k_710 kp_27 k_7 k_711 zn_X5_stepsTo ⟨rfl, rfl, Nat.le_of_ble_eq_true rfl, Nat.le_of_ble_eq_true rfl⟩ (Nat.le_of_ble_eq_true rfl) rfl (fun v17 m18 h19 ho20 => ?_)
  exact z_iret dX5_fewestToAll_25 rfl rfl h19
set_option maxRecDepth 20000 in
theorem T_X5_stepOf_35 {ad sc sv : Nat → Nat} (n : Nat) (r35 : Int → Int → Int → ZMem → ZR) (hr35 : ∀ (x3 : Int) (x4 : Int) (x6 : Int) (m : ZMem), R32 x3 → R32 x4 → R32 x6 → zG LX ad sc sv M_X5_stepOf 35 [(0, .ref (ad 54)), (3, .int (mI x3)), (4, .int (mI x4)), (6, .int (mI x6))] [] m (r35 x3 x4 x6 m)) : ∀ (x3 : Int) (x4 : Int) (x6 : Int) (m : ZMem), R32 x3 → R32 x4 → R32 x6 → zG LX ad sc sv M_X5_stepOf 35 [(0, .ref (ad 54)), (3, .int (mI x3)), (4, .int (mI x4)), (6, .int (mI x6))] [] m (B_X5_stepOf_35 n r35 x3 x4 x6 m) := by
  intro x3 x4 x6 m hx3 hx4 hx6
  unfold B_X5_stepOf_35
  refine z_iload dX5_stepOf_35 3 rfl ?_
  refine z_iload_n dX5_stepOf_37 1 rfl ?_
  refine z_icmp_le dX5_stepOf_38 hx6 hx3 (tgt := 59) rfl (fun h15 => ?_) (fun h15 => ?_)
  · refine z_aload_n dX5_stepOf_59 0 rfl ?_
    refine z_getR dX5_stepOf_60 (k := 1) (j := 57) zc_X5 lx_54 rfl (by decide) k_164 ?_
    refine z_iload dX5_stepOf_63 2 rfl ?_
    refine z_iconst dX5_stepOf_65 ?_
    refine z_callV1 dX5_stepOf_66 rfl (ct_X9_at n 57 zt_57 x4 1 m hx4 (by decide)) zc_X9 lx_57 k_688 k_264 k_265 k_3 k_266 zn_X9_at ⟨rfl, rfl, Nat.le_of_ble_eq_true rfl, Nat.le_of_ble_eq_true rfl⟩ (Nat.le_of_ble_eq_true rfl) rfl (fun v16 m17 h18 ho19 => ?_)
    exact z_iret dX5_stepOf_69 rfl rfl h18
  · refine z_aload_n dX5_stepOf_41 0 rfl ?_
    refine z_getR dX5_stepOf_42 (k := 1) (j := 57) zc_X5 lx_54 rfl (by decide) k_164 ?_
    refine z_iload dX5_stepOf_45 2 rfl ?_
    refine z_iconst dX5_stepOf_47 ?_
    refine z_callV1 dX5_stepOf_48 rfl (ct_X9_at n 57 zt_57 x4 0 m hx4 (by decide)) zc_X9 lx_57 k_688 k_264 k_265 k_3 k_266 zn_X9_at ⟨rfl, rfl, Nat.le_of_ble_eq_true rfl, Nat.le_of_ble_eq_true rfl⟩ (Nat.le_of_ble_eq_true rfl) rfl (fun v20 m21 h22 ho23 => ?_)
    refine z_istore dX5_stepOf_51 (lv' := [(4, .int (mI v20)), (0, .ref (ad 54)), (3, .int (mI x3)), (6, .int (mI x6))]) (by decide) rfl ?_
    refine z_iinc dX5_stepOf_53 (lv' := [(6, .int (mI (x6 + (-1)))), (4, .int (mI v20)), (0, .ref (ad 54)), (3, .int (mI x3))]) 3 rfl (by decide) rfl (fun h24 => ?_)
    refine z_goto dX5_stepOf_56 (tgt := 35) rfl ?_
    exact zG_lvk (hr35 x3 v20 (x6 + (-1)) m21 hx3 h22 h24) [2, 3, 1, 0] rfl
theorem TL_X5_stepOf_35 {ad sc sv : Nat → Nat} (n : Nat) : ∀ q : Nat, ∀ (x3 : Int) (x4 : Int) (x6 : Int) (m : ZMem), R32 x3 → R32 x4 → R32 x6 → zG LX ad sc sv M_X5_stepOf 35 [(0, .ref (ad 54)), (3, .int (mI x3)), (4, .int (mI x4)), (6, .int (mI x6))] [] m (L_X5_stepOf_35 n q x3 x4 x6 m) := by
  intro q
  induction q with
  | zero => intros; exact zG_none
  | succ q ih => exact T_X5_stepOf_35 n (L_X5_stepOf_35 n q) ih
set_option maxRecDepth 20000 in
theorem ct_X5_stepOf {ad sc sv : Nat → Nat} (n : Nat) (a0 : Int) (a1 : Int) (m : ZMem) (ha0 : R32 a0) (ha1 : R32 a1) : zCT LX ad sc sv M_X5_stepOf yX5_stepOf [.ref (ad 54), .ref (ad 8), .int (mI a0), .int (mI a1)] m (F_X5_stepOf n a0 a1 m) := by
  refine zCT_of (lv := [(0, .ref (ad 54)), (1, .ref (ad 8)), (2, .int (mI a0)), (3, .int (mI a1))]) (by decide) rfl (Nat.le_of_ble_eq_true rfl) rfl ?_
  unfold F_X5_stepOf
  refine z_aload_n dX5_stepOf_0 0 rfl ?_
  refine z_aload_n dX5_stepOf_1 1 rfl ?_
  refine z_callV0 dX5_stepOf_2 rfl (ct_X5_seekAll n m) zc_X5 lx_54 k_679 k_681 kp_23 k_7 k_682 zn_X5_seekAll ⟨rfl, rfl, Nat.le_of_ble_eq_true rfl, Nat.le_of_ble_eq_true rfl⟩ (Nat.le_of_ble_eq_true rfl) rfl (fun v1 m2 ho4 => ?_)
  refine z_aload_n dX5_stepOf_5 0 rfl ?_
  refine z_iload_n dX5_stepOf_6 2 rfl ?_
  refine z_callV1 dX5_stepOf_7 rfl (ct_X5_firstWith n a0 m2 ha0) zc_X5 lx_54 k_704 k_706 kp_26 k_7 k_707 zn_X5_firstWith ⟨rfl, rfl, Nat.le_of_ble_eq_true rfl, Nat.le_of_ble_eq_true rfl⟩ (Nat.le_of_ble_eq_true rfl) rfl (fun v5 m6 h7 ho8 => ?_)
  refine z_istore dX5_stepOf_10 (lv' := [(4, .int (mI v5)), (0, .ref (ad 54)), (1, .ref (ad 8)), (2, .int (mI a0)), (3, .int (mI a1))]) (by decide) rfl ?_
  refine z_aload_n dX5_stepOf_12 1 rfl ?_
  refine z_iload dX5_stepOf_13 0 rfl ?_
  refine z_callV1 dX5_stepOf_15 rfl (ct_X5_stepsTo n v5 m6 h7) zc_X5 lx_54 k_708 k_710 kp_27 k_7 k_711 zn_X5_stepsTo ⟨rfl, rfl, Nat.le_of_ble_eq_true rfl, Nat.le_of_ble_eq_true rfl⟩ (Nat.le_of_ble_eq_true rfl) rfl (fun v9 m10 h11 ho12 => ?_)
  refine z_istore dX5_stepOf_18 (lv' := [(5, .int (mI v9)), (4, .int (mI v5)), (0, .ref (ad 54)), (1, .ref (ad 8)), (2, .int (mI a0)), (3, .int (mI a1))]) (by decide) rfl ?_
  refine z_iload_n dX5_stepOf_20 5 rfl ?_
  refine z_iload dX5_stepOf_21 0 rfl ?_
  refine z_icmp_lt dX5_stepOf_23 ha1 h11 (tgt := 29) rfl (fun h13 => ?_) (fun h13 => ?_)
  · refine z_iload dX5_stepOf_29 0 rfl ?_
    refine z_iconst dX5_stepOf_31 ?_
    refine z_isub dX5_stepOf_32 (fun h14 => ?_)
    refine z_istore dX5_stepOf_33 (lv' := [(6, .int (mI (v9 - 1))), (5, .int (mI v9)), (4, .int (mI v5)), (0, .ref (ad 54)), (1, .ref (ad 8)), (2, .int (mI a0)), (3, .int (mI a1))]) (by decide) rfl ?_
    exact zG_lvk (TL_X5_stepOf_35 n n a1 v5 (v9 - 1) m10 ha1 h7 h14) [3, 6, 2, 0] rfl
  · refine z_bipush dX5_stepOf_26 (x := (-9)) (by decide +kernel) ?_
    exact z_iret dX5_stepOf_28 rfl rfl (by decide)
set_option maxRecDepth 20000 in
theorem T_X6_leastOff_7 {ad sc sv : Nat → Nat} (n : Nat) (r7 : Int → Int → Int → ZMem → ZR) (hr7 : ∀ (x2 : Int) (x3 : Int) (x4 : Int) (m : ZMem), R32 x2 → R32 x3 → R32 x4 → zG LX ad sc sv M_X6_leastOff 7 [(0, .ref (ad 1)), (2, .int (mI x2)), (3, .int (mI x3)), (4, .int (mI x4))] [] m (r7 x2 x3 x4 m)) : ∀ (x2 : Int) (x3 : Int) (x4 : Int) (m : ZMem), R32 x2 → R32 x3 → R32 x4 → zG LX ad sc sv M_X6_leastOff 7 [(0, .ref (ad 1)), (2, .int (mI x2)), (3, .int (mI x3)), (4, .int (mI x4))] [] m (B_X6_leastOff_7 n r7 x2 x3 x4 m) := by
  intro x2 x3 x4 m hx2 hx3 hx4
  unfold B_X6_leastOff_7
  refine z_iload dX6_leastOff_7 3 rfl ?_
  refine z_iload_n dX6_leastOff_9 1 rfl ?_
  refine z_icmp_gt dX6_leastOff_10 hx4 hx2 (tgt := 36) rfl (fun h2 => ?_) (fun h2 => ?_)
  · refine z_iload_n dX6_leastOff_36 2 rfl ?_
    exact z_iret dX6_leastOff_37 rfl rfl hx3
  · refine z_aload_n dX6_leastOff_13 0 rfl ?_
    refine z_iload dX6_leastOff_14 3 rfl ?_
    refine z_callV1 dX6_leastOff_16 rfl (ct_X3_allOff n x4 m hx4) zc_X3 lx_1 k_549 k_529 k_530 k_2 k_531 zn_X3_allOff ⟨rfl, rfl, Nat.le_of_ble_eq_true rfl, Nat.le_of_ble_eq_true rfl⟩ (Nat.le_of_ble_eq_true rfl) rfl (fun v3 m4 h5 ho6 => ?_)
    refine z_aload_n dX6_leastOff_19 0 rfl ?_
    refine z_iload_n dX6_leastOff_20 2 rfl ?_
    refine z_callV1 dX6_leastOff_21 rfl (ct_X3_allOff n x3 m4 hx3) zc_X3 lx_1 k_549 k_529 k_530 k_2 k_531 zn_X3_allOff ⟨rfl, rfl, Nat.le_of_ble_eq_true rfl, Nat.le_of_ble_eq_true rfl⟩ (Nat.le_of_ble_eq_true rfl) rfl (fun v7 m8 h9 ho10 => ?_)
    refine z_icmp_ge dX6_leastOff_24 h5 h9 (tgt := 30) rfl (fun h11 => ?_) (fun h11 => ?_)
    · refine z_iinc dX6_leastOff_30 (lv' := [(4, .int (mI (x4 + 1))), (0, .ref (ad 1)), (2, .int (mI x2)), (3, .int (mI x3))]) 3 rfl (by decide) rfl (fun h12 => ?_)
      refine z_goto dX6_leastOff_33 (tgt := 7) rfl ?_
      exact zG_lvk (hr7 x2 x3 (x4 + 1) m8 hx2 hx3 h12) [1, 2, 3, 0] rfl
    · refine z_iload dX6_leastOff_27 3 rfl ?_
      refine z_istore_n dX6_leastOff_29 (lv' := [(3, .int (mI x4)), (0, .ref (ad 1)), (2, .int (mI x2)), (4, .int (mI x4))]) (by decide) rfl ?_
      refine z_iinc dX6_leastOff_30 (lv' := [(4, .int (mI (x4 + 1))), (3, .int (mI x4)), (0, .ref (ad 1)), (2, .int (mI x2))]) 3 rfl (by decide) rfl (fun h13 => ?_)
      refine z_goto dX6_leastOff_33 (tgt := 7) rfl ?_
      exact zG_lvk (hr7 x2 x4 (x4 + 1) m8 hx2 hx4 h13) [2, 3, 1, 0] rfl
theorem TL_X6_leastOff_7 {ad sc sv : Nat → Nat} (n : Nat) : ∀ q : Nat, ∀ (x2 : Int) (x3 : Int) (x4 : Int) (m : ZMem), R32 x2 → R32 x3 → R32 x4 → zG LX ad sc sv M_X6_leastOff 7 [(0, .ref (ad 1)), (2, .int (mI x2)), (3, .int (mI x3)), (4, .int (mI x4))] [] m (L_X6_leastOff_7 n q x2 x3 x4 m) := by
  intro q
  induction q with
  | zero => intros; exact zG_none
  | succ q ih => exact T_X6_leastOff_7 n (L_X6_leastOff_7 n q) ih
set_option maxRecDepth 20000 in
theorem ct_X6_leastOff {ad sc sv : Nat → Nat} (n : Nat) (a0 : Int) (a1 : Int) (m : ZMem) (ha0 : R32 a0) (ha1 : R32 a1) : zCT LX ad sc sv M_X6_leastOff yX6_leastOff [.ref (ad 1), .int (mI a0), .int (mI a1)] m (F_X6_leastOff n a0 a1 m) := by
  refine zCT_of (lv := [(0, .ref (ad 1)), (1, .int (mI a0)), (2, .int (mI a1))]) (by decide) rfl (Nat.le_of_ble_eq_true rfl) rfl ?_
  unfold F_X6_leastOff
  refine z_iload_n dX6_leastOff_0 1 rfl ?_
  refine z_istore_n dX6_leastOff_1 (lv' := [(3, .int (mI a0)), (0, .ref (ad 1)), (1, .int (mI a0)), (2, .int (mI a1))]) (by decide) rfl ?_
  refine z_iload_n dX6_leastOff_2 2 rfl ?_
  refine z_iconst dX6_leastOff_3 ?_
  refine z_iadd dX6_leastOff_4 (fun h1 => ?_)
  refine z_istore dX6_leastOff_5 (lv' := [(4, .int (mI (a0 + 1))), (3, .int (mI a0)), (0, .ref (ad 1)), (1, .int (mI a0)), (2, .int (mI a1))]) (by decide) rfl ?_
  exact zG_lvk (TL_X6_leastOff_7 n n a1 a0 (a0 + 1) m ha1 ha0 h1) [2, 4, 1, 0] rfl
set_option maxRecDepth 20000 in
theorem T_X6_noneIsOff_2 {ad sc sv : Nat → Nat} (n : Nat) (r2 : Int → Int → ZMem → ZR) (hr2 : ∀ (x1 : Int) (x2 : Int) (m : ZMem), R32 x1 → R32 x2 → zG LX ad sc sv M_X6_noneIsOff 2 [(0, .ref (ad 1)), (1, .int (mI x1)), (2, .int (mI x2))] [] m (r2 x1 x2 m)) : ∀ (x1 : Int) (x2 : Int) (m : ZMem), R32 x1 → R32 x2 → zG LX ad sc sv M_X6_noneIsOff 2 [(0, .ref (ad 1)), (1, .int (mI x1)), (2, .int (mI x2))] [] m (B_X6_noneIsOff_2 n r2 x1 x2 m) := by
  intro x1 x2 m hx1 hx2
  unfold B_X6_noneIsOff_2
  refine z_iload_n dX6_noneIsOff_2 2 rfl ?_
  refine z_aload_n dX6_noneIsOff_3 0 rfl ?_
  refine z_getR dX6_noneIsOff_4 (k := 4) (j := 2) zc_X3 lx_1 rfl (by decide) k_83 ?_
  refine z_callV1 dX6_noneIsOff_7 rfl (ct_X9_size n 2 zt_2 m) zc_X9 lx_2 k_560 k_276 k_277 k_3 k_278 zn_X9_size ⟨rfl, rfl, Nat.le_of_ble_eq_true rfl, Nat.le_of_ble_eq_true rfl⟩ (Nat.le_of_ble_eq_true rfl) rfl (fun v1 m2 h3 ho4 => ?_)
  refine z_icmp_ge dX6_noneIsOff_10 hx2 h3 (tgt := 34) rfl (fun h5 => ?_) (fun h5 => ?_)
  · refine z_iconst dX6_noneIsOff_34 ?_
    exact z_zret dX6_noneIsOff_35 rfl rfl (by decide)
  · refine z_aload_n dX6_noneIsOff_13 0 rfl ?_
    refine z_iload_n dX6_noneIsOff_14 2 rfl ?_
    refine z_iload_n dX6_noneIsOff_15 1 rfl ?_
    refine z_aload_n dX6_noneIsOff_16 0 rfl ?_
    refine z_getI dX6_noneIsOff_17 (k := 0) zc_X3 lx_1 rfl (by decide) k_66 (fun h6 => ?_)
    refine z_callV1 dX6_noneIsOff_20 rfl (ct_X3_offBy n x2 x1 (m2 1 0) m2 hx2 hx1 h6) zc_X3 lx_1 k_561 k_538 k_539 k_2 k_540 zn_X3_offBy ⟨rfl, rfl, Nat.le_of_ble_eq_true rfl, Nat.le_of_ble_eq_true rfl⟩ (Nat.le_of_ble_eq_true rfl) rfl (fun v7 m8 h9 ho10 => ?_)
    refine z_if_eq dX6_noneIsOff_23 h9 (tgt := 28) rfl (fun h11 => ?_) (fun h11 => ?_)
    · refine z_iinc dX6_noneIsOff_28 (lv' := [(2, .int (mI (x2 + 1))), (0, .ref (ad 1)), (1, .int (mI x1))]) 2 rfl (by decide) rfl (fun h12 => ?_)
      refine z_goto dX6_noneIsOff_31 (tgt := 2) rfl ?_
      exact zG_lvk (hr2 x1 (x2 + 1) m8 hx1 h12) [1, 2, 0] rfl
    · refine z_iconst dX6_noneIsOff_26 ?_
      exact z_zret dX6_noneIsOff_27 rfl rfl (by decide)
theorem TL_X6_noneIsOff_2 {ad sc sv : Nat → Nat} (n : Nat) : ∀ q : Nat, ∀ (x1 : Int) (x2 : Int) (m : ZMem), R32 x1 → R32 x2 → zG LX ad sc sv M_X6_noneIsOff 2 [(0, .ref (ad 1)), (1, .int (mI x1)), (2, .int (mI x2))] [] m (L_X6_noneIsOff_2 n q x1 x2 m) := by
  intro q
  induction q with
  | zero => intros; exact zG_none
  | succ q ih => exact T_X6_noneIsOff_2 n (L_X6_noneIsOff_2 n q) ih
set_option maxRecDepth 20000 in
theorem ct_X6_noneIsOff {ad sc sv : Nat → Nat} (n : Nat) (a0 : Int) (m : ZMem) (ha0 : R32 a0) : zCT LX ad sc sv M_X6_noneIsOff yX6_noneIsOff [.ref (ad 1), .int (mI a0)] m (F_X6_noneIsOff n a0 m) := by
  refine zCT_of (lv := [(0, .ref (ad 1)), (1, .int (mI a0))]) (by decide) rfl (Nat.le_of_ble_eq_true rfl) rfl ?_
  unfold F_X6_noneIsOff
  refine z_iconst dX6_noneIsOff_0 ?_
  refine z_istore_n dX6_noneIsOff_1 (lv' := [(2, .int (mI 0)), (0, .ref (ad 1)), (1, .int (mI a0))]) (by decide) rfl ?_
  exact zG_lvk (TL_X6_noneIsOff_2 n n a0 0 m ha0 (by decide)) [1, 2, 0] rfl
set_option maxRecDepth 20000 in
theorem T_X6_comesOut_4 {ad sc sv : Nat → Nat} (n : Nat) (r4 : Int → Int → Int → ZMem → ZR) (hr4 : ∀ (x1 : Int) (x2 : Int) (x3 : Int) (m : ZMem), R32 x1 → R32 x2 → R32 x3 → zG LX ad sc sv M_X6_comesOut 4 [(0, .ref (ad 1)), (1, .int (mI x1)), (2, .int (mI x2)), (3, .int (mI x3))] [] m (r4 x1 x2 x3 m)) : ∀ (x1 : Int) (x2 : Int) (x3 : Int) (m : ZMem), R32 x1 → R32 x2 → R32 x3 → zG LX ad sc sv M_X6_comesOut 4 [(0, .ref (ad 1)), (1, .int (mI x1)), (2, .int (mI x2)), (3, .int (mI x3))] [] m (B_X6_comesOut_4 n r4 x1 x2 x3 m) := by
  intro x1 x2 x3 m hx1 hx2 hx3
  unfold B_X6_comesOut_4
  refine z_iload_n dX6_comesOut_4 3 rfl ?_
  refine z_bipush dX6_comesOut_5 (x := 24) (by decide +kernel) ?_
  refine z_icmp_gt dX6_comesOut_7 hx3 (by decide) (tgt := 34) rfl (fun h1 => ?_) (fun h1 => ?_)
  · refine z_iload_n dX6_comesOut_34 1 rfl ?_
    refine z_if_ge dX6_comesOut_35 hx1 (tgt := 42) rfl (fun h2 => ?_) (fun h2 => ?_)
    · refine z_bipush dX6_comesOut_42 (x := (-9)) (by decide +kernel) ?_
      exact z_iret dX6_comesOut_44 rfl rfl (by decide)
    · refine z_iload_n dX6_comesOut_38 2 rfl ?_
      refine z_goto dX6_comesOut_39 (tgt := 44) rfl ?_
      exact z_iret dX6_comesOut_44 rfl rfl hx2
  · refine z_aload_n dX6_comesOut_10 0 rfl ?_
    refine z_iload_n dX6_comesOut_11 3 rfl ?_
    refine z_callS4 dX6_comesOut_12 rfl (ct_X6_noneIsOff n x3 m hx3) k_557 k_558 k_16 k_559 zn_X6_noneIsOff ⟨rfl, rfl, Nat.le_of_ble_eq_true rfl, Nat.le_of_ble_eq_true rfl⟩ (Nat.le_of_ble_eq_true rfl) rfl (fun v3 m4 h5 ho6 => ?_)
    refine z_if_eq dX6_comesOut_15 (zb01 h5) (tgt := 28) rfl (fun h7 => ?_) (fun h7 => ?_)
    · refine z_iinc dX6_comesOut_28 (lv' := [(3, .int (mI (x3 + 1))), (0, .ref (ad 1)), (1, .int (mI x1)), (2, .int (mI x2))]) 3 rfl (by decide) rfl (fun h8 => ?_)
      refine z_goto dX6_comesOut_31 (tgt := 4) rfl ?_
      exact zG_lvk (hr4 x1 x2 (x3 + 1) m4 hx1 hx2 h8) [1, 2, 3, 0] rfl
    · refine z_iload_n dX6_comesOut_18 2 rfl ?_
      refine z_iload_n dX6_comesOut_19 1 rfl ?_
      refine z_icmp_ne dX6_comesOut_20 hx2 hx1 (tgt := 25) rfl (fun h9 => ?_) (fun h9 => ?_)
      · refine z_iload_n dX6_comesOut_23 3 rfl ?_
        exact z_iret dX6_comesOut_24 rfl rfl hx3
      · refine z_iinc dX6_comesOut_25 (lv' := [(2, .int (mI (x2 + 1))), (0, .ref (ad 1)), (1, .int (mI x1)), (3, .int (mI x3))]) 2 rfl (by decide) rfl (fun h10 => ?_)
        refine z_iinc dX6_comesOut_28 (lv' := [(3, .int (mI (x3 + 1))), (2, .int (mI (x2 + 1))), (0, .ref (ad 1)), (1, .int (mI x1))]) 3 rfl (by decide) rfl (fun h11 => ?_)
        refine z_goto dX6_comesOut_31 (tgt := 4) rfl ?_
        exact zG_lvk (hr4 x1 (x2 + 1) (x3 + 1) m4 hx1 h10 h11) [2, 3, 1, 0] rfl
theorem TL_X6_comesOut_4 {ad sc sv : Nat → Nat} (n : Nat) : ∀ q : Nat, ∀ (x1 : Int) (x2 : Int) (x3 : Int) (m : ZMem), R32 x1 → R32 x2 → R32 x3 → zG LX ad sc sv M_X6_comesOut 4 [(0, .ref (ad 1)), (1, .int (mI x1)), (2, .int (mI x2)), (3, .int (mI x3))] [] m (L_X6_comesOut_4 n q x1 x2 x3 m) := by
  intro q
  induction q with
  | zero => intros; exact zG_none
  | succ q ih => exact T_X6_comesOut_4 n (L_X6_comesOut_4 n q) ih
set_option maxRecDepth 20000 in
theorem ct_X6_comesOut {ad sc sv : Nat → Nat} (n : Nat) (a0 : Int) (m : ZMem) (ha0 : R32 a0) : zCT LX ad sc sv M_X6_comesOut yX6_comesOut [.ref (ad 1), .int (mI a0)] m (F_X6_comesOut n a0 m) := by
  refine zCT_of (lv := [(0, .ref (ad 1)), (1, .int (mI a0))]) (by decide) rfl (Nat.le_of_ble_eq_true rfl) rfl ?_
  unfold F_X6_comesOut
  refine z_iconst dX6_comesOut_0 ?_
  refine z_istore_n dX6_comesOut_1 (lv' := [(2, .int (mI 0)), (0, .ref (ad 1)), (1, .int (mI a0))]) (by decide) rfl ?_
  refine z_iconst dX6_comesOut_2 ?_
  refine z_istore_n dX6_comesOut_3 (lv' := [(3, .int (mI 1)), (2, .int (mI 0)), (0, .ref (ad 1)), (1, .int (mI a0))]) (by decide) rfl ?_
  exact zG_lvk (TL_X6_comesOut_4 n n a0 0 1 m ha0 (by decide) (by decide)) [2, 3, 1, 0] rfl
set_option maxRecDepth 20000 in
theorem T_X6_bestScale_16 {ad sc sv : Nat → Nat} (n : Nat) (r16 : Int → Int → Int → Int → ZMem → ZR) (hr16 : ∀ (x2 : Int) (x3 : Int) (x4 : Int) (x5 : Int) (m : ZMem), R32 x2 → R32 x3 → R32 x4 → R32 x5 → zG LX ad sc sv M_X6_bestScale 16 [(0, .ref (ad 1)), (2, .int (mI x2)), (3, .int (mI x3)), (4, .int (mI x4)), (5, .int (mI x5))] [] m (r16 x2 x3 x4 x5 m)) : ∀ (x2 : Int) (x3 : Int) (x4 : Int) (x5 : Int) (m : ZMem), R32 x2 → R32 x3 → R32 x4 → R32 x5 → zG LX ad sc sv M_X6_bestScale 16 [(0, .ref (ad 1)), (2, .int (mI x2)), (3, .int (mI x3)), (4, .int (mI x4)), (5, .int (mI x5))] [] m (B_X6_bestScale_16 n r16 x2 x3 x4 x5 m) := by
  intro x2 x3 x4 x5 m hx2 hx3 hx4 hx5
  unfold B_X6_bestScale_16
  refine z_iload dX6_bestScale_16 4 rfl ?_
  refine z_iload_n dX6_bestScale_18 1 rfl ?_
  refine z_icmp_gt dX6_bestScale_19 hx5 hx2 (tgt := 52) rfl (fun h6 => ?_) (fun h6 => ?_)
  · refine z_iload_n dX6_bestScale_52 2 rfl ?_
    exact z_iret dX6_bestScale_53 rfl rfl hx3
  · refine z_aload_n dX6_bestScale_22 0 rfl ?_
    refine z_iload dX6_bestScale_23 4 rfl ?_
    refine z_bipush dX6_bestScale_25 (x := 24) (by decide +kernel) ?_
    refine z_callV1 dX6_bestScale_27 rfl (ct_X3_greatestOff n x5 24 m hx5 (by decide)) zc_X3 lx_1 k_569 k_570 k_571 k_2 k_572 zn_X3_greatestOff ⟨rfl, rfl, Nat.le_of_ble_eq_true rfl, Nat.le_of_ble_eq_true rfl⟩ (Nat.le_of_ble_eq_true rfl) rfl (fun v7 m8 h9 ho10 => ?_)
    refine z_istore dX6_bestScale_30 (lv' := [(6, .int (mI v7)), (0, .ref (ad 1)), (2, .int (mI x2)), (3, .int (mI x3)), (4, .int (mI x4)), (5, .int (mI x5))]) (by decide) rfl ?_
    refine z_iload dX6_bestScale_32 0 rfl ?_
    refine z_iload dX6_bestScale_34 4 rfl ?_
    refine z_icmp_ge dX6_bestScale_36 h9 hx4 (tgt := 46) rfl (fun h11 => ?_) (fun h11 => ?_)
    · refine z_iinc dX6_bestScale_46 (lv' := [(5, .int (mI (x5 + 1))), (6, .int (mI v7)), (0, .ref (ad 1)), (2, .int (mI x2)), (3, .int (mI x3)), (4, .int (mI x4))]) 5 rfl (by decide) rfl (fun h12 => ?_)
      refine z_goto dX6_bestScale_49 (tgt := 16) rfl ?_
      exact zG_lvk (hr16 x2 x3 x4 (x5 + 1) m8 hx2 hx3 hx4 h12) [2, 3, 4, 5, 0] rfl
    · refine z_iload dX6_bestScale_39 5 rfl ?_
      refine z_istore_n dX6_bestScale_41 (lv' := [(3, .int (mI x5)), (6, .int (mI v7)), (0, .ref (ad 1)), (2, .int (mI x2)), (4, .int (mI x4)), (5, .int (mI x5))]) (by decide) rfl ?_
      refine z_iload dX6_bestScale_42 1 rfl ?_
      refine z_istore dX6_bestScale_44 (lv' := [(4, .int (mI v7)), (3, .int (mI x5)), (6, .int (mI v7)), (0, .ref (ad 1)), (2, .int (mI x2)), (5, .int (mI x5))]) (by decide) rfl ?_
      refine z_iinc dX6_bestScale_46 (lv' := [(5, .int (mI (x5 + 1))), (4, .int (mI v7)), (3, .int (mI x5)), (6, .int (mI v7)), (0, .ref (ad 1)), (2, .int (mI x2))]) 5 rfl (by decide) rfl (fun h13 => ?_)
      refine z_goto dX6_bestScale_49 (tgt := 16) rfl ?_
      exact zG_lvk (hr16 x2 x5 v7 (x5 + 1) m8 hx2 hx5 h9 h13) [4, 5, 2, 1, 0] rfl
theorem TL_X6_bestScale_16 {ad sc sv : Nat → Nat} (n : Nat) : ∀ q : Nat, ∀ (x2 : Int) (x3 : Int) (x4 : Int) (x5 : Int) (m : ZMem), R32 x2 → R32 x3 → R32 x4 → R32 x5 → zG LX ad sc sv M_X6_bestScale 16 [(0, .ref (ad 1)), (2, .int (mI x2)), (3, .int (mI x3)), (4, .int (mI x4)), (5, .int (mI x5))] [] m (L_X6_bestScale_16 n q x2 x3 x4 x5 m) := by
  intro q
  induction q with
  | zero => intros; exact zG_none
  | succ q ih => exact T_X6_bestScale_16 n (L_X6_bestScale_16 n q) ih
set_option maxRecDepth 20000 in
theorem ct_X6_bestScale {ad sc sv : Nat → Nat} (n : Nat) (a0 : Int) (a1 : Int) (m : ZMem) (ha0 : R32 a0) (ha1 : R32 a1) : zCT LX ad sc sv M_X6_bestScale yX6_bestScale [.ref (ad 1), .int (mI a0), .int (mI a1)] m (F_X6_bestScale n a0 a1 m) := by
  refine zCT_of (lv := [(0, .ref (ad 1)), (1, .int (mI a0)), (2, .int (mI a1))]) (by decide) rfl (Nat.le_of_ble_eq_true rfl) rfl ?_
  unfold F_X6_bestScale
  refine z_iload_n dX6_bestScale_0 1 rfl ?_
  refine z_istore_n dX6_bestScale_1 (lv' := [(3, .int (mI a0)), (0, .ref (ad 1)), (1, .int (mI a0)), (2, .int (mI a1))]) (by decide) rfl ?_
  refine z_aload_n dX6_bestScale_2 1 rfl ?_
  refine z_iload_n dX6_bestScale_3 2 rfl ?_
  refine z_bipush dX6_bestScale_4 (x := 24) (by decide +kernel) ?_
  refine z_callV1 dX6_bestScale_6 rfl (ct_X3_greatestOff n a0 24 m ha0 (by decide)) zc_X3 lx_1 k_569 k_570 k_571 k_2 k_572 zn_X3_greatestOff ⟨rfl, rfl, Nat.le_of_ble_eq_true rfl, Nat.le_of_ble_eq_true rfl⟩ (Nat.le_of_ble_eq_true rfl) rfl (fun v1 m2 h3 ho4 => ?_)
  refine z_istore dX6_bestScale_9 (lv' := [(4, .int (mI v1)), (3, .int (mI a0)), (0, .ref (ad 1)), (1, .int (mI a0)), (2, .int (mI a1))]) (by decide) rfl ?_
  refine z_iload_n dX6_bestScale_11 3 rfl ?_
  refine z_iconst dX6_bestScale_12 ?_
  refine z_iadd dX6_bestScale_13 (fun h5 => ?_)
  refine z_istore dX6_bestScale_14 (lv' := [(5, .int (mI (a0 + 1))), (4, .int (mI v1)), (3, .int (mI a0)), (0, .ref (ad 1)), (1, .int (mI a0)), (2, .int (mI a1))]) (by decide) rfl ?_
  exact zG_lvk (TL_X6_bestScale_16 n n a1 a0 v1 (a0 + 1) m2 ha1 ha0 h3 h5) [3, 5, 2, 1, 0] rfl
set_option maxRecDepth 20000 in
theorem T_X6_mostFed_3 {ad sc sv : Nat → Nat} (n : Nat) (r3 : Int → ZMem → ZR) (hr3 : ∀ (x1 : Int) (m : ZMem), R32 x1 → zG LX ad sc sv M_X6_mostFed 3 [(0, .ref (ad 1)), (1, .int (mI x1))] [] m (r3 x1 m)) : ∀ (x1 : Int) (m : ZMem), R32 x1 → zG LX ad sc sv M_X6_mostFed 3 [(0, .ref (ad 1)), (1, .int (mI x1))] [] m (B_X6_mostFed_3 n r3 x1 m) := by
  intro x1 m hx1
  unfold B_X6_mostFed_3
  refine z_iload_n dX6_mostFed_3 1 rfl ?_
  refine z_iconst dX6_mostFed_4 ?_
  refine z_icmp_lt dX6_mostFed_5 hx1 (by decide) (tgt := 24) rfl (fun h1 => ?_) (fun h1 => ?_)
  · refine z_iconst dX6_mostFed_24 ?_
    exact z_iret dX6_mostFed_25 rfl rfl (by decide)
  · refine z_aload_n dX6_mostFed_8 0 rfl ?_
    refine z_iload_n dX6_mostFed_9 1 rfl ?_
    refine z_callV4 dX6_mostFed_10 rfl (ct_X3_feeds n x1 m hx1) zc_X3 lx_1 k_615 k_616 k_617 k_2 k_618 zn_X3_feeds ⟨rfl, rfl, Nat.le_of_ble_eq_true rfl, Nat.le_of_ble_eq_true rfl⟩ (Nat.le_of_ble_eq_true rfl) rfl (fun v2 m3 h4 ho5 => ?_)
    refine z_if_eq dX6_mostFed_13 (zb01 h4) (tgt := 18) rfl (fun h6 => ?_) (fun h6 => ?_)
    · refine z_iinc dX6_mostFed_18 (lv' := [(1, .int (mI (x1 + (-1)))), (0, .ref (ad 1))]) 1 rfl (by decide) rfl (fun h7 => ?_)
      refine z_goto dX6_mostFed_21 (tgt := 3) rfl ?_
      exact zG_lvk (hr3 (x1 + (-1)) m3 h7) [1, 0] rfl
    · refine z_iload_n dX6_mostFed_16 1 rfl ?_
      exact z_iret dX6_mostFed_17 rfl rfl hx1
theorem TL_X6_mostFed_3 {ad sc sv : Nat → Nat} (n : Nat) : ∀ q : Nat, ∀ (x1 : Int) (m : ZMem), R32 x1 → zG LX ad sc sv M_X6_mostFed 3 [(0, .ref (ad 1)), (1, .int (mI x1))] [] m (L_X6_mostFed_3 n q x1 m) := by
  intro q
  induction q with
  | zero => intros; exact zG_none
  | succ q ih => exact T_X6_mostFed_3 n (L_X6_mostFed_3 n q) ih
set_option maxRecDepth 20000 in
theorem ct_X6_mostFed {ad sc sv : Nat → Nat} (n : Nat) (m : ZMem) : zCT LX ad sc sv M_X6_mostFed yX6_mostFed [.ref (ad 1)] m (F_X6_mostFed n m) := by
  refine zCT_of (lv := [(0, .ref (ad 1))]) (by decide) rfl (Nat.le_of_ble_eq_true rfl) rfl ?_
  unfold F_X6_mostFed
  refine z_bipush dX6_mostFed_0 (x := 24) (by decide +kernel) ?_
  refine z_istore_n dX6_mostFed_2 (lv' := [(1, .int (mI 24)), (0, .ref (ad 1))]) (by decide) rfl ?_
  exact zG_lvk (TL_X6_mostFed_3 n n 24 m (by decide)) [1, 0] rfl
set_option maxRecDepth 20000 in
theorem ct_X6_numberFor {ad sc sv : Nat → Nat} (n : Nat) (a0 : Int) (a1 : Int) (m : ZMem) (ha0 : R32 a0) (ha1 : R32 a1) : zCT LX ad sc sv M_X6_numberFor yX6_numberFor [.ref (ad 1), .int (mI a0), .int (mI a1)] m (F_X6_numberFor n a0 a1 m) := by
  refine zCT_of (lv := [(0, .ref (ad 1)), (1, .int (mI a0)), (2, .int (mI a1))]) (by decide) rfl (Nat.le_of_ble_eq_true rfl) rfl ?_
  unfold F_X6_numberFor
  refine z_iload_n dX6_numberFor_0 2 rfl ?_
  refine z_aload_n dX6_numberFor_1 0 rfl ?_
  refine z_getI dX6_numberFor_2 (k := 0) zc_X3 lx_1 rfl (by decide) k_66 (fun h1 => ?_)
  refine z_imul dX6_numberFor_5 (fun h2 => ?_)
  refine z_aload_n dX6_numberFor_6 0 rfl ?_
  refine z_getR dX6_numberFor_7 (k := 4) (j := 2) zc_X3 lx_1 rfl (by decide) k_83 ?_
  refine z_iload_n dX6_numberFor_10 1 rfl ?_
  refine z_iconst dX6_numberFor_11 ?_
  refine z_callV1 dX6_numberFor_12 rfl (ct_X9_at n 2 zt_2 a0 3 m ha0 (by decide)) zc_X9 lx_2 k_730 k_264 k_265 k_3 k_266 zn_X9_at ⟨rfl, rfl, Nat.le_of_ble_eq_true rfl, Nat.le_of_ble_eq_true rfl⟩ (Nat.le_of_ble_eq_true rfl) rfl (fun v3 m4 h5 ho6 => ?_)
  refine z_callS1 dX6_numberFor_15 rfl (ct_X8_roundedUp n (a1 * (m 1 0)) v3 m4 h2 h5) k_731 k_463 k_15 k_464 zn_X8_roundedUp ⟨rfl, rfl, Nat.le_of_ble_eq_true rfl, Nat.le_of_ble_eq_true rfl⟩ (Nat.le_of_ble_eq_true rfl) rfl (fun v7 m8 h9 ho10 => ?_)
  refine z_istore_n dX6_numberFor_18 (lv' := [(3, .int (mI v7)), (0, .ref (ad 1)), (1, .int (mI a0)), (2, .int (mI a1))]) (by decide) rfl ?_
  refine z_iload_n dX6_numberFor_19 0 rfl ?_
  refine z_iconst dX6_numberFor_20 ?_
  refine z_mmax dX6_numberFor_21 h9 (by decide) k_732 k_41 k_4 k_42 (Nat.le_of_ble_eq_true rfl) (Nat.le_of_ble_eq_true rfl) (fun h11 => ?_)
  refine z_istore dX6_numberFor_24 (lv' := [(4, .int (mI (max v7 1))), (3, .int (mI v7)), (0, .ref (ad 1)), (1, .int (mI a0)), (2, .int (mI a1))]) (by decide) rfl ?_
  refine z_iload dX6_numberFor_26 0 rfl ?_
  refine z_sipush dX6_numberFor_28 (x := 999) (by decide +kernel) ?_
  refine z_icmp_le dX6_numberFor_31 h11 (by decide) (tgt := 39) rfl (fun h12 => ?_) (fun h12 => ?_)
  · refine z_iload dX6_numberFor_39 0 rfl ?_
    exact z_iret dX6_numberFor_41 rfl rfl h11
  · refine z_bipush dX6_numberFor_34 (x := (-9)) (by decide +kernel) ?_
    refine z_goto dX6_numberFor_36 (tgt := 41) rfl ?_
    exact z_iret dX6_numberFor_41 rfl rfl (by decide)
set_option maxRecDepth 20000 in
theorem ct_X6_moreOf {ad sc sv : Nat → Nat} (n : Nat) (a0 : Int) (a1 : Int) (a2 : Int) (m : ZMem) (ha0 : R32 a0) (ha1 : R32 a1) (ha2 : R32 a2) : zCT LX ad sc sv M_X6_moreOf yX6_moreOf [.ref (ad 1), .int (mI a0), .int (mI a1), .int (mI a2)] m (F_X6_moreOf n a0 a1 a2 m) := by
  refine zCT_of (lv := [(0, .ref (ad 1)), (1, .int (mI a0)), (2, .int (mI a1)), (3, .int (mI a2))]) (by decide) rfl (Nat.le_of_ble_eq_true rfl) rfl ?_
  unfold F_X6_moreOf
  refine z_aload_n dX6_moreOf_0 0 rfl ?_
  refine z_iload_n dX6_moreOf_1 1 rfl ?_
  refine z_iload_n dX6_moreOf_2 2 rfl ?_
  refine z_callS1 dX6_moreOf_3 rfl (ct_X6_numberFor n a0 a1 m ha0 ha1) k_744 k_728 k_16 k_729 zn_X6_numberFor ⟨rfl, rfl, Nat.le_of_ble_eq_true rfl, Nat.le_of_ble_eq_true rfl⟩ (Nat.le_of_ble_eq_true rfl) rfl (fun v1 m2 h3 ho4 => ?_)
  refine z_istore dX6_moreOf_6 (lv' := [(4, .int (mI v1)), (0, .ref (ad 1)), (1, .int (mI a0)), (2, .int (mI a1)), (3, .int (mI a2))]) (by decide) rfl ?_
  refine z_iload dX6_moreOf_8 0 rfl ?_
  refine z_bipush dX6_moreOf_10 (x := (-9)) (by decide +kernel) ?_
  refine z_icmp_ne dX6_moreOf_12 h3 (by decide) (tgt := 18) rfl (fun h5 => ?_) (fun h5 => ?_)
  · refine z_bipush dX6_moreOf_15 (x := (-9)) (by decide +kernel) ?_
    exact z_iret dX6_moreOf_17 rfl rfl (by decide)
  · refine z_bipush dX6_moreOf_18 (x := 12) (by decide +kernel) ?_
    refine z_aload_n dX6_moreOf_20 1 rfl ?_
    refine z_getR dX6_moreOf_21 (k := 4) (j := 2) zc_X3 lx_1 rfl (by decide) k_83 ?_
    refine z_iload_n dX6_moreOf_24 4 rfl ?_
    refine z_iconst dX6_moreOf_25 ?_
    refine z_callV1 dX6_moreOf_26 rfl (ct_X9_at n 2 zt_2 a2 3 m2 ha2 (by decide)) zc_X9 lx_2 k_730 k_264 k_265 k_3 k_266 zn_X9_at ⟨rfl, rfl, Nat.le_of_ble_eq_true rfl, Nat.le_of_ble_eq_true rfl⟩ (Nat.le_of_ble_eq_true rfl) rfl (fun v6 m7 h8 ho9 => ?_)
    refine z_imul dX6_moreOf_29 (fun h10 => ?_)
    refine z_iload dX6_moreOf_30 0 rfl ?_
    refine z_imul dX6_moreOf_32 (fun h11 => ?_)
    refine z_istore dX6_moreOf_33 (lv' := [(5, .int (mI ((12 * v6) * v1))), (4, .int (mI v1)), (0, .ref (ad 1)), (1, .int (mI a0)), (2, .int (mI a1)), (3, .int (mI a2))]) (by decide) rfl ?_
    refine z_aload_n dX6_moreOf_35 2 rfl ?_
    refine z_iload_n dX6_moreOf_36 5 rfl ?_
    refine z_callV1 dX6_moreOf_37 rfl (ct_X3_takenNow n a2 m7 ha2) zc_X3 lx_1 k_745 k_450 k_451 k_2 k_452 zn_X3_takenNow ⟨rfl, rfl, Nat.le_of_ble_eq_true rfl, Nat.le_of_ble_eq_true rfl⟩ (Nat.le_of_ble_eq_true rfl) rfl (fun v12 m13 h14 ho15 => ?_)
    refine z_aload_n dX6_moreOf_40 2 rfl ?_
    refine z_getI dX6_moreOf_41 (k := 0) zc_X3 lx_1 rfl (by decide) k_66 (fun h16 => ?_)
    refine z_imul dX6_moreOf_44 (fun h17 => ?_)
    refine z_istore dX6_moreOf_45 (lv' := [(6, .int (mI (v12 * (m13 1 0)))), (5, .int (mI ((12 * v6) * v1))), (4, .int (mI v1)), (0, .ref (ad 1)), (1, .int (mI a0)), (2, .int (mI a1)), (3, .int (mI a2))]) (by decide) rfl ?_
    refine z_iload dX6_moreOf_47 1 rfl ?_
    refine z_iload dX6_moreOf_49 0 rfl ?_
    refine z_isub dX6_moreOf_51 (fun h18 => ?_)
    refine z_bipush dX6_moreOf_52 (x := 12) (by decide +kernel) ?_
    refine z_aload_n dX6_moreOf_54 3 rfl ?_
    refine z_getI dX6_moreOf_55 (k := 0) zc_X3 lx_1 rfl (by decide) k_66 (fun h19 => ?_)
    refine z_imul dX6_moreOf_58 (fun h20 => ?_)
    refine z_callS1 dX6_moreOf_59 rfl (ct_X8_roundedUp n (((12 * v6) * v1) - (v12 * (m13 1 0))) (12 * (m13 1 0)) m13 h18 h20) k_731 k_463 k_15 k_464 zn_X8_roundedUp ⟨rfl, rfl, Nat.le_of_ble_eq_true rfl, Nat.le_of_ble_eq_true rfl⟩ (Nat.le_of_ble_eq_true rfl) rfl (fun v21 m22 h23 ho24 => ?_)
    exact z_iret dX6_moreOf_62 rfl rfl h23
set_option maxRecDepth 20000 in
theorem T_X6_lotsFor_66 {ad sc sv : Nat → Nat} (n : Nat) (r14 : Int → Int → Int → Int → Int → Int → Int → ZMem → ZR) (r24 : Int → Int → Int → Int → Int → Int → Int → Int → ZMem → ZR) (hr14 : ∀ (x0 : Int) (x1 : Int) (x2 : Int) (x3 : Int) (x4 : Int) (x5 : Int) (x6 : Int) (m : ZMem), R32 x0 → R32 x1 → R32 x2 → R32 x3 → R32 x4 → R32 x5 → R32 x6 → zG LX ad sc sv M_X6_lotsFor 14 [(0, .int (mI x0)), (1, .int (mI x1)), (2, .int (mI x2)), (3, .int (mI x3)), (4, .int (mI x4)), (5, .int (mI x5)), (6, .int (mI x6))] [] m (r14 x0 x1 x2 x3 x4 x5 x6 m)) (hr24 : ∀ (x0 : Int) (x1 : Int) (x2 : Int) (x3 : Int) (x4 : Int) (x5 : Int) (x6 : Int) (x7 : Int) (m : ZMem), R32 x0 → R32 x1 → R32 x2 → R32 x3 → R32 x4 → R32 x5 → R32 x6 → R32 x7 → zG LX ad sc sv M_X6_lotsFor 24 [(0, .int (mI x0)), (1, .int (mI x1)), (2, .int (mI x2)), (3, .int (mI x3)), (4, .int (mI x4)), (5, .int (mI x5)), (6, .int (mI x6)), (7, .int (mI x7))] [] m (r24 x0 x1 x2 x3 x4 x5 x6 x7 m)) : ∀ (x0 : Int) (x1 : Int) (x2 : Int) (x3 : Int) (x4 : Int) (x5 : Int) (x6 : Int) (x7 : Int) (x8 : Int) (s0 : Int) (m : ZMem), R32 x0 → R32 x1 → R32 x2 → R32 x3 → R32 x4 → R32 x5 → R32 x6 → R32 x7 → R32 x8 → R32 s0 → zG LX ad sc sv M_X6_lotsFor 66 [(0, .int (mI x0)), (1, .int (mI x1)), (2, .int (mI x2)), (3, .int (mI x3)), (4, .int (mI x4)), (5, .int (mI x5)), (6, .int (mI x6)), (7, .int (mI x7)), (8, .int (mI x8))] [.int (mI s0)] m (B_X6_lotsFor_66 n r14 r24 x0 x1 x2 x3 x4 x5 x6 x7 x8 s0 m) := by
  intro x0 x1 x2 x3 x4 x5 x6 x7 x8 s0 m hx0 hx1 hx2 hx3 hx4 hx5 hx6 hx7 hx8 hs0
  unfold B_X6_lotsFor_66
  refine z_istore dX6_lotsFor_66 (lv' := [(9, .int (mI s0)), (0, .int (mI x0)), (1, .int (mI x1)), (2, .int (mI x2)), (3, .int (mI x3)), (4, .int (mI x4)), (5, .int (mI x5)), (6, .int (mI x6)), (7, .int (mI x7)), (8, .int (mI x8))]) (by decide) rfl ?_
  refine z_iload dX6_lotsFor_68 9 rfl ?_
  refine z_if_lt dX6_lotsFor_70 hx8 (tgt := 105) rfl (fun h11 => ?_) (fun h11 => ?_)
  · refine z_iinc dX6_lotsFor_105 (lv' := [(7, .int (mI (x7 + 1))), (9, .int (mI s0)), (0, .int (mI x0)), (1, .int (mI x1)), (2, .int (mI x2)), (3, .int (mI x3)), (4, .int (mI x4)), (5, .int (mI x5)), (6, .int (mI x6)), (8, .int (mI x8))]) 8 rfl (by decide) rfl (fun h12 => ?_)
    refine z_goto dX6_lotsFor_108 (tgt := 24) rfl ?_
    exact zG_lvk (hr24 x0 x1 x2 x3 x4 x5 x6 (x7 + 1) m hx0 hx1 hx2 hx3 hx4 hx5 hx6 h12) [2, 3, 4, 5, 6, 7, 8, 0] rfl
  · refine z_iload dX6_lotsFor_73 9 rfl ?_
    refine z_iload dX6_lotsFor_75 5 rfl ?_
    refine z_icmp_lt dX6_lotsFor_77 hx8 hx4 (tgt := 85) rfl (fun h13 => ?_) (fun h13 => ?_)
    · refine z_bipush dX6_lotsFor_85 (x := 100) (by decide +kernel) ?_
      refine z_iload dX6_lotsFor_87 7 rfl ?_
      refine z_imul dX6_lotsFor_89 (fun h14 => ?_)
      refine z_iload dX6_lotsFor_90 8 rfl ?_
      refine z_iadd dX6_lotsFor_92 (fun h15 => ?_)
      refine z_istore_n dX6_lotsFor_93 (lv' := [(3, .int (mI ((100 * x6) + x7))), (9, .int (mI s0)), (0, .int (mI x0)), (1, .int (mI x1)), (2, .int (mI x2)), (4, .int (mI x4)), (5, .int (mI x5)), (6, .int (mI x6)), (7, .int (mI x7)), (8, .int (mI x8))]) (by decide) rfl ?_
      refine z_iload dX6_lotsFor_94 9 rfl ?_
      refine z_istore dX6_lotsFor_96 (lv' := [(4, .int (mI x8)), (3, .int (mI ((100 * x6) + x7))), (9, .int (mI s0)), (0, .int (mI x0)), (1, .int (mI x1)), (2, .int (mI x2)), (5, .int (mI x5)), (6, .int (mI x6)), (7, .int (mI x7)), (8, .int (mI x8))]) (by decide) rfl ?_
      refine z_iload dX6_lotsFor_98 7 rfl ?_
      refine z_iload dX6_lotsFor_100 8 rfl ?_
      refine z_iadd dX6_lotsFor_102 (fun h16 => ?_)
      refine z_istore dX6_lotsFor_103 (lv' := [(5, .int (mI (x6 + x7))), (4, .int (mI x8)), (3, .int (mI ((100 * x6) + x7))), (9, .int (mI s0)), (0, .int (mI x0)), (1, .int (mI x1)), (2, .int (mI x2)), (6, .int (mI x6)), (7, .int (mI x7)), (8, .int (mI x8))]) (by decide) rfl ?_
      refine z_iinc dX6_lotsFor_105 (lv' := [(7, .int (mI (x7 + 1))), (5, .int (mI (x6 + x7))), (4, .int (mI x8)), (3, .int (mI ((100 * x6) + x7))), (9, .int (mI s0)), (0, .int (mI x0)), (1, .int (mI x1)), (2, .int (mI x2)), (6, .int (mI x6)), (8, .int (mI x8))]) 8 rfl (by decide) rfl (fun h17 => ?_)
      refine z_goto dX6_lotsFor_108 (tgt := 24) rfl ?_
      exact zG_lvk (hr24 x0 x1 x2 ((100 * x6) + x7) x8 (x6 + x7) x6 (x7 + 1) m hx0 hx1 hx2 h15 hx8 h16 hx6 h17) [5, 6, 7, 3, 2, 1, 8, 0] rfl
    · refine z_iload dX6_lotsFor_80 0 rfl ?_
      refine z_if_eq dX6_lotsFor_82 hs0 (tgt := 105) rfl (fun h18 => ?_) (fun h18 => ?_)
      · refine z_iinc dX6_lotsFor_105 (lv' := [(7, .int (mI (x7 + 1))), (9, .int (mI s0)), (0, .int (mI x0)), (1, .int (mI x1)), (2, .int (mI x2)), (3, .int (mI x3)), (4, .int (mI x4)), (5, .int (mI x5)), (6, .int (mI x6)), (8, .int (mI x8))]) 8 rfl (by decide) rfl (fun h19 => ?_)
        refine z_goto dX6_lotsFor_108 (tgt := 24) rfl ?_
        exact zG_lvk (hr24 x0 x1 x2 x3 x4 x5 x6 (x7 + 1) m hx0 hx1 hx2 hx3 hx4 hx5 hx6 h19) [2, 3, 4, 5, 6, 7, 8, 0] rfl
      · refine z_bipush dX6_lotsFor_85 (x := 100) (by decide +kernel) ?_
        refine z_iload dX6_lotsFor_87 7 rfl ?_
        refine z_imul dX6_lotsFor_89 (fun h20 => ?_)
        refine z_iload dX6_lotsFor_90 8 rfl ?_
        refine z_iadd dX6_lotsFor_92 (fun h21 => ?_)
        refine z_istore_n dX6_lotsFor_93 (lv' := [(3, .int (mI ((100 * x6) + x7))), (9, .int (mI s0)), (0, .int (mI x0)), (1, .int (mI x1)), (2, .int (mI x2)), (4, .int (mI x4)), (5, .int (mI x5)), (6, .int (mI x6)), (7, .int (mI x7)), (8, .int (mI x8))]) (by decide) rfl ?_
        refine z_iload dX6_lotsFor_94 9 rfl ?_
        refine z_istore dX6_lotsFor_96 (lv' := [(4, .int (mI x8)), (3, .int (mI ((100 * x6) + x7))), (9, .int (mI s0)), (0, .int (mI x0)), (1, .int (mI x1)), (2, .int (mI x2)), (5, .int (mI x5)), (6, .int (mI x6)), (7, .int (mI x7)), (8, .int (mI x8))]) (by decide) rfl ?_
        refine z_iload dX6_lotsFor_98 7 rfl ?_
        refine z_iload dX6_lotsFor_100 8 rfl ?_
        refine z_iadd dX6_lotsFor_102 (fun h22 => ?_)
        refine z_istore dX6_lotsFor_103 (lv' := [(5, .int (mI (x6 + x7))), (4, .int (mI x8)), (3, .int (mI ((100 * x6) + x7))), (9, .int (mI s0)), (0, .int (mI x0)), (1, .int (mI x1)), (2, .int (mI x2)), (6, .int (mI x6)), (7, .int (mI x7)), (8, .int (mI x8))]) (by decide) rfl ?_
        refine z_iinc dX6_lotsFor_105 (lv' := [(7, .int (mI (x7 + 1))), (5, .int (mI (x6 + x7))), (4, .int (mI x8)), (3, .int (mI ((100 * x6) + x7))), (9, .int (mI s0)), (0, .int (mI x0)), (1, .int (mI x1)), (2, .int (mI x2)), (6, .int (mI x6)), (8, .int (mI x8))]) 8 rfl (by decide) rfl (fun h23 => ?_)
        refine z_goto dX6_lotsFor_108 (tgt := 24) rfl ?_
        exact zG_lvk (hr24 x0 x1 x2 ((100 * x6) + x7) x8 (x6 + x7) x6 (x7 + 1) m hx0 hx1 hx2 h21 hx8 h22 hx6 h23) [5, 6, 7, 3, 2, 1, 8, 0] rfl
set_option maxRecDepth 20000 in
theorem T_X6_lotsFor_24 {ad sc sv : Nat → Nat} (n : Nat) (r14 : Int → Int → Int → Int → Int → Int → Int → ZMem → ZR) (r24 : Int → Int → Int → Int → Int → Int → Int → Int → ZMem → ZR) (hr14 : ∀ (x0 : Int) (x1 : Int) (x2 : Int) (x3 : Int) (x4 : Int) (x5 : Int) (x6 : Int) (m : ZMem), R32 x0 → R32 x1 → R32 x2 → R32 x3 → R32 x4 → R32 x5 → R32 x6 → zG LX ad sc sv M_X6_lotsFor 14 [(0, .int (mI x0)), (1, .int (mI x1)), (2, .int (mI x2)), (3, .int (mI x3)), (4, .int (mI x4)), (5, .int (mI x5)), (6, .int (mI x6))] [] m (r14 x0 x1 x2 x3 x4 x5 x6 m)) (hr24 : ∀ (x0 : Int) (x1 : Int) (x2 : Int) (x3 : Int) (x4 : Int) (x5 : Int) (x6 : Int) (x7 : Int) (m : ZMem), R32 x0 → R32 x1 → R32 x2 → R32 x3 → R32 x4 → R32 x5 → R32 x6 → R32 x7 → zG LX ad sc sv M_X6_lotsFor 24 [(0, .int (mI x0)), (1, .int (mI x1)), (2, .int (mI x2)), (3, .int (mI x3)), (4, .int (mI x4)), (5, .int (mI x5)), (6, .int (mI x6)), (7, .int (mI x7))] [] m (r24 x0 x1 x2 x3 x4 x5 x6 x7 m)) : ∀ (x0 : Int) (x1 : Int) (x2 : Int) (x3 : Int) (x4 : Int) (x5 : Int) (x6 : Int) (x7 : Int) (m : ZMem), R32 x0 → R32 x1 → R32 x2 → R32 x3 → R32 x4 → R32 x5 → R32 x6 → R32 x7 → zG LX ad sc sv M_X6_lotsFor 24 [(0, .int (mI x0)), (1, .int (mI x1)), (2, .int (mI x2)), (3, .int (mI x3)), (4, .int (mI x4)), (5, .int (mI x5)), (6, .int (mI x6)), (7, .int (mI x7))] [] m (B_X6_lotsFor_24 n r14 r24 x0 x1 x2 x3 x4 x5 x6 x7 m) := by
  intro x0 x1 x2 x3 x4 x5 x6 x7 m hx0 hx1 hx2 hx3 hx4 hx5 hx6 hx7
  unfold B_X6_lotsFor_24
  refine z_iload dX6_lotsFor_24 7 rfl ?_
  refine z_bipush dX6_lotsFor_26 (x := 24) (by decide +kernel) ?_
  refine z_icmp_gt dX6_lotsFor_28 hx7 (by decide) (tgt := 111) rfl (fun h2 => ?_) (fun h2 => ?_)
  · refine z_iinc dX6_lotsFor_111 (lv' := [(6, .int (mI (x6 + 1))), (0, .int (mI x0)), (1, .int (mI x1)), (2, .int (mI x2)), (3, .int (mI x3)), (4, .int (mI x4)), (5, .int (mI x5)), (7, .int (mI x7))]) 6 rfl (by decide) rfl (fun h3 => ?_)
    refine z_goto dX6_lotsFor_114 (tgt := 14) rfl ?_
    exact zG_lvk (hr14 x0 x1 x2 x3 x4 x5 (x6 + 1) m hx0 hx1 hx2 hx3 hx4 hx5 h3) [1, 2, 3, 4, 5, 6, 0] rfl
  · refine z_iload dX6_lotsFor_31 6 rfl ?_
    refine z_iload_n dX6_lotsFor_33 1 rfl ?_
    refine z_imul dX6_lotsFor_34 (fun h4 => ?_)
    refine z_iload dX6_lotsFor_35 7 rfl ?_
    refine z_iload_n dX6_lotsFor_37 2 rfl ?_
    refine z_imul dX6_lotsFor_38 (fun h5 => ?_)
    refine z_iadd dX6_lotsFor_39 (fun h6 => ?_)
    refine z_iload_n dX6_lotsFor_40 0 rfl ?_
    refine z_isub dX6_lotsFor_41 (fun h7 => ?_)
    refine z_istore dX6_lotsFor_42 (lv' := [(8, .int (mI (((x6 * x1) + (x7 * x2)) - x0))), (0, .int (mI x0)), (1, .int (mI x1)), (2, .int (mI x2)), (3, .int (mI x3)), (4, .int (mI x4)), (5, .int (mI x5)), (6, .int (mI x6)), (7, .int (mI x7))]) (by decide) rfl ?_
    refine z_iload dX6_lotsFor_44 0 rfl ?_
    refine z_iload dX6_lotsFor_46 5 rfl ?_
    refine z_icmp_ne dX6_lotsFor_48 h7 hx4 (tgt := 65) rfl (fun h8 => ?_) (fun h8 => ?_)
    · refine z_iload dX6_lotsFor_51 7 rfl ?_
      refine z_iload dX6_lotsFor_53 8 rfl ?_
      refine z_iadd dX6_lotsFor_55 (fun h9 => ?_)
      refine z_iload dX6_lotsFor_56 6 rfl ?_
      refine z_icmp_ge dX6_lotsFor_58 h9 hx5 (tgt := 65) rfl (fun h10 => ?_) (fun h10 => ?_)
      · refine z_iconst dX6_lotsFor_65 ?_
        exact zG_lvk (T_X6_lotsFor_66 n r14 r24 hr14 hr24 x0 x1 x2 x3 x4 x5 x6 x7 (((x6 * x1) + (x7 * x2)) - x0) 0 m hx0 hx1 hx2 hx3 hx4 hx5 hx6 hx7 h7 (by decide)) [1, 2, 3, 4, 5, 6, 7, 8, 0] rfl
      · refine z_iconst dX6_lotsFor_61 ?_
        refine z_goto dX6_lotsFor_62 (tgt := 66) rfl ?_
        exact zG_lvk (T_X6_lotsFor_66 n r14 r24 hr14 hr24 x0 x1 x2 x3 x4 x5 x6 x7 (((x6 * x1) + (x7 * x2)) - x0) 1 m hx0 hx1 hx2 hx3 hx4 hx5 hx6 hx7 h7 (by decide)) [1, 2, 3, 4, 5, 6, 7, 8, 0] rfl
    · refine z_iconst dX6_lotsFor_65 ?_
      exact zG_lvk (T_X6_lotsFor_66 n r14 r24 hr14 hr24 x0 x1 x2 x3 x4 x5 x6 x7 (((x6 * x1) + (x7 * x2)) - x0) 0 m hx0 hx1 hx2 hx3 hx4 hx5 hx6 hx7 h7 (by decide)) [1, 2, 3, 4, 5, 6, 7, 8, 0] rfl
theorem TL_X6_lotsFor_24 {ad sc sv : Nat → Nat} (n : Nat) (r14 : Int → Int → Int → Int → Int → Int → Int → ZMem → ZR) (hr14 : ∀ (x0 : Int) (x1 : Int) (x2 : Int) (x3 : Int) (x4 : Int) (x5 : Int) (x6 : Int) (m : ZMem), R32 x0 → R32 x1 → R32 x2 → R32 x3 → R32 x4 → R32 x5 → R32 x6 → zG LX ad sc sv M_X6_lotsFor 14 [(0, .int (mI x0)), (1, .int (mI x1)), (2, .int (mI x2)), (3, .int (mI x3)), (4, .int (mI x4)), (5, .int (mI x5)), (6, .int (mI x6))] [] m (r14 x0 x1 x2 x3 x4 x5 x6 m)) : ∀ q : Nat, ∀ (x0 : Int) (x1 : Int) (x2 : Int) (x3 : Int) (x4 : Int) (x5 : Int) (x6 : Int) (x7 : Int) (m : ZMem), R32 x0 → R32 x1 → R32 x2 → R32 x3 → R32 x4 → R32 x5 → R32 x6 → R32 x7 → zG LX ad sc sv M_X6_lotsFor 24 [(0, .int (mI x0)), (1, .int (mI x1)), (2, .int (mI x2)), (3, .int (mI x3)), (4, .int (mI x4)), (5, .int (mI x5)), (6, .int (mI x6)), (7, .int (mI x7))] [] m (L_X6_lotsFor_24 n r14 q x0 x1 x2 x3 x4 x5 x6 x7 m) := by
  intro q
  induction q with
  | zero => intros; exact zG_none
  | succ q ih => exact T_X6_lotsFor_24 n r14 (L_X6_lotsFor_24 n r14 q) hr14 ih
set_option maxRecDepth 20000 in
theorem T_X6_lotsFor_14 {ad sc sv : Nat → Nat} (n : Nat) (r14 : Int → Int → Int → Int → Int → Int → Int → ZMem → ZR) (hr14 : ∀ (x0 : Int) (x1 : Int) (x2 : Int) (x3 : Int) (x4 : Int) (x5 : Int) (x6 : Int) (m : ZMem), R32 x0 → R32 x1 → R32 x2 → R32 x3 → R32 x4 → R32 x5 → R32 x6 → zG LX ad sc sv M_X6_lotsFor 14 [(0, .int (mI x0)), (1, .int (mI x1)), (2, .int (mI x2)), (3, .int (mI x3)), (4, .int (mI x4)), (5, .int (mI x5)), (6, .int (mI x6))] [] m (r14 x0 x1 x2 x3 x4 x5 x6 m)) : ∀ (x0 : Int) (x1 : Int) (x2 : Int) (x3 : Int) (x4 : Int) (x5 : Int) (x6 : Int) (m : ZMem), R32 x0 → R32 x1 → R32 x2 → R32 x3 → R32 x4 → R32 x5 → R32 x6 → zG LX ad sc sv M_X6_lotsFor 14 [(0, .int (mI x0)), (1, .int (mI x1)), (2, .int (mI x2)), (3, .int (mI x3)), (4, .int (mI x4)), (5, .int (mI x5)), (6, .int (mI x6))] [] m (B_X6_lotsFor_14 n r14 x0 x1 x2 x3 x4 x5 x6 m) := by
  intro x0 x1 x2 x3 x4 x5 x6 m hx0 hx1 hx2 hx3 hx4 hx5 hx6
  unfold B_X6_lotsFor_14
  refine z_iload dX6_lotsFor_14 6 rfl ?_
  refine z_bipush dX6_lotsFor_16 (x := 24) (by decide +kernel) ?_
  refine z_icmp_gt dX6_lotsFor_18 hx6 (by decide) (tgt := 117) rfl (fun h1 => ?_) (fun h1 => ?_)
  · refine z_iload_n dX6_lotsFor_117 3 rfl ?_
    exact z_iret dX6_lotsFor_118 rfl rfl hx3
  · refine z_iconst dX6_lotsFor_21 ?_
    refine z_istore dX6_lotsFor_22 (lv' := [(7, .int (mI 0)), (0, .int (mI x0)), (1, .int (mI x1)), (2, .int (mI x2)), (3, .int (mI x3)), (4, .int (mI x4)), (5, .int (mI x5)), (6, .int (mI x6))]) (by decide) rfl ?_
    exact zG_lvk (TL_X6_lotsFor_24 n r14 hr14 n x0 x1 x2 x3 x4 x5 x6 0 m hx0 hx1 hx2 hx3 hx4 hx5 hx6 (by decide)) [1, 2, 3, 4, 5, 6, 7, 0] rfl
theorem TL_X6_lotsFor_14 {ad sc sv : Nat → Nat} (n : Nat) : ∀ q : Nat, ∀ (x0 : Int) (x1 : Int) (x2 : Int) (x3 : Int) (x4 : Int) (x5 : Int) (x6 : Int) (m : ZMem), R32 x0 → R32 x1 → R32 x2 → R32 x3 → R32 x4 → R32 x5 → R32 x6 → zG LX ad sc sv M_X6_lotsFor 14 [(0, .int (mI x0)), (1, .int (mI x1)), (2, .int (mI x2)), (3, .int (mI x3)), (4, .int (mI x4)), (5, .int (mI x5)), (6, .int (mI x6))] [] m (L_X6_lotsFor_14 n q x0 x1 x2 x3 x4 x5 x6 m) := by
  intro q
  induction q with
  | zero => intros; exact zG_none
  | succ q ih => exact T_X6_lotsFor_14 n (L_X6_lotsFor_14 n q) ih
set_option maxRecDepth 20000 in
theorem ct_X6_lotsFor {ad sc sv : Nat → Nat} (n : Nat) (a0 : Int) (a1 : Int) (a2 : Int) (m : ZMem) (ha0 : R32 a0) (ha1 : R32 a1) (ha2 : R32 a2) : zCT LX ad sc sv M_X6_lotsFor yX6_lotsFor [.int (mI a0), .int (mI a1), .int (mI a2)] m (F_X6_lotsFor n a0 a1 a2 m) := by
  refine zCT_of (lv := [(0, .int (mI a0)), (1, .int (mI a1)), (2, .int (mI a2))]) (by decide) rfl (Nat.le_of_ble_eq_true rfl) rfl ?_
  unfold F_X6_lotsFor
  refine z_bipush dX6_lotsFor_0 (x := (-9)) (by decide +kernel) ?_
  refine z_istore_n dX6_lotsFor_2 (lv' := [(3, .int (mI (-9))), (0, .int (mI a0)), (1, .int (mI a1)), (2, .int (mI a2))]) (by decide) rfl ?_
  refine z_ldc dX6_lotsFor_3 (x := 1000000000) k_753 ?_
  refine z_istore dX6_lotsFor_5 (lv' := [(4, .int (mI 1000000000)), (3, .int (mI (-9))), (0, .int (mI a0)), (1, .int (mI a1)), (2, .int (mI a2))]) (by decide) rfl ?_
  refine z_ldc dX6_lotsFor_7 (x := 1000000000) k_753 ?_
  refine z_istore dX6_lotsFor_9 (lv' := [(5, .int (mI 1000000000)), (4, .int (mI 1000000000)), (3, .int (mI (-9))), (0, .int (mI a0)), (1, .int (mI a1)), (2, .int (mI a2))]) (by decide) rfl ?_
  refine z_iconst dX6_lotsFor_11 ?_
  refine z_istore dX6_lotsFor_12 (lv' := [(6, .int (mI 0)), (5, .int (mI 1000000000)), (4, .int (mI 1000000000)), (3, .int (mI (-9))), (0, .int (mI a0)), (1, .int (mI a1)), (2, .int (mI a2))]) (by decide) rfl ?_
  exact zG_lvk (TL_X6_lotsFor_14 n n a0 a1 a2 (-9) 1000000000 1000000000 0 m ha0 ha1 ha2 (by decide) (by decide) (by decide) (by decide)) [4, 5, 6, 3, 2, 1, 0] rfl
set_option maxRecDepth 20000 in
theorem ct_X6_nextSeed {ad sc sv : Nat → Nat} (n : Nat) (a0 : Int) (m : ZMem) (ha0 : R32 a0) : zCT LX ad sc sv M_X6_nextSeed yX6_nextSeed [.int (mI a0)] m (F_X6_nextSeed n a0 m) := by
  refine zCT_of (lv := [(0, .int (mI a0))]) (by decide) rfl (Nat.le_of_ble_eq_true rfl) rfl ?_
  unfold F_X6_nextSeed
  refine z_iload_n dX6_nextSeed_0 0 rfl ?_
  refine z_ldc dX6_nextSeed_1 (x := 1103515245) k_822 ?_
  refine z_imulW dX6_nextSeed_3 (fun h1 => ?_)
  refine z_sipush dX6_nextSeed_4 (x := 12345) (by decide +kernel) ?_
  refine z_iaddW dX6_nextSeed_7 (fun h2 => ?_)
  exact z_iret dX6_nextSeed_8 rfl rfl h2
set_option maxRecDepth 20000 in
theorem ct_X6_guestsBy {ad sc sv : Nat → Nat} (n : Nat) (a0 : Int) (m : ZMem) (ha0 : R32 a0) : zCT LX ad sc sv M_X6_guestsBy yX6_guestsBy [.int (mI a0)] m (F_X6_guestsBy n a0 m) := by
  refine zCT_of (lv := [(0, .int (mI a0))]) (by decide) rfl (Nat.le_of_ble_eq_true rfl) rfl ?_
  unfold F_X6_guestsBy
  refine z_iload_n dX6_guestsBy_0 0 rfl ?_
  refine z_ldc dX6_guestsBy_1 (x := 2147483647) k_826 ?_
  refine z_iandm dX6_guestsBy_3 31 (by decide +kernel) (by decide) (fun h1 => ?_)
  refine z_ldc dX6_guestsBy_4 (x := 65536) k_827 ?_
  refine z_idiv dX6_guestsBy_6 h1 (by decide) (fun h2 => ?_)
  refine z_bipush dX6_guestsBy_7 (x := 24) (by decide +kernel) ?_
  refine z_irem dX6_guestsBy_9 h2 (by decide) (fun h3 => ?_)
  refine z_iconst dX6_guestsBy_10 ?_
  refine z_iadd dX6_guestsBy_11 (fun h4 => ?_)
  exact z_iret dX6_guestsBy_12 rfl rfl h4
set_option maxRecDepth 20000 in
theorem T_X6_bakingsOff_8 {ad sc sv : Nat → Nat} (n : Nat) (r8 : Int → Int → Int → Int → ZMem → ZR) (hr8 : ∀ (x1 : Int) (x3 : Int) (x4 : Int) (x5 : Int) (m : ZMem), R32 x1 → R32 x3 → R32 x4 → R32 x5 → zG LX ad sc sv M_X6_bakingsOff 8 [(0, .ref (ad 1)), (1, .int (mI x1)), (3, .int (mI x3)), (4, .int (mI x4)), (5, .int (mI x5))] [] m (r8 x1 x3 x4 x5 m)) : ∀ (x1 : Int) (x3 : Int) (x4 : Int) (x5 : Int) (m : ZMem), R32 x1 → R32 x3 → R32 x4 → R32 x5 → zG LX ad sc sv M_X6_bakingsOff 8 [(0, .ref (ad 1)), (1, .int (mI x1)), (3, .int (mI x3)), (4, .int (mI x4)), (5, .int (mI x5))] [] m (B_X6_bakingsOff_8 n r8 x1 x3 x4 x5 m) := by
  intro x1 x3 x4 x5 m hx1 hx3 hx4 hx5
  unfold B_X6_bakingsOff_8
  refine z_iload dX6_bakingsOff_8 4 rfl ?_
  refine z_iload_n dX6_bakingsOff_10 1 rfl ?_
  refine z_icmp_ge dX6_bakingsOff_11 hx5 hx1 (tgt := 39) rfl (fun h1 => ?_) (fun h1 => ?_)
  · refine z_iload_n dX6_bakingsOff_39 2 rfl ?_
    exact z_iret dX6_bakingsOff_40 rfl rfl hx3
  · refine z_iload dX6_bakingsOff_14 3 rfl ?_
    refine z_callS1 dX6_bakingsOff_16 rfl (ct_X6_nextSeed n x4 m hx4) k_819 k_820 k_16 k_821 zn_X6_nextSeed ⟨rfl, rfl, Nat.le_of_ble_eq_true rfl, Nat.le_of_ble_eq_true rfl⟩ (Nat.le_of_ble_eq_true rfl) rfl (fun v2 m3 h4 ho5 => ?_)
    refine z_istore dX6_bakingsOff_19 (lv' := [(4, .int (mI v2)), (0, .ref (ad 1)), (1, .int (mI x1)), (3, .int (mI x3)), (5, .int (mI x5))]) (by decide) rfl ?_
    refine z_iload_n dX6_bakingsOff_21 3 rfl ?_
    refine z_aload_n dX6_bakingsOff_22 1 rfl ?_
    refine z_iload dX6_bakingsOff_23 0 rfl ?_
    refine z_callS1 dX6_bakingsOff_25 rfl (ct_X6_guestsBy n v2 m3 h4) k_823 k_824 k_16 k_825 zn_X6_guestsBy ⟨rfl, rfl, Nat.le_of_ble_eq_true rfl, Nat.le_of_ble_eq_true rfl⟩ (Nat.le_of_ble_eq_true rfl) rfl (fun v6 m7 h8 ho9 => ?_)
    refine z_callV1 dX6_bakingsOff_28 rfl (ct_X3_allOff n v6 m7 h8) zc_X3 lx_1 k_549 k_529 k_530 k_2 k_531 zn_X3_allOff ⟨rfl, rfl, Nat.le_of_ble_eq_true rfl, Nat.le_of_ble_eq_true rfl⟩ (Nat.le_of_ble_eq_true rfl) rfl (fun v10 m11 h12 ho13 => ?_)
    refine z_iadd dX6_bakingsOff_31 (fun h14 => ?_)
    refine z_istore_n dX6_bakingsOff_32 (lv' := [(3, .int (mI (x3 + v10))), (4, .int (mI v2)), (0, .ref (ad 1)), (1, .int (mI x1)), (5, .int (mI x5))]) (by decide) rfl ?_
    refine z_iinc dX6_bakingsOff_33 (lv' := [(5, .int (mI (x5 + 1))), (3, .int (mI (x3 + v10))), (4, .int (mI v2)), (0, .ref (ad 1)), (1, .int (mI x1))]) 4 rfl (by decide) rfl (fun h15 => ?_)
    refine z_goto dX6_bakingsOff_36 (tgt := 8) rfl ?_
    exact zG_lvk (hr8 x1 (x3 + v10) v2 (x5 + 1) m11 hx1 h14 h4 h15) [3, 4, 1, 2, 0] rfl
theorem TL_X6_bakingsOff_8 {ad sc sv : Nat → Nat} (n : Nat) : ∀ q : Nat, ∀ (x1 : Int) (x3 : Int) (x4 : Int) (x5 : Int) (m : ZMem), R32 x1 → R32 x3 → R32 x4 → R32 x5 → zG LX ad sc sv M_X6_bakingsOff 8 [(0, .ref (ad 1)), (1, .int (mI x1)), (3, .int (mI x3)), (4, .int (mI x4)), (5, .int (mI x5))] [] m (L_X6_bakingsOff_8 n q x1 x3 x4 x5 m) := by
  intro q
  induction q with
  | zero => intros; exact zG_none
  | succ q ih => exact T_X6_bakingsOff_8 n (L_X6_bakingsOff_8 n q) ih
set_option maxRecDepth 20000 in
theorem ct_X6_bakingsOff {ad sc sv : Nat → Nat} (n : Nat) (a0 : Int) (a1 : Int) (m : ZMem) (ha0 : R32 a0) (ha1 : R32 a1) : zCT LX ad sc sv M_X6_bakingsOff yX6_bakingsOff [.ref (ad 1), .int (mI a0), .int (mI a1)] m (F_X6_bakingsOff n a0 a1 m) := by
  refine zCT_of (lv := [(0, .ref (ad 1)), (1, .int (mI a0)), (2, .int (mI a1))]) (by decide) rfl (Nat.le_of_ble_eq_true rfl) rfl ?_
  unfold F_X6_bakingsOff
  refine z_iconst dX6_bakingsOff_0 ?_
  refine z_istore_n dX6_bakingsOff_1 (lv' := [(3, .int (mI 0)), (0, .ref (ad 1)), (1, .int (mI a0)), (2, .int (mI a1))]) (by decide) rfl ?_
  refine z_iload_n dX6_bakingsOff_2 3 rfl ?_
  refine z_istore dX6_bakingsOff_3 (lv' := [(4, .int (mI a1)), (3, .int (mI 0)), (0, .ref (ad 1)), (1, .int (mI a0)), (2, .int (mI a1))]) (by decide) rfl ?_
  refine z_iconst dX6_bakingsOff_5 ?_
  refine z_istore dX6_bakingsOff_6 (lv' := [(5, .int (mI 0)), (4, .int (mI a1)), (3, .int (mI 0)), (0, .ref (ad 1)), (1, .int (mI a0)), (2, .int (mI a1))]) (by decide) rfl ?_
  exact zG_lvk (TL_X6_bakingsOff_8 n n a0 0 a1 0 m ha0 (by decide) ha1 (by decide)) [3, 4, 2, 1, 0] rfl
set_option maxRecDepth 20000 in
theorem T_X6_bakingsFed_8 {ad sc sv : Nat → Nat} (n : Nat) (r8 : Int → Int → Int → Int → ZMem → ZR) (hr8 : ∀ (x1 : Int) (x3 : Int) (x4 : Int) (x5 : Int) (m : ZMem), R32 x1 → R32 x3 → R32 x4 → R32 x5 → zG LX ad sc sv M_X6_bakingsFed 8 [(0, .ref (ad 1)), (1, .int (mI x1)), (3, .int (mI x3)), (4, .int (mI x4)), (5, .int (mI x5))] [] m (r8 x1 x3 x4 x5 m)) : ∀ (x1 : Int) (x3 : Int) (x4 : Int) (x5 : Int) (m : ZMem), R32 x1 → R32 x3 → R32 x4 → R32 x5 → zG LX ad sc sv M_X6_bakingsFed 8 [(0, .ref (ad 1)), (1, .int (mI x1)), (3, .int (mI x3)), (4, .int (mI x4)), (5, .int (mI x5))] [] m (B_X6_bakingsFed_8 n r8 x1 x3 x4 x5 m) := by
  intro x1 x3 x4 x5 m hx1 hx3 hx4 hx5
  unfold B_X6_bakingsFed_8
  refine z_iload dX6_bakingsFed_8 4 rfl ?_
  refine z_iload_n dX6_bakingsFed_10 1 rfl ?_
  refine z_icmp_ge dX6_bakingsFed_11 hx5 hx1 (tgt := 42) rfl (fun h1 => ?_) (fun h1 => ?_)
  · refine z_iload_n dX6_bakingsFed_42 2 rfl ?_
    exact z_iret dX6_bakingsFed_43 rfl rfl hx3
  · refine z_iload dX6_bakingsFed_14 3 rfl ?_
    refine z_callS1 dX6_bakingsFed_16 rfl (ct_X6_nextSeed n x4 m hx4) k_819 k_820 k_16 k_821 zn_X6_nextSeed ⟨rfl, rfl, Nat.le_of_ble_eq_true rfl, Nat.le_of_ble_eq_true rfl⟩ (Nat.le_of_ble_eq_true rfl) rfl (fun v2 m3 h4 ho5 => ?_)
    refine z_istore dX6_bakingsFed_19 (lv' := [(4, .int (mI v2)), (0, .ref (ad 1)), (1, .int (mI x1)), (3, .int (mI x3)), (5, .int (mI x5))]) (by decide) rfl ?_
    refine z_aload_n dX6_bakingsFed_21 1 rfl ?_
    refine z_iload dX6_bakingsFed_22 0 rfl ?_
    refine z_callS1 dX6_bakingsFed_24 rfl (ct_X6_guestsBy n v2 m3 h4) k_823 k_824 k_16 k_825 zn_X6_guestsBy ⟨rfl, rfl, Nat.le_of_ble_eq_true rfl, Nat.le_of_ble_eq_true rfl⟩ (Nat.le_of_ble_eq_true rfl) rfl (fun v6 m7 h8 ho9 => ?_)
    refine z_callV4 dX6_bakingsFed_27 rfl (ct_X3_feeds n v6 m7 h8) zc_X3 lx_1 k_615 k_616 k_617 k_2 k_618 zn_X3_feeds ⟨rfl, rfl, Nat.le_of_ble_eq_true rfl, Nat.le_of_ble_eq_true rfl⟩ (Nat.le_of_ble_eq_true rfl) rfl (fun v10 m11 h12 ho13 => ?_)
    refine z_if_eq dX6_bakingsFed_30 (zb01 h12) (tgt := 36) rfl (fun h14 => ?_) (fun h14 => ?_)
    · refine z_iinc dX6_bakingsFed_36 (lv' := [(5, .int (mI (x5 + 1))), (4, .int (mI v2)), (0, .ref (ad 1)), (1, .int (mI x1)), (3, .int (mI x3))]) 4 rfl (by decide) rfl (fun h15 => ?_)
      refine z_goto dX6_bakingsFed_39 (tgt := 8) rfl ?_
      exact zG_lvk (hr8 x1 x3 v2 (x5 + 1) m11 hx1 hx3 h4 h15) [2, 3, 4, 1, 0] rfl
    · refine z_iinc dX6_bakingsFed_33 (lv' := [(3, .int (mI (x3 + 1))), (4, .int (mI v2)), (0, .ref (ad 1)), (1, .int (mI x1)), (5, .int (mI x5))]) 3 rfl (by decide) rfl (fun h16 => ?_)
      refine z_iinc dX6_bakingsFed_36 (lv' := [(5, .int (mI (x5 + 1))), (3, .int (mI (x3 + 1))), (4, .int (mI v2)), (0, .ref (ad 1)), (1, .int (mI x1))]) 4 rfl (by decide) rfl (fun h17 => ?_)
      refine z_goto dX6_bakingsFed_39 (tgt := 8) rfl ?_
      exact zG_lvk (hr8 x1 (x3 + 1) v2 (x5 + 1) m11 hx1 h16 h4 h17) [3, 4, 1, 2, 0] rfl
theorem TL_X6_bakingsFed_8 {ad sc sv : Nat → Nat} (n : Nat) : ∀ q : Nat, ∀ (x1 : Int) (x3 : Int) (x4 : Int) (x5 : Int) (m : ZMem), R32 x1 → R32 x3 → R32 x4 → R32 x5 → zG LX ad sc sv M_X6_bakingsFed 8 [(0, .ref (ad 1)), (1, .int (mI x1)), (3, .int (mI x3)), (4, .int (mI x4)), (5, .int (mI x5))] [] m (L_X6_bakingsFed_8 n q x1 x3 x4 x5 m) := by
  intro q
  induction q with
  | zero => intros; exact zG_none
  | succ q ih => exact T_X6_bakingsFed_8 n (L_X6_bakingsFed_8 n q) ih
set_option maxRecDepth 20000 in
theorem ct_X6_bakingsFed {ad sc sv : Nat → Nat} (n : Nat) (a0 : Int) (a1 : Int) (m : ZMem) (ha0 : R32 a0) (ha1 : R32 a1) : zCT LX ad sc sv M_X6_bakingsFed yX6_bakingsFed [.ref (ad 1), .int (mI a0), .int (mI a1)] m (F_X6_bakingsFed n a0 a1 m) := by
  refine zCT_of (lv := [(0, .ref (ad 1)), (1, .int (mI a0)), (2, .int (mI a1))]) (by decide) rfl (Nat.le_of_ble_eq_true rfl) rfl ?_
  unfold F_X6_bakingsFed
  refine z_iconst dX6_bakingsFed_0 ?_
  refine z_istore_n dX6_bakingsFed_1 (lv' := [(3, .int (mI 0)), (0, .ref (ad 1)), (1, .int (mI a0)), (2, .int (mI a1))]) (by decide) rfl ?_
  refine z_iload_n dX6_bakingsFed_2 3 rfl ?_
  refine z_istore dX6_bakingsFed_3 (lv' := [(4, .int (mI a1)), (3, .int (mI 0)), (0, .ref (ad 1)), (1, .int (mI a0)), (2, .int (mI a1))]) (by decide) rfl ?_
  refine z_iconst dX6_bakingsFed_5 ?_
  refine z_istore dX6_bakingsFed_6 (lv' := [(5, .int (mI 0)), (4, .int (mI a1)), (3, .int (mI 0)), (0, .ref (ad 1)), (1, .int (mI a0)), (2, .int (mI a1))]) (by decide) rfl ?_
  exact zG_lvk (TL_X6_bakingsFed_8 n n a0 0 a1 0 m ha0 (by decide) ha1 (by decide)) [3, 4, 2, 1, 0] rfl
set_option maxRecDepth 20000 in
theorem T_X6_bothFit_2 {ad sc sv : Nat → Nat} (n : Nat) (r2 : Int → Int → Int → ZMem → ZR) (hr2 : ∀ (x1 : Int) (x2 : Int) (x3 : Int) (m : ZMem), R32 x1 → R32 x2 → R32 x3 → zG LX ad sc sv M_X6_bothFit 2 [(0, .ref (ad 1)), (1, .int (mI x1)), (2, .int (mI x2)), (3, .int (mI x3))] [] m (r2 x1 x2 x3 m)) : ∀ (x1 : Int) (x2 : Int) (x3 : Int) (m : ZMem), R32 x1 → R32 x2 → R32 x3 → zG LX ad sc sv M_X6_bothFit 2 [(0, .ref (ad 1)), (1, .int (mI x1)), (2, .int (mI x2)), (3, .int (mI x3))] [] m (B_X6_bothFit_2 n r2 x1 x2 x3 m) := by
  intro x1 x2 x3 m hx1 hx2 hx3
  unfold B_X6_bothFit_2
  refine z_iload_n dX6_bothFit_2 3 rfl ?_
  refine z_aload_n dX6_bothFit_3 0 rfl ?_
  refine z_getR dX6_bothFit_4 (k := 4) (j := 2) zc_X3 lx_1 rfl (by decide) k_83 ?_
  refine z_callV1 dX6_bothFit_7 rfl (ct_X9_size n 2 zt_2 m) zc_X9 lx_2 k_560 k_276 k_277 k_3 k_278 zn_X9_size ⟨rfl, rfl, Nat.le_of_ble_eq_true rfl, Nat.le_of_ble_eq_true rfl⟩ (Nat.le_of_ble_eq_true rfl) rfl (fun v1 m2 h3 ho4 => ?_)
  refine z_icmp_ge dX6_bothFit_10 hx3 h3 (tgt := 66) rfl (fun h5 => ?_) (fun h5 => ?_)
  · refine z_iconst dX6_bothFit_66 ?_
    exact z_zret dX6_bothFit_67 rfl rfl (by decide)
  · refine z_aload_n dX6_bothFit_13 0 rfl ?_
    refine z_getR dX6_bothFit_14 (k := 4) (j := 2) zc_X3 lx_1 rfl (by decide) k_83 ?_
    refine z_iload_n dX6_bothFit_17 3 rfl ?_
    refine z_iconst dX6_bothFit_18 ?_
    refine z_callV1 dX6_bothFit_19 rfl (ct_X9_at n 2 zt_2 x3 3 m2 hx3 (by decide)) zc_X9 lx_2 k_730 k_264 k_265 k_3 k_266 zn_X9_at ⟨rfl, rfl, Nat.le_of_ble_eq_true rfl, Nat.le_of_ble_eq_true rfl⟩ (Nat.le_of_ble_eq_true rfl) rfl (fun v6 m7 h8 ho9 => ?_)
    refine z_iload_n dX6_bothFit_22 1 rfl ?_
    refine z_imul dX6_bothFit_23 (fun h10 => ?_)
    refine z_aload_n dX6_bothFit_24 0 rfl ?_
    refine z_getR dX6_bothFit_25 (k := 4) (j := 2) zc_X3 lx_1 rfl (by decide) k_83 ?_
    refine z_iload_n dX6_bothFit_28 3 rfl ?_
    refine z_bipush dX6_bothFit_29 (x := 6) (by decide +kernel) ?_
    refine z_callV1 dX6_bothFit_31 rfl (ct_X9_at n 2 zt_2 x3 6 m7 hx3 (by decide)) zc_X9 lx_2 k_730 k_264 k_265 k_3 k_266 zn_X9_at ⟨rfl, rfl, Nat.le_of_ble_eq_true rfl, Nat.le_of_ble_eq_true rfl⟩ (Nat.le_of_ble_eq_true rfl) rfl (fun v11 m12 h13 ho14 => ?_)
    refine z_iload_n dX6_bothFit_34 2 rfl ?_
    refine z_imul dX6_bothFit_35 (fun h15 => ?_)
    refine z_iadd dX6_bothFit_36 (fun h16 => ?_)
    refine z_istore dX6_bothFit_37 (lv' := [(4, .int (mI ((v6 * x1) + (v11 * x2)))), (0, .ref (ad 1)), (1, .int (mI x1)), (2, .int (mI x2)), (3, .int (mI x3))]) (by decide) rfl ?_
    refine z_iload dX6_bothFit_39 0 rfl ?_
    refine z_aload_n dX6_bothFit_41 1 rfl ?_
    refine z_getR dX6_bothFit_42 (k := 4) (j := 2) zc_X3 lx_1 rfl (by decide) k_83 ?_
    refine z_iload_n dX6_bothFit_45 4 rfl ?_
    refine z_iconst dX6_bothFit_46 ?_
    refine z_callV1 dX6_bothFit_47 rfl (ct_X9_at n 2 zt_2 x3 4 m12 hx3 (by decide)) zc_X9 lx_2 k_730 k_264 k_265 k_3 k_266 zn_X9_at ⟨rfl, rfl, Nat.le_of_ble_eq_true rfl, Nat.le_of_ble_eq_true rfl⟩ (Nat.le_of_ble_eq_true rfl) rfl (fun v17 m18 h19 ho20 => ?_)
    refine z_aload_n dX6_bothFit_50 1 rfl ?_
    refine z_getI dX6_bothFit_51 (k := 0) zc_X3 lx_1 rfl (by decide) k_66 (fun h21 => ?_)
    refine z_imul dX6_bothFit_54 (fun h22 => ?_)
    refine z_icmp_le dX6_bothFit_55 h16 h22 (tgt := 60) rfl (fun h23 => ?_) (fun h23 => ?_)
    · refine z_iinc dX6_bothFit_60 (lv' := [(3, .int (mI (x3 + 1))), (4, .int (mI ((v6 * x1) + (v11 * x2)))), (0, .ref (ad 1)), (1, .int (mI x1)), (2, .int (mI x2))]) 4 rfl (by decide) rfl (fun h24 => ?_)
      refine z_goto dX6_bothFit_63 (tgt := 2) rfl ?_
      exact zG_lvk (hr2 x1 x2 (x3 + 1) m18 hx1 hx2 h24) [2, 3, 4, 0] rfl
    · refine z_iconst dX6_bothFit_58 ?_
      exact z_zret dX6_bothFit_59 rfl rfl (by decide)
theorem TL_X6_bothFit_2 {ad sc sv : Nat → Nat} (n : Nat) : ∀ q : Nat, ∀ (x1 : Int) (x2 : Int) (x3 : Int) (m : ZMem), R32 x1 → R32 x2 → R32 x3 → zG LX ad sc sv M_X6_bothFit 2 [(0, .ref (ad 1)), (1, .int (mI x1)), (2, .int (mI x2)), (3, .int (mI x3))] [] m (L_X6_bothFit_2 n q x1 x2 x3 m) := by
  intro q
  induction q with
  | zero => intros; exact zG_none
  | succ q ih => exact T_X6_bothFit_2 n (L_X6_bothFit_2 n q) ih
set_option maxRecDepth 20000 in
theorem ct_X6_bothFit {ad sc sv : Nat → Nat} (n : Nat) (a0 : Int) (a1 : Int) (m : ZMem) (ha0 : R32 a0) (ha1 : R32 a1) : zCT LX ad sc sv M_X6_bothFit yX6_bothFit [.ref (ad 1), .int (mI a0), .int (mI a1)] m (F_X6_bothFit n a0 a1 m) := by
  refine zCT_of (lv := [(0, .ref (ad 1)), (1, .int (mI a0)), (2, .int (mI a1))]) (by decide) rfl (Nat.le_of_ble_eq_true rfl) rfl ?_
  unfold F_X6_bothFit
  refine z_iconst dX6_bothFit_0 ?_
  refine z_istore_n dX6_bothFit_1 (lv' := [(3, .int (mI 0)), (0, .ref (ad 1)), (1, .int (mI a0)), (2, .int (mI a1))]) (by decide) rfl ?_
  exact zG_lvk (TL_X6_bothFit_2 n n a0 a1 0 m ha0 ha1 (by decide)) [1, 2, 3, 0] rfl
set_option maxRecDepth 20000 in
theorem T_X6_bothRecipes_15 {ad sc sv : Nat → Nat} (n : Nat) (r7 : Int → Int → Int → ZMem → ZR) (r15 : Int → Int → Int → Int → ZMem → ZR) (hr7 : ∀ (x1 : Int) (x2 : Int) (x3 : Int) (m : ZMem), R32 x1 → R32 x2 → R32 x3 → zG LX ad sc sv M_X6_bothRecipes 7 [(0, .ref (ad 1)), (1, .int (mI x1)), (2, .int (mI x2)), (3, .int (mI x3))] [] m (r7 x1 x2 x3 m)) (hr15 : ∀ (x1 : Int) (x2 : Int) (x3 : Int) (x4 : Int) (m : ZMem), R32 x1 → R32 x2 → R32 x3 → R32 x4 → zG LX ad sc sv M_X6_bothRecipes 15 [(0, .ref (ad 1)), (1, .int (mI x1)), (2, .int (mI x2)), (3, .int (mI x3)), (4, .int (mI x4))] [] m (r15 x1 x2 x3 x4 m)) : ∀ (x1 : Int) (x2 : Int) (x3 : Int) (x4 : Int) (m : ZMem), R32 x1 → R32 x2 → R32 x3 → R32 x4 → zG LX ad sc sv M_X6_bothRecipes 15 [(0, .ref (ad 1)), (1, .int (mI x1)), (2, .int (mI x2)), (3, .int (mI x3)), (4, .int (mI x4))] [] m (B_X6_bothRecipes_15 n r7 r15 x1 x2 x3 x4 m) := by
  intro x1 x2 x3 x4 m hx1 hx2 hx3 hx4
  unfold B_X6_bothRecipes_15
  refine z_iload dX6_bothRecipes_15 4 rfl ?_
  refine z_if_lt dX6_bothRecipes_17 hx4 (tgt := 57) rfl (fun h2 => ?_) (fun h2 => ?_)
  · refine z_iinc dX6_bothRecipes_57 (lv' := [(3, .int (mI (x3 + (-1)))), (0, .ref (ad 1)), (1, .int (mI x1)), (2, .int (mI x2)), (4, .int (mI x4))]) 3 rfl (by decide) rfl (fun h3 => ?_)
    refine z_goto dX6_bothRecipes_60 (tgt := 7) rfl ?_
    exact zG_lvk (hr7 x1 x2 (x3 + (-1)) m hx1 hx2 h3) [1, 2, 3, 0] rfl
  · refine z_iload_n dX6_bothRecipes_20 3 rfl ?_
    refine z_iload dX6_bothRecipes_21 4 rfl ?_
    refine z_iadd dX6_bothRecipes_23 (fun h4 => ?_)
    refine z_iload_n dX6_bothRecipes_24 2 rfl ?_
    refine z_icmp_le dX6_bothRecipes_25 h4 hx2 (tgt := 51) rfl (fun h5 => ?_) (fun h5 => ?_)
    · refine z_iinc dX6_bothRecipes_51 (lv' := [(4, .int (mI (x4 + (-1)))), (0, .ref (ad 1)), (1, .int (mI x1)), (2, .int (mI x2)), (3, .int (mI x3))]) 4 rfl (by decide) rfl (fun h6 => ?_)
      refine z_goto dX6_bothRecipes_54 (tgt := 15) rfl ?_
      exact zG_lvk (hr15 x1 x2 x3 (x4 + (-1)) m hx1 hx2 hx3 h6) [1, 2, 3, 4, 0] rfl
    · refine z_aload_n dX6_bothRecipes_28 0 rfl ?_
      refine z_iload_n dX6_bothRecipes_29 3 rfl ?_
      refine z_iload dX6_bothRecipes_30 4 rfl ?_
      refine z_callS4 dX6_bothRecipes_32 rfl (ct_X6_bothFit n x3 x4 m hx3 hx4) k_944 k_945 k_16 k_946 zn_X6_bothFit ⟨rfl, rfl, Nat.le_of_ble_eq_true rfl, Nat.le_of_ble_eq_true rfl⟩ (Nat.le_of_ble_eq_true rfl) rfl (fun v7 m8 h9 ho10 => ?_)
      refine z_if_eq dX6_bothRecipes_35 (zb01 h9) (tgt := 51) rfl (fun h11 => ?_) (fun h11 => ?_)
      · refine z_iinc dX6_bothRecipes_51 (lv' := [(4, .int (mI (x4 + (-1)))), (0, .ref (ad 1)), (1, .int (mI x1)), (2, .int (mI x2)), (3, .int (mI x3))]) 4 rfl (by decide) rfl (fun h12 => ?_)
        refine z_goto dX6_bothRecipes_54 (tgt := 15) rfl ?_
        exact zG_lvk (hr15 x1 x2 x3 (x4 + (-1)) m8 hx1 hx2 hx3 h12) [1, 2, 3, 4, 0] rfl
      · refine z_bipush dX6_bothRecipes_38 (x := 100) (by decide +kernel) ?_
        refine z_iload_n dX6_bothRecipes_40 3 rfl ?_
        refine z_imul dX6_bothRecipes_41 (fun h13 => ?_)
        refine z_iload dX6_bothRecipes_42 4 rfl ?_
        refine z_iadd dX6_bothRecipes_44 (fun h14 => ?_)
        refine z_istore_n dX6_bothRecipes_45 (lv' := [(1, .int (mI ((100 * x3) + x4))), (0, .ref (ad 1)), (2, .int (mI x2)), (3, .int (mI x3)), (4, .int (mI x4))]) (by decide) rfl ?_
        refine z_iload_n dX6_bothRecipes_46 3 rfl ?_
        refine z_iload dX6_bothRecipes_47 4 rfl ?_
        refine z_iadd dX6_bothRecipes_49 (fun h15 => ?_)
        refine z_istore_n dX6_bothRecipes_50 (lv' := [(2, .int (mI (x3 + x4))), (1, .int (mI ((100 * x3) + x4))), (0, .ref (ad 1)), (3, .int (mI x3)), (4, .int (mI x4))]) (by decide) rfl ?_
        refine z_iinc dX6_bothRecipes_51 (lv' := [(4, .int (mI (x4 + (-1)))), (2, .int (mI (x3 + x4))), (1, .int (mI ((100 * x3) + x4))), (0, .ref (ad 1)), (3, .int (mI x3))]) 4 rfl (by decide) rfl (fun h16 => ?_)
        refine z_goto dX6_bothRecipes_54 (tgt := 15) rfl ?_
        exact zG_lvk (hr15 ((100 * x3) + x4) (x3 + x4) x3 (x4 + (-1)) m8 h14 h15 hx3 h16) [3, 2, 1, 4, 0] rfl
theorem TL_X6_bothRecipes_15 {ad sc sv : Nat → Nat} (n : Nat) (r7 : Int → Int → Int → ZMem → ZR) (hr7 : ∀ (x1 : Int) (x2 : Int) (x3 : Int) (m : ZMem), R32 x1 → R32 x2 → R32 x3 → zG LX ad sc sv M_X6_bothRecipes 7 [(0, .ref (ad 1)), (1, .int (mI x1)), (2, .int (mI x2)), (3, .int (mI x3))] [] m (r7 x1 x2 x3 m)) : ∀ q : Nat, ∀ (x1 : Int) (x2 : Int) (x3 : Int) (x4 : Int) (m : ZMem), R32 x1 → R32 x2 → R32 x3 → R32 x4 → zG LX ad sc sv M_X6_bothRecipes 15 [(0, .ref (ad 1)), (1, .int (mI x1)), (2, .int (mI x2)), (3, .int (mI x3)), (4, .int (mI x4))] [] m (L_X6_bothRecipes_15 n r7 q x1 x2 x3 x4 m) := by
  intro q
  induction q with
  | zero => intros; exact zG_none
  | succ q ih => exact T_X6_bothRecipes_15 n r7 (L_X6_bothRecipes_15 n r7 q) hr7 ih
set_option maxRecDepth 20000 in
theorem T_X6_bothRecipes_7 {ad sc sv : Nat → Nat} (n : Nat) (r7 : Int → Int → Int → ZMem → ZR) (hr7 : ∀ (x1 : Int) (x2 : Int) (x3 : Int) (m : ZMem), R32 x1 → R32 x2 → R32 x3 → zG LX ad sc sv M_X6_bothRecipes 7 [(0, .ref (ad 1)), (1, .int (mI x1)), (2, .int (mI x2)), (3, .int (mI x3))] [] m (r7 x1 x2 x3 m)) : ∀ (x1 : Int) (x2 : Int) (x3 : Int) (m : ZMem), R32 x1 → R32 x2 → R32 x3 → zG LX ad sc sv M_X6_bothRecipes 7 [(0, .ref (ad 1)), (1, .int (mI x1)), (2, .int (mI x2)), (3, .int (mI x3))] [] m (B_X6_bothRecipes_7 n r7 x1 x2 x3 m) := by
  intro x1 x2 x3 m hx1 hx2 hx3
  unfold B_X6_bothRecipes_7
  refine z_iload_n dX6_bothRecipes_7 3 rfl ?_
  refine z_if_lt dX6_bothRecipes_8 hx3 (tgt := 63) rfl (fun h1 => ?_) (fun h1 => ?_)
  · refine z_iload_n dX6_bothRecipes_63 1 rfl ?_
    exact z_iret dX6_bothRecipes_64 rfl rfl hx1
  · refine z_bipush dX6_bothRecipes_11 (x := 24) (by decide +kernel) ?_
    refine z_istore dX6_bothRecipes_13 (lv' := [(4, .int (mI 24)), (0, .ref (ad 1)), (1, .int (mI x1)), (2, .int (mI x2)), (3, .int (mI x3))]) (by decide) rfl ?_
    exact zG_lvk (TL_X6_bothRecipes_15 n r7 hr7 n x1 x2 x3 24 m hx1 hx2 hx3 (by decide)) [1, 2, 3, 4, 0] rfl
theorem TL_X6_bothRecipes_7 {ad sc sv : Nat → Nat} (n : Nat) : ∀ q : Nat, ∀ (x1 : Int) (x2 : Int) (x3 : Int) (m : ZMem), R32 x1 → R32 x2 → R32 x3 → zG LX ad sc sv M_X6_bothRecipes 7 [(0, .ref (ad 1)), (1, .int (mI x1)), (2, .int (mI x2)), (3, .int (mI x3))] [] m (L_X6_bothRecipes_7 n q x1 x2 x3 m) := by
  intro q
  induction q with
  | zero => intros; exact zG_none
  | succ q ih => exact T_X6_bothRecipes_7 n (L_X6_bothRecipes_7 n q) ih
set_option maxRecDepth 20000 in
theorem ct_X6_bothRecipes {ad sc sv : Nat → Nat} (n : Nat) (m : ZMem) : zCT LX ad sc sv M_X6_bothRecipes yX6_bothRecipes [.ref (ad 1)] m (F_X6_bothRecipes n m) := by
  refine zCT_of (lv := [(0, .ref (ad 1))]) (by decide) rfl (Nat.le_of_ble_eq_true rfl) rfl ?_
  unfold F_X6_bothRecipes
  refine z_iconst dX6_bothRecipes_0 ?_
  refine z_istore_n dX6_bothRecipes_1 (lv' := [(1, .int (mI 0)), (0, .ref (ad 1))]) (by decide) rfl ?_
  refine z_iconst dX6_bothRecipes_2 ?_
  refine z_istore_n dX6_bothRecipes_3 (lv' := [(2, .int (mI (-1))), (1, .int (mI 0)), (0, .ref (ad 1))]) (by decide) rfl ?_
  refine z_bipush dX6_bothRecipes_4 (x := 24) (by decide +kernel) ?_
  refine z_istore_n dX6_bothRecipes_6 (lv' := [(3, .int (mI 24)), (2, .int (mI (-1))), (1, .int (mI 0)), (0, .ref (ad 1))]) (by decide) rfl ?_
  exact zG_lvk (TL_X6_bothRecipes_7 n n 0 (-1) 24 m (by decide) (by decide) (by decide)) [3, 2, 1, 0] rfl
set_option maxRecDepth 20000 in
theorem T_X6_worstForgotten_7 {ad sc sv : Nat → Nat} (n : Nat) (r7 : Int → Int → Int → ZMem → ZR) (hr7 : ∀ (x1 : Int) (x2 : Int) (x3 : Int) (m : ZMem), R32 x1 → R32 x2 → R32 x3 → zG LX ad sc sv M_X6_worstForgotten 7 [(0, .ref (ad 1)), (1, .int (mI x1)), (2, .int (mI x2)), (3, .int (mI x3))] [] m (r7 x1 x2 x3 m)) : ∀ (x1 : Int) (x2 : Int) (x3 : Int) (m : ZMem), R32 x1 → R32 x2 → R32 x3 → zG LX ad sc sv M_X6_worstForgotten 7 [(0, .ref (ad 1)), (1, .int (mI x1)), (2, .int (mI x2)), (3, .int (mI x3))] [] m (B_X6_worstForgotten_7 n r7 x1 x2 x3 m) := by
  intro x1 x2 x3 m hx1 hx2 hx3
  unfold B_X6_worstForgotten_7
  refine z_iload_n dX6_worstForgotten_7 3 rfl ?_
  refine z_aload_n dX6_worstForgotten_8 0 rfl ?_
  refine z_getR dX6_worstForgotten_9 (k := 4) (j := 2) zc_X3 lx_1 rfl (by decide) k_83 ?_
  refine z_callV1 dX6_worstForgotten_12 rfl (ct_X9_size n 2 zt_2 m) zc_X9 lx_2 k_560 k_276 k_277 k_3 k_278 zn_X9_size ⟨rfl, rfl, Nat.le_of_ble_eq_true rfl, Nat.le_of_ble_eq_true rfl⟩ (Nat.le_of_ble_eq_true rfl) rfl (fun v1 m2 h3 ho4 => ?_)
  refine z_icmp_ge dX6_worstForgotten_15 hx3 h3 (tgt := 56) rfl (fun h5 => ?_) (fun h5 => ?_)
  · refine z_iload_n dX6_worstForgotten_56 1 rfl ?_
    exact z_iret dX6_worstForgotten_57 rfl rfl hx1
  · refine z_aload_n dX6_worstForgotten_18 0 rfl ?_
    refine z_getR dX6_worstForgotten_19 (k := 4) (j := 2) zc_X3 lx_1 rfl (by decide) k_83 ?_
    refine z_iload_n dX6_worstForgotten_22 3 rfl ?_
    refine z_iconst dX6_worstForgotten_23 ?_
    refine z_callV1 dX6_worstForgotten_24 rfl (ct_X9_at n 2 zt_2 x3 3 m2 hx3 (by decide)) zc_X9 lx_2 k_730 k_264 k_265 k_3 k_266 zn_X9_at ⟨rfl, rfl, Nat.le_of_ble_eq_true rfl, Nat.le_of_ble_eq_true rfl⟩ (Nat.le_of_ble_eq_true rfl) rfl (fun v6 m7 h8 ho9 => ?_)
    refine z_aload_n dX6_worstForgotten_27 0 rfl ?_
    refine z_getR dX6_worstForgotten_28 (k := 4) (j := 2) zc_X3 lx_1 rfl (by decide) k_83 ?_
    refine z_iload_n dX6_worstForgotten_31 3 rfl ?_
    refine z_iconst dX6_worstForgotten_32 ?_
    refine z_callV1 dX6_worstForgotten_33 rfl (ct_X9_at n 2 zt_2 x3 2 m7 hx3 (by decide)) zc_X9 lx_2 k_730 k_264 k_265 k_3 k_266 zn_X9_at ⟨rfl, rfl, Nat.le_of_ble_eq_true rfl, Nat.le_of_ble_eq_true rfl⟩ (Nat.le_of_ble_eq_true rfl) rfl (fun v10 m11 h12 ho13 => ?_)
    refine z_imul dX6_worstForgotten_36 (fun h14 => ?_)
    refine z_istore dX6_worstForgotten_37 (lv' := [(4, .int (mI (v6 * v10))), (0, .ref (ad 1)), (1, .int (mI x1)), (2, .int (mI x2)), (3, .int (mI x3))]) (by decide) rfl ?_
    refine z_iload dX6_worstForgotten_39 0 rfl ?_
    refine z_iload_n dX6_worstForgotten_41 3 rfl ?_
    refine z_icmp_le dX6_worstForgotten_42 h14 hx2 (tgt := 50) rfl (fun h15 => ?_) (fun h15 => ?_)
    · refine z_iinc dX6_worstForgotten_50 (lv' := [(3, .int (mI (x3 + 1))), (4, .int (mI (v6 * v10))), (0, .ref (ad 1)), (1, .int (mI x1)), (2, .int (mI x2))]) 4 rfl (by decide) rfl (fun h16 => ?_)
      refine z_goto dX6_worstForgotten_53 (tgt := 7) rfl ?_
      exact zG_lvk (hr7 x1 x2 (x3 + 1) m11 hx1 hx2 h16) [2, 3, 4, 0] rfl
    · refine z_iload_n dX6_worstForgotten_45 4 rfl ?_
      refine z_istore_n dX6_worstForgotten_46 (lv' := [(1, .int (mI x3)), (4, .int (mI (v6 * v10))), (0, .ref (ad 1)), (2, .int (mI x2)), (3, .int (mI x3))]) (by decide) rfl ?_
      refine z_iload dX6_worstForgotten_47 1 rfl ?_
      refine z_istore_n dX6_worstForgotten_49 (lv' := [(2, .int (mI (v6 * v10))), (1, .int (mI x3)), (4, .int (mI (v6 * v10))), (0, .ref (ad 1)), (3, .int (mI x3))]) (by decide) rfl ?_
      refine z_iinc dX6_worstForgotten_50 (lv' := [(3, .int (mI (x3 + 1))), (2, .int (mI (v6 * v10))), (1, .int (mI x3)), (4, .int (mI (v6 * v10))), (0, .ref (ad 1))]) 4 rfl (by decide) rfl (fun h17 => ?_)
      refine z_goto dX6_worstForgotten_53 (tgt := 7) rfl ?_
      exact zG_lvk (hr7 x3 (v6 * v10) (x3 + 1) m11 hx3 h14 h17) [4, 2, 1, 0] rfl
theorem TL_X6_worstForgotten_7 {ad sc sv : Nat → Nat} (n : Nat) : ∀ q : Nat, ∀ (x1 : Int) (x2 : Int) (x3 : Int) (m : ZMem), R32 x1 → R32 x2 → R32 x3 → zG LX ad sc sv M_X6_worstForgotten 7 [(0, .ref (ad 1)), (1, .int (mI x1)), (2, .int (mI x2)), (3, .int (mI x3))] [] m (L_X6_worstForgotten_7 n q x1 x2 x3 m) := by
  intro q
  induction q with
  | zero => intros; exact zG_none
  | succ q ih => exact T_X6_worstForgotten_7 n (L_X6_worstForgotten_7 n q) ih
set_option maxRecDepth 20000 in
theorem ct_X6_worstForgotten {ad sc sv : Nat → Nat} (n : Nat) (m : ZMem) : zCT LX ad sc sv M_X6_worstForgotten yX6_worstForgotten [.ref (ad 1)] m (F_X6_worstForgotten n m) := by
  refine zCT_of (lv := [(0, .ref (ad 1))]) (by decide) rfl (Nat.le_of_ble_eq_true rfl) rfl ?_
  unfold F_X6_worstForgotten
  refine z_bipush dX6_worstForgotten_0 (x := (-9)) (by decide +kernel) ?_
  refine z_istore_n dX6_worstForgotten_2 (lv' := [(1, .int (mI (-9))), (0, .ref (ad 1))]) (by decide) rfl ?_
  refine z_iconst dX6_worstForgotten_3 ?_
  refine z_istore_n dX6_worstForgotten_4 (lv' := [(2, .int (mI 0)), (1, .int (mI (-9))), (0, .ref (ad 1))]) (by decide) rfl ?_
  refine z_iconst dX6_worstForgotten_5 ?_
  refine z_istore_n dX6_worstForgotten_6 (lv' := [(3, .int (mI 0)), (2, .int (mI 0)), (1, .int (mI (-9))), (0, .ref (ad 1))]) (by decide) rfl ?_
  exact zG_lvk (TL_X6_worstForgotten_7 n n (-9) 0 0 m (by decide) (by decide) (by decide)) [3, 2, 1, 0] rfl
set_option maxRecDepth 20000 in
theorem ct_X7_wholesLacking {ad sc sv : Nat → Nat} (n : Nat) (a0 : Int) (a1 : Int) (m : ZMem) (ha0 : R32 a0) (ha1 : R32 a1) : zCT LX ad sc sv M_X7_wholesLacking yX7_wholesLacking [.ref (ad 1), .int (mI a0), .int (mI a1)] m (F_X7_wholesLacking n a0 a1 m) := by
  refine zCT_of (lv := [(0, .ref (ad 1)), (1, .int (mI a0)), (2, .int (mI a1))]) (by decide) rfl (Nat.le_of_ble_eq_true rfl) rfl ?_
  unfold F_X7_wholesLacking
  refine z_aload_n dX7_wholesLacking_0 0 rfl ?_
  refine z_iload_n dX7_wholesLacking_1 1 rfl ?_
  refine z_iload_n dX7_wholesLacking_2 2 rfl ?_
  refine z_callV1 dX7_wholesLacking_3 rfl (ct_X3_takenFor n a0 a1 m ha0 ha1) zc_X3 lx_1 k_634 k_620 k_621 k_2 k_622 zn_X3_takenFor ⟨rfl, rfl, Nat.le_of_ble_eq_true rfl, Nat.le_of_ble_eq_true rfl⟩ (Nat.le_of_ble_eq_true rfl) rfl (fun v1 m2 h3 ho4 => ?_)
  refine z_bipush dX7_wholesLacking_6 (x := 12) (by decide +kernel) ?_
  refine z_aload_n dX7_wholesLacking_8 0 rfl ?_
  refine z_getR dX7_wholesLacking_9 (k := 4) (j := 2) zc_X3 lx_1 rfl (by decide) k_81 ?_
  refine z_iload_n dX7_wholesLacking_12 1 rfl ?_
  refine z_iconst dX7_wholesLacking_13 ?_
  refine z_callV1 dX7_wholesLacking_14 rfl (ct_X9_at n 2 zt_2 a0 4 m2 ha0 (by decide)) zc_X9 lx_2 k_635 k_264 k_265 k_3 k_266 zn_X9_at ⟨rfl, rfl, Nat.le_of_ble_eq_true rfl, Nat.le_of_ble_eq_true rfl⟩ (Nat.le_of_ble_eq_true rfl) rfl (fun v5 m6 h7 ho8 => ?_)
  refine z_imul dX7_wholesLacking_17 (fun h9 => ?_)
  refine z_isub dX7_wholesLacking_18 (fun h10 => ?_)
  refine z_istore_n dX7_wholesLacking_19 (lv' := [(3, .int (mI (v1 - (12 * v5)))), (0, .ref (ad 1)), (1, .int (mI a0)), (2, .int (mI a1))]) (by decide) rfl ?_
  refine z_iload_n dX7_wholesLacking_20 0 rfl ?_
  refine z_bipush dX7_wholesLacking_21 (x := 12) (by decide +kernel) ?_
  refine z_callS1 dX7_wholesLacking_23 rfl (ct_X8_roundedUp n (v1 - (12 * v5)) 12 m6 h10 (by decide)) k_636 k_463 k_15 k_464 zn_X8_roundedUp ⟨rfl, rfl, Nat.le_of_ble_eq_true rfl, Nat.le_of_ble_eq_true rfl⟩ (Nat.le_of_ble_eq_true rfl) rfl (fun v11 m12 h13 ho14 => ?_)
  exact z_iret dX7_wholesLacking_26 rfl rfl h13
set_option maxRecDepth 20000 in
theorem T_X7_lackingParts_4 {ad sc sv : Nat → Nat} (n : Nat) (r4 : Int → Int → ZMem → ZR) (hr4 : ∀ (x1 : Int) (x2 : Int) (m : ZMem), R32 x1 → R32 x2 → zG LX ad sc sv M_X7_lackingParts 4 [(0, .ref (ad 1)), (1, .int (mI x1)), (2, .int (mI x2))] [] m (r4 x1 x2 m)) : ∀ (x1 : Int) (x2 : Int) (m : ZMem), R32 x1 → R32 x2 → zG LX ad sc sv M_X7_lackingParts 4 [(0, .ref (ad 1)), (1, .int (mI x1)), (2, .int (mI x2))] [] m (B_X7_lackingParts_4 n r4 x1 x2 m) := by
  intro x1 x2 m hx1 hx2
  unfold B_X7_lackingParts_4
  refine z_iload_n dX7_lackingParts_4 2 rfl ?_
  refine z_aload_n dX7_lackingParts_5 0 rfl ?_
  refine z_getR dX7_lackingParts_6 (k := 4) (j := 2) zc_X3 lx_1 rfl (by decide) k_81 ?_
  refine z_callV1 dX7_lackingParts_9 rfl (ct_X9_size n 2 zt_2 m) zc_X9 lx_2 k_630 k_276 k_277 k_3 k_278 zn_X9_size ⟨rfl, rfl, Nat.le_of_ble_eq_true rfl, Nat.le_of_ble_eq_true rfl⟩ (Nat.le_of_ble_eq_true rfl) rfl (fun v1 m2 h3 ho4 => ?_)
  refine z_icmp_ge dX7_lackingParts_12 hx2 h3 (tgt := 39) rfl (fun h5 => ?_) (fun h5 => ?_)
  · refine z_iload_n dX7_lackingParts_39 1 rfl ?_
    exact z_iret dX7_lackingParts_40 rfl rfl hx1
  · refine z_aload_n dX7_lackingParts_15 0 rfl ?_
    refine z_iload_n dX7_lackingParts_16 2 rfl ?_
    refine z_aload_n dX7_lackingParts_17 0 rfl ?_
    refine z_getI dX7_lackingParts_18 (k := 1) zc_X3 lx_1 rfl (by decide) k_71 (fun h6 => ?_)
    refine z_callS1 dX7_lackingParts_21 rfl (ct_X7_wholesLacking n x2 (m2 1 1) m2 hx2 h6) k_631 k_632 k_6 k_633 zn_X7_wholesLacking ⟨rfl, rfl, Nat.le_of_ble_eq_true rfl, Nat.le_of_ble_eq_true rfl⟩ (Nat.le_of_ble_eq_true rfl) rfl (fun v7 m8 h9 ho10 => ?_)
    refine z_if_le dX7_lackingParts_24 h9 (tgt := 33) rfl (fun h11 => ?_) (fun h11 => ?_)
    · refine z_iinc dX7_lackingParts_33 (lv' := [(2, .int (mI (x2 + 1))), (0, .ref (ad 1)), (1, .int (mI x1))]) 2 rfl (by decide) rfl (fun h12 => ?_)
      refine z_goto dX7_lackingParts_36 (tgt := 4) rfl ?_
      exact zG_lvk (hr4 x1 (x2 + 1) m8 hx1 h12) [1, 2, 0] rfl
    · refine z_iload_n dX7_lackingParts_27 1 rfl ?_
      refine z_iconst dX7_lackingParts_28 ?_
      refine z_iload_n dX7_lackingParts_29 2 rfl ?_
      refine z_ishl dX7_lackingParts_30 (fun h13 => ?_)
      refine z_ior dX7_lackingParts_31 hx1 h13 (fun h14 => ?_)
      refine z_istore_n dX7_lackingParts_32 (lv' := [(1, .int (mI (zlor x1 (1 * 2 ^ (x2 : Int).toNat)))), (0, .ref (ad 1)), (2, .int (mI x2))]) (by decide) rfl ?_
      refine z_iinc dX7_lackingParts_33 (lv' := [(2, .int (mI (x2 + 1))), (1, .int (mI (zlor x1 (1 * 2 ^ (x2 : Int).toNat)))), (0, .ref (ad 1))]) 2 rfl (by decide) rfl (fun h15 => ?_)
      refine z_goto dX7_lackingParts_36 (tgt := 4) rfl ?_
      exact zG_lvk (hr4 (zlor x1 (1 * 2 ^ (x2 : Int).toNat)) (x2 + 1) m8 h14 h15) [2, 1, 0] rfl
theorem TL_X7_lackingParts_4 {ad sc sv : Nat → Nat} (n : Nat) : ∀ q : Nat, ∀ (x1 : Int) (x2 : Int) (m : ZMem), R32 x1 → R32 x2 → zG LX ad sc sv M_X7_lackingParts 4 [(0, .ref (ad 1)), (1, .int (mI x1)), (2, .int (mI x2))] [] m (L_X7_lackingParts_4 n q x1 x2 m) := by
  intro q
  induction q with
  | zero => intros; exact zG_none
  | succ q ih => exact T_X7_lackingParts_4 n (L_X7_lackingParts_4 n q) ih
set_option maxRecDepth 20000 in
theorem ct_X7_lackingParts {ad sc sv : Nat → Nat} (n : Nat) (m : ZMem) : zCT LX ad sc sv M_X7_lackingParts yX7_lackingParts [.ref (ad 1)] m (F_X7_lackingParts n m) := by
  refine zCT_of (lv := [(0, .ref (ad 1))]) (by decide) rfl (Nat.le_of_ble_eq_true rfl) rfl ?_
  unfold F_X7_lackingParts
  refine z_iconst dX7_lackingParts_0 ?_
  refine z_istore_n dX7_lackingParts_1 (lv' := [(1, .int (mI 0)), (0, .ref (ad 1))]) (by decide) rfl ?_
  refine z_iconst dX7_lackingParts_2 ?_
  refine z_istore_n dX7_lackingParts_3 (lv' := [(2, .int (mI 0)), (1, .int (mI 0)), (0, .ref (ad 1))]) (by decide) rfl ?_
  exact zG_lvk (TL_X7_lackingParts_4 n n 0 0 m (by decide) (by decide)) [2, 1, 0] rfl
set_option maxRecDepth 20000 in
theorem ct_X7_timesThatItLets {ad sc sv : Nat → Nat} (n : Nat) (a0 : Int) (m : ZMem) (ha0 : R32 a0) : zCT LX ad sc sv M_X7_timesThatItLets yX7_timesThatItLets [.ref (ad 1), .int (mI a0)] m (F_X7_timesThatItLets n a0 m) := by
  refine zCT_of (lv := [(0, .ref (ad 1)), (1, .int (mI a0))]) (by decide) rfl (Nat.le_of_ble_eq_true rfl) rfl ?_
  unfold F_X7_timesThatItLets
  refine z_aload_n dX7_timesThatItLets_0 0 rfl ?_
  refine z_getR dX7_timesThatItLets_1 (k := 6) (j := 6) zc_X3 lx_1 rfl (by decide) k_91 ?_
  refine z_iload_n dX7_timesThatItLets_4 1 rfl ?_
  refine z_iconst dX7_timesThatItLets_5 ?_
  refine z_callV1 dX7_timesThatItLets_6 rfl (ct_X9_at n 6 zt_6 a0 1 m ha0 (by decide)) zc_X9 lx_6 k_635 k_264 k_265 k_3 k_266 zn_X9_at ⟨rfl, rfl, Nat.le_of_ble_eq_true rfl, Nat.le_of_ble_eq_true rfl⟩ (Nat.le_of_ble_eq_true rfl) rfl (fun v1 m2 h3 ho4 => ?_)
  refine z_istore_n dX7_timesThatItLets_9 (lv' := [(2, .int (mI v1)), (0, .ref (ad 1)), (1, .int (mI a0))]) (by decide) rfl ?_
  refine z_aload_n dX7_timesThatItLets_10 1 rfl ?_
  refine z_getR dX7_timesThatItLets_11 (k := 4) (j := 2) zc_X3 lx_1 rfl (by decide) k_81 ?_
  refine z_iload_n dX7_timesThatItLets_14 0 rfl ?_
  refine z_iconst dX7_timesThatItLets_15 ?_
  refine z_callV1 dX7_timesThatItLets_16 rfl (ct_X9_at n 2 zt_2 v1 4 m2 h3 (by decide)) zc_X9 lx_2 k_635 k_264 k_265 k_3 k_266 zn_X9_at ⟨rfl, rfl, Nat.le_of_ble_eq_true rfl, Nat.le_of_ble_eq_true rfl⟩ (Nat.le_of_ble_eq_true rfl) rfl (fun v5 m6 h7 ho8 => ?_)
  refine z_aload_n dX7_timesThatItLets_19 1 rfl ?_
  refine z_iload_n dX7_timesThatItLets_20 0 rfl ?_
  refine z_callV1 dX7_timesThatItLets_21 rfl (ct_X3_takenNow n v1 m6 h3) zc_X3 lx_1 k_659 k_450 k_451 k_2 k_452 zn_X3_takenNow ⟨rfl, rfl, Nat.le_of_ble_eq_true rfl, Nat.le_of_ble_eq_true rfl⟩ (Nat.le_of_ble_eq_true rfl) rfl (fun v9 m10 h11 ho12 => ?_)
  refine z_bipush dX7_timesThatItLets_24 (x := 12) (by decide +kernel) ?_
  refine z_callS1 dX7_timesThatItLets_26 rfl (ct_X8_roundedUp n v9 12 m10 h11 (by decide)) k_636 k_463 k_15 k_464 zn_X8_roundedUp ⟨rfl, rfl, Nat.le_of_ble_eq_true rfl, Nat.le_of_ble_eq_true rfl⟩ (Nat.le_of_ble_eq_true rfl) rfl (fun v13 m14 h15 ho16 => ?_)
  refine z_isub dX7_timesThatItLets_29 (fun h17 => ?_)
  refine z_istore_n dX7_timesThatItLets_30 (lv' := [(3, .int (mI (v5 - v13))), (2, .int (mI v1)), (0, .ref (ad 1)), (1, .int (mI a0))]) (by decide) rfl ?_
  refine z_iload_n dX7_timesThatItLets_31 0 rfl ?_
  refine z_iconst dX7_timesThatItLets_32 ?_
  refine z_mmax dX7_timesThatItLets_33 h17 (by decide) k_660 k_41 k_4 k_42 (Nat.le_of_ble_eq_true rfl) (Nat.le_of_ble_eq_true rfl) (fun h18 => ?_)
  refine z_aload_n dX7_timesThatItLets_36 2 rfl ?_
  refine z_getR dX7_timesThatItLets_37 (k := 6) (j := 6) zc_X3 lx_1 rfl (by decide) k_91 ?_
  refine z_iload_n dX7_timesThatItLets_40 3 rfl ?_
  refine z_iconst dX7_timesThatItLets_41 ?_
  refine z_callV1 dX7_timesThatItLets_42 rfl (ct_X9_at n 6 zt_6 a0 2 m14 ha0 (by decide)) zc_X9 lx_6 k_635 k_264 k_265 k_3 k_266 zn_X9_at ⟨rfl, rfl, Nat.le_of_ble_eq_true rfl, Nat.le_of_ble_eq_true rfl⟩ (Nat.le_of_ble_eq_true rfl) rfl (fun v19 m20 h21 ho22 => ?_)
  refine z_callS1 dX7_timesThatItLets_45 rfl (ct_X8_cut n (max (v5 - v13) 0) v19 m20 h18 h21) k_661 k_522 k_15 k_523 zn_X8_cut ⟨rfl, rfl, Nat.le_of_ble_eq_true rfl, Nat.le_of_ble_eq_true rfl⟩ (Nat.le_of_ble_eq_true rfl) rfl (fun v23 m24 h25 ho26 => ?_)
  exact z_iret dX7_timesThatItLets_48 rfl rfl h25
set_option maxRecDepth 20000 in
theorem T_X7_letMake_3 {ad sc sv : Nat → Nat} (n : Nat) (r3 : Int → Int → Int → ZMem → ZR) (hr3 : ∀ (x1 : Int) (x2 : Int) (x4 : Int) (m : ZMem), R32 x1 → R32 x2 → R32 x4 → zG LX ad sc sv M_X7_letMake 3 [(0, .ref (ad 51)), (1, .int (mI x1)), (2, .int (mI x2)), (4, .int (mI x4))] [] m (r3 x1 x2 x4 m)) : ∀ (x1 : Int) (x2 : Int) (x4 : Int) (m : ZMem), R32 x1 → R32 x2 → R32 x4 → zG LX ad sc sv M_X7_letMake 3 [(0, .ref (ad 51)), (1, .int (mI x1)), (2, .int (mI x2)), (4, .int (mI x4))] [] m (B_X7_letMake_3 n r3 x1 x2 x4 m) := by
  intro x1 x2 x4 m hx1 hx2 hx4
  unfold B_X7_letMake_3
  refine z_iload dX7_letMake_3 3 rfl ?_
  refine z_iconst dX7_letMake_5 ?_
  refine z_icmp_lt dX7_letMake_6 hx4 (by decide) (tgt := 60) rfl (fun h1 => ?_) (fun h1 => ?_)
  · exact z_vret dX7_letMake_60 rfl rfl
  · refine z_aload_n dX7_letMake_9 0 rfl ?_
    refine z_getR dX7_letMake_10 (k := 0) (j := 52) zc_X7 lx_51 rfl (by decide) k_151 ?_
    refine z_iload dX7_letMake_13 3 rfl ?_
    refine z_iload_n dX7_letMake_15 1 rfl ?_
    refine z_isub dX7_letMake_16 (fun h2 => ?_)
    refine z_iconst dX7_letMake_17 ?_
    refine z_mmax dX7_letMake_18 h2 (by decide) k_660 k_41 k_4 k_42 (Nat.le_of_ble_eq_true rfl) (Nat.le_of_ble_eq_true rfl) (fun h3 => ?_)
    refine z_iconst dX7_letMake_21 ?_
    refine z_callV1 dX7_letMake_22 rfl (ct_X9_at n 52 zt_52 (max (x4 - x1) 0) 0 m h3 (by decide)) zc_X9 lx_52 k_635 k_264 k_265 k_3 k_266 zn_X9_at ⟨rfl, rfl, Nat.le_of_ble_eq_true rfl, Nat.le_of_ble_eq_true rfl⟩ (Nat.le_of_ble_eq_true rfl) rfl (fun v4 m5 h6 ho7 => ?_)
    refine z_iload_n dX7_letMake_25 2 rfl ?_
    refine z_iadd dX7_letMake_26 (fun h8 => ?_)
    refine z_istore dX7_letMake_27 (lv' := [(5, .int (mI (v4 + x2))), (0, .ref (ad 51)), (1, .int (mI x1)), (2, .int (mI x2)), (4, .int (mI x4))]) (by decide) rfl ?_
    refine z_aload_n dX7_letMake_29 1 rfl ?_
    refine z_getR dX7_letMake_30 (k := 0) (j := 52) zc_X7 lx_51 rfl (by decide) k_151 ?_
    refine z_iload dX7_letMake_33 4 rfl ?_
    refine z_iconst dX7_letMake_35 ?_
    refine z_aload_n dX7_letMake_36 1 rfl ?_
    refine z_getR dX7_letMake_37 (k := 0) (j := 52) zc_X7 lx_51 rfl (by decide) k_151 ?_
    refine z_iload dX7_letMake_40 4 rfl ?_
    refine z_iconst dX7_letMake_42 ?_
    refine z_callV1 dX7_letMake_43 rfl (ct_X9_at n 52 zt_52 x4 0 m5 hx4 (by decide)) zc_X9 lx_52 k_635 k_264 k_265 k_3 k_266 zn_X9_at ⟨rfl, rfl, Nat.le_of_ble_eq_true rfl, Nat.le_of_ble_eq_true rfl⟩ (Nat.le_of_ble_eq_true rfl) rfl (fun v9 m10 h11 ho12 => ?_)
    refine z_iload dX7_letMake_46 0 rfl ?_
    refine z_mmin dX7_letMake_48 h11 h8 k_662 k_62 k_4 k_63 (Nat.le_of_ble_eq_true rfl) (Nat.le_of_ble_eq_true rfl) (fun h13 => ?_)
    refine z_callV0 dX7_letMake_51 rfl (ct_X9_put n 52 zt_52 x4 0 (min v9 (v4 + x2)) m10 hx4 (by decide) h13) zc_X9 lx_52 k_651 k_268 k_269 k_3 k_270 zn_X9_put ⟨rfl, rfl, Nat.le_of_ble_eq_true rfl, Nat.le_of_ble_eq_true rfl⟩ (Nat.le_of_ble_eq_true rfl) rfl (fun v14 m15 ho17 => ?_)
    refine z_iinc dX7_letMake_54 (lv' := [(4, .int (mI (x4 + (-1)))), (5, .int (mI (v4 + x2))), (0, .ref (ad 51)), (1, .int (mI x1)), (2, .int (mI x2))]) 4 rfl (by decide) rfl (fun h18 => ?_)
    refine z_goto dX7_letMake_57 (tgt := 3) rfl ?_
    exact zG_lvk (hr3 x1 x2 (x4 + (-1)) m15 hx1 hx2 h18) [2, 3, 4, 0] rfl
theorem TL_X7_letMake_3 {ad sc sv : Nat → Nat} (n : Nat) : ∀ q : Nat, ∀ (x1 : Int) (x2 : Int) (x4 : Int) (m : ZMem), R32 x1 → R32 x2 → R32 x4 → zG LX ad sc sv M_X7_letMake 3 [(0, .ref (ad 51)), (1, .int (mI x1)), (2, .int (mI x2)), (4, .int (mI x4))] [] m (L_X7_letMake_3 n q x1 x2 x4 m) := by
  intro q
  induction q with
  | zero => intros; exact zG_none
  | succ q ih => exact T_X7_letMake_3 n (L_X7_letMake_3 n q) ih
set_option maxRecDepth 20000 in
theorem ct_X7_letMake {ad sc sv : Nat → Nat} (n : Nat) (a0 : Int) (a1 : Int) (a2 : Int) (m : ZMem) (ha0 : R32 a0) (ha1 : R32 a1) (ha2 : R32 a2) : zCT LX ad sc sv M_X7_letMake yX7_letMake [.ref (ad 51), .int (mI a0), .int (mI a1), .int (mI a2)] m (F_X7_letMake n a0 a1 a2 m) := by
  refine zCT_of (lv := [(0, .ref (ad 51)), (1, .int (mI a0)), (2, .int (mI a1)), (3, .int (mI a2))]) (by decide) rfl (Nat.le_of_ble_eq_true rfl) rfl ?_
  unfold F_X7_letMake
  refine z_iload_n dX7_letMake_0 3 rfl ?_
  refine z_istore dX7_letMake_1 (lv' := [(4, .int (mI a2)), (0, .ref (ad 51)), (1, .int (mI a0)), (2, .int (mI a1)), (3, .int (mI a2))]) (by decide) rfl ?_
  exact zG_lvk (TL_X7_letMake_3 n n a0 a1 a2 m ha0 ha1 ha2) [1, 2, 3, 0] rfl
