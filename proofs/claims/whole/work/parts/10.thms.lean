set_option maxRecDepth 20000 in
theorem T_X9_reset_18 {ad sc sv : Nat → Nat} (n : Nat) (t : Nat) (ht : zTab LX t) (r18 : Int → Int → ZMem → ZR) (hr18 : ∀ (x2 : Int) (x3 : Int) (m : ZMem), R32 x2 → R32 x3 → zG LX ad sc sv M_X9_reset 18 [(0, .ref (ad t)), (2, .int (mI x2)), (3, .int (mI x3))] [] m (r18 x2 x3 m)) : ∀ (x2 : Int) (x3 : Int) (m : ZMem), R32 x2 → R32 x3 → zG LX ad sc sv M_X9_reset 18 [(0, .ref (ad t)), (2, .int (mI x2)), (3, .int (mI x3))] [] m (B_X9_reset_18 n t r18 x2 x3 m) := by
  intro x2 x3 m hx2 hx3
  unfold B_X9_reset_18
  refine z_iload_n dX9_reset_18 2 rfl ?_
  refine z_aload_n dX9_reset_19 0 rfl ?_
  refine z_getI dX9_reset_20 (k := 3) zc_X9 ht.1 rfl (by decide) k_46 (fun h4 => ?_)
  refine z_aload_n dX9_reset_23 0 rfl ?_
  refine z_getI dX9_reset_24 (k := 2) zc_X9 ht.1 rfl (by decide) k_45 (fun h5 => ?_)
  refine z_imul dX9_reset_27 (fun h6 => ?_)
  refine z_icmp_ge dX9_reset_28 hx3 h6 (tgt := 53) rfl (fun h7 => ?_) (fun h7 => ?_)
  · exact z_vret dX9_reset_53 rfl rfl
  · refine z_iload_n dX9_reset_31 2 rfl ?_
    refine z_aload_n dX9_reset_32 0 rfl ?_
    refine z_getR dX9_reset_33 (k := 0) (j := (t + 1)) zc_X9 ht.1 rfl (by decide) k_43 ?_
    refine z_alen dX9_reset_36 ht.2.choose_spec.1 ht.2.choose_spec.2 (fun h8 => ?_)
    refine z_icmp_ge dX9_reset_37 hx3 h8 (tgt := 53) rfl (fun h9 => ?_) (fun h9 => ?_)
    · exact z_vret dX9_reset_53 rfl rfl
    · refine z_aload_n dX9_reset_40 0 rfl ?_
      refine z_getR dX9_reset_41 (k := 0) (j := (t + 1)) zc_X9 ht.1 rfl (by decide) k_43 ?_
      refine z_iload_n dX9_reset_44 2 rfl ?_
      refine z_iload_n dX9_reset_45 1 rfl ?_
      refine z_iastore dX9_reset_46 hx3 hx2 ?_
      refine z_iinc dX9_reset_47 (lv' := [(3, .int (mI (x3 + 1))), (0, .ref (ad t)), (2, .int (mI x2))]) 2 rfl (by decide) rfl (fun h10 => ?_)
      refine z_goto dX9_reset_50 (tgt := 18) rfl ?_
      exact zG_lvk (hr18 x2 (x3 + 1) (wr m (t + 1) (x3 : Int).toNat x2) hx2 h10) [1, 2, 0] rfl
theorem TL_X9_reset_18 {ad sc sv : Nat → Nat} (n : Nat) (t : Nat) (ht : zTab LX t) : ∀ q : Nat, ∀ (x2 : Int) (x3 : Int) (m : ZMem), R32 x2 → R32 x3 → zG LX ad sc sv M_X9_reset 18 [(0, .ref (ad t)), (2, .int (mI x2)), (3, .int (mI x3))] [] m (L_X9_reset_18 n t q x2 x3 m) := by
  intro q
  induction q with
  | zero => intros; exact zG_none
  | succ q ih => exact T_X9_reset_18 n t ht (L_X9_reset_18 n t q) ih
set_option maxRecDepth 20000 in
theorem ct_X9_reset {ad sc sv : Nat → Nat} (n : Nat) (t : Nat) (ht : zTab LX t) (a0 : Int) (a1 : Int) (m : ZMem) (ha0 : R32 a0) (ha1 : R32 a1) : zCT LX ad sc sv M_X9_reset yX9_reset [.ref (ad t), .int (mI a0), .int (mI a1)] m (F_X9_reset n t a0 a1 m) := by
  refine zCT_of (lv := [(0, .ref (ad t)), (1, .int (mI a0)), (2, .int (mI a1))]) (by decide) rfl (Nat.le_of_ble_eq_true rfl) rfl ?_
  unfold F_X9_reset
  refine z_aload_n dX9_reset_0 0 rfl ?_
  refine z_iload_n dX9_reset_1 1 rfl ?_
  refine z_aload_n dX9_reset_2 0 rfl ?_
  refine z_getI dX9_reset_3 (k := 1) zc_X9 ht.1 rfl (by decide) k_44 (fun h1 => ?_)
  refine z_mmin dX9_reset_6 ha0 h1 k_61 k_62 k_4 k_63 (Nat.le_of_ble_eq_true rfl) (Nat.le_of_ble_eq_true rfl) (fun h2 => ?_)
  refine z_iconst dX9_reset_9 ?_
  refine z_mmax dX9_reset_10 h2 (by decide) k_40 k_41 k_4 k_42 (Nat.le_of_ble_eq_true rfl) (Nat.le_of_ble_eq_true rfl) (fun h3 => ?_)
  refine z_putI dX9_reset_13 (k := 3) zc_X9 ht.1 rfl (by decide) rfl rfl h3 k_46 ?_
  refine z_iconst dX9_reset_16 ?_
  refine z_istore_n dX9_reset_17 (lv' := [(3, .int (mI 0)), (0, .ref (ad t)), (1, .int (mI a0)), (2, .int (mI a1))]) (by decide) rfl ?_
  exact zG_lvk (TL_X9_reset_18 n t ht n a1 0 (wr m t 3 (max (min a0 (m t 1)) 0)) ha1 (by decide)) [1, 3, 0] rfl
set_option maxRecDepth 20000 in
theorem ct_X9_size {ad sc sv : Nat → Nat} (n : Nat) (t : Nat) (ht : zTab LX t) (m : ZMem) : zCT LX ad sc sv M_X9_size yX9_size [.ref (ad t)] m (F_X9_size n t m) := by
  refine zCT_of (lv := [(0, .ref (ad t))]) (by decide) rfl (Nat.le_of_ble_eq_true rfl) rfl ?_
  unfold F_X9_size
  refine z_aload_n dX9_size_0 0 rfl ?_
  refine z_getI dX9_size_1 (k := 3) zc_X9 ht.1 rfl (by decide) k_46 (fun h1 => ?_)
  exact z_iret dX9_size_4 rfl rfl h1
set_option maxRecDepth 20000 in
theorem T_X9_at_29 {ad sc sv : Nat → Nat} (n : Nat) (t : Nat) (ht : zTab LX t) : ∀ (x1 : Int) (x2 : Int) (s0 : Int) (m : ZMem), R32 x1 → R32 x2 → R32 s0 → zG LX ad sc sv M_X9_at 29 [(0, .ref (ad t)), (1, .int (mI x1)), (2, .int (mI x2))] [.int (mI s0)] m (B_X9_at_29 n t x1 x2 s0 m) := by
  intro x1 x2 s0 m hx1 hx2 hs0
  unfold B_X9_at_29
  refine z_istore_n dX9_at_29 (lv' := [(3, .int (mI s0)), (0, .ref (ad t)), (1, .int (mI x1)), (2, .int (mI x2))]) (by decide) rfl ?_
  refine z_iload_n dX9_at_30 0 rfl ?_
  refine z_if_eq dX9_at_31 hs0 (tgt := 45) rfl (fun h7 => ?_) (fun h7 => ?_)
  · refine z_iconst dX9_at_45 ?_
    refine z_istore dX9_at_46 (lv' := [(4, .int (mI (-1))), (3, .int (mI s0)), (0, .ref (ad t)), (1, .int (mI x1)), (2, .int (mI x2))]) (by decide) rfl ?_
    refine z_iload dX9_at_48 0 rfl ?_
    refine z_if_lt_t dX9_at_50 (by decide) (by decide) (tgt := 73) rfl ?_
    refine z_iconst dX9_at_73 ?_
    exact z_iret dX9_at_74 rfl rfl (by decide)
  · refine z_iload_n dX9_at_34 2 rfl ?_
    refine z_aload_n dX9_at_35 1 rfl ?_
    refine z_getI dX9_at_36 (k := 2) zc_X9 ht.1 rfl (by decide) k_45 (fun h8 => ?_)
    refine z_imul dX9_at_39 (fun h9 => ?_)
    refine z_iload_n dX9_at_40 3 rfl ?_
    refine z_iadd dX9_at_41 (fun h10 => ?_)
    refine z_goto dX9_at_42 (tgt := 46) rfl ?_
    refine z_istore dX9_at_46 (lv' := [(4, .int (mI ((x1 * (m t 2)) + x2))), (3, .int (mI s0)), (0, .ref (ad t)), (1, .int (mI x1)), (2, .int (mI x2))]) (by decide) rfl ?_
    refine z_iload dX9_at_48 0 rfl ?_
    refine z_if_lt dX9_at_50 h10 (tgt := 73) rfl (fun h11 => ?_) (fun h11 => ?_)
    · refine z_iconst dX9_at_73 ?_
      exact z_iret dX9_at_74 rfl rfl (by decide)
    · refine z_iload dX9_at_53 0 rfl ?_
      refine z_aload_n dX9_at_55 2 rfl ?_
      refine z_getR dX9_at_56 (k := 0) (j := (t + 1)) zc_X9 ht.1 rfl (by decide) k_43 ?_
      refine z_alen dX9_at_59 ht.2.choose_spec.1 ht.2.choose_spec.2 (fun h12 => ?_)
      refine z_icmp_ge dX9_at_60 h10 h12 (tgt := 73) rfl (fun h13 => ?_) (fun h13 => ?_)
      · refine z_iconst dX9_at_73 ?_
        exact z_iret dX9_at_74 rfl rfl (by decide)
      · refine z_aload_n dX9_at_63 2 rfl ?_
        refine z_getR dX9_at_64 (k := 0) (j := (t + 1)) zc_X9 ht.1 rfl (by decide) k_43 ?_
        refine z_iload dX9_at_67 0 rfl ?_
        refine z_iaload dX9_at_69 h10 (fun h14 => ?_)
        refine z_goto dX9_at_70 (tgt := 74) rfl ?_
        exact z_iret dX9_at_74 rfl rfl h14
set_option maxRecDepth 20000 in
theorem ct_X9_at {ad sc sv : Nat → Nat} (n : Nat) (t : Nat) (ht : zTab LX t) (a0 : Int) (a1 : Int) (m : ZMem) (ha0 : R32 a0) (ha1 : R32 a1) : zCT LX ad sc sv M_X9_at yX9_at [.ref (ad t), .int (mI a0), .int (mI a1)] m (F_X9_at n t a0 a1 m) := by
  refine zCT_of (lv := [(0, .ref (ad t)), (1, .int (mI a0)), (2, .int (mI a1))]) (by decide) rfl (Nat.le_of_ble_eq_true rfl) rfl ?_
  unfold F_X9_at
  refine z_iload_n dX9_at_0 1 rfl ?_
  refine z_if_lt dX9_at_1 ha0 (tgt := 28) rfl (fun h1 => ?_) (fun h1 => ?_)
  · refine z_iconst dX9_at_28 ?_
    exact zG_lvk (T_X9_at_29 n t ht a0 a1 0 m ha0 ha1 (by decide)) [0, 1, 2] rfl
  · refine z_iload_n dX9_at_4 1 rfl ?_
    refine z_aload_n dX9_at_5 0 rfl ?_
    refine z_getI dX9_at_6 (k := 3) zc_X9 ht.1 rfl (by decide) k_46 (fun h2 => ?_)
    refine z_icmp_ge dX9_at_9 ha0 h2 (tgt := 28) rfl (fun h3 => ?_) (fun h3 => ?_)
    · refine z_iconst dX9_at_28 ?_
      exact zG_lvk (T_X9_at_29 n t ht a0 a1 0 m ha0 ha1 (by decide)) [0, 1, 2] rfl
    · refine z_iload_n dX9_at_12 2 rfl ?_
      refine z_if_lt dX9_at_13 ha1 (tgt := 28) rfl (fun h4 => ?_) (fun h4 => ?_)
      · refine z_iconst dX9_at_28 ?_
        exact zG_lvk (T_X9_at_29 n t ht a0 a1 0 m ha0 ha1 (by decide)) [0, 1, 2] rfl
      · refine z_iload_n dX9_at_16 2 rfl ?_
        refine z_aload_n dX9_at_17 0 rfl ?_
        refine z_getI dX9_at_18 (k := 2) zc_X9 ht.1 rfl (by decide) k_45 (fun h5 => ?_)
        refine z_icmp_ge dX9_at_21 ha1 h5 (tgt := 28) rfl (fun h6 => ?_) (fun h6 => ?_)
        · refine z_iconst dX9_at_28 ?_
          exact zG_lvk (T_X9_at_29 n t ht a0 a1 0 m ha0 ha1 (by decide)) [0, 1, 2] rfl
        · refine z_iconst dX9_at_24 ?_
          refine z_goto dX9_at_25 (tgt := 29) rfl ?_
          exact zG_lvk (T_X9_at_29 n t ht a0 a1 1 m ha0 ha1 (by decide)) [0, 1, 2] rfl
set_option maxRecDepth 20000 in
theorem T_X0_weightOf_4 {ad sc sv : Nat → Nat} (n : Nat) (r4 : Int → Int → Int → ZMem → ZR) (hr4 : ∀ (x1 : Int) (x2 : Int) (x3 : Int) (m : ZMem), R32 x1 → R32 x2 → R32 x3 → zG LX ad sc sv M_X0_weightOf 4 [(0, .ref (ad 10)), (1, .int (mI x1)), (2, .int (mI x2)), (3, .int (mI x3))] [] m (r4 x1 x2 x3 m)) : ∀ (x1 : Int) (x2 : Int) (x3 : Int) (m : ZMem), R32 x1 → R32 x2 → R32 x3 → zG LX ad sc sv M_X0_weightOf 4 [(0, .ref (ad 10)), (1, .int (mI x1)), (2, .int (mI x2)), (3, .int (mI x3))] [] m (B_X0_weightOf_4 n r4 x1 x2 x3 m) := by
  intro x1 x2 x3 m hx1 hx2 hx3
  unfold B_X0_weightOf_4
  refine z_iload_n dX0_weightOf_4 3 rfl ?_
  refine z_aload_n dX0_weightOf_5 0 rfl ?_
  refine z_callV1 dX0_weightOf_6 rfl (ct_X9_size n 10 zt_10 m) zc_X9 lx_10 k_872 k_276 k_277 k_3 k_278 zn_X9_size ⟨rfl, rfl, Nat.le_of_ble_eq_true rfl, Nat.le_of_ble_eq_true rfl⟩ (Nat.le_of_ble_eq_true rfl) rfl (fun v1 m2 h3 ho4 => ?_)
  refine z_icmp_ge dX0_weightOf_9 hx3 h3 (tgt := 36) rfl (fun h5 => ?_) (fun h5 => ?_)
  · refine z_iload_n dX0_weightOf_36 2 rfl ?_
    exact z_iret dX0_weightOf_37 rfl rfl hx2
  · refine z_iload_n dX0_weightOf_12 1 rfl ?_
    refine z_iload_n dX0_weightOf_13 3 rfl ?_
    refine z_ishr dX0_weightOf_14 hx1 (fun h6 => ?_)
    refine z_iconst dX0_weightOf_15 ?_
    refine z_iandm dX0_weightOf_16 1 (by decide +kernel) (by decide) (fun h7 => ?_)
    refine z_iconst dX0_weightOf_17 ?_
    refine z_icmp_ne dX0_weightOf_18 h7 (by decide) (tgt := 30) rfl (fun h8 => ?_) (fun h8 => ?_)
    · refine z_iload_n dX0_weightOf_21 2 rfl ?_
      refine z_aload_n dX0_weightOf_22 0 rfl ?_
      refine z_iload_n dX0_weightOf_23 3 rfl ?_
      refine z_iconst dX0_weightOf_24 ?_
      refine z_callV1 dX0_weightOf_25 rfl (ct_X9_at n 10 zt_10 x3 0 m2 hx3 (by decide)) zc_X9 lx_10 k_880 k_264 k_265 k_3 k_266 zn_X9_at ⟨rfl, rfl, Nat.le_of_ble_eq_true rfl, Nat.le_of_ble_eq_true rfl⟩ (Nat.le_of_ble_eq_true rfl) rfl (fun v9 m10 h11 ho12 => ?_)
      refine z_iadd dX0_weightOf_28 (fun h13 => ?_)
      refine z_istore_n dX0_weightOf_29 (lv' := [(2, .int (mI (x2 + v9))), (0, .ref (ad 10)), (1, .int (mI x1)), (3, .int (mI x3))]) (by decide) rfl ?_
      refine z_iinc dX0_weightOf_30 (lv' := [(3, .int (mI (x3 + 1))), (2, .int (mI (x2 + v9))), (0, .ref (ad 10)), (1, .int (mI x1))]) 3 rfl (by decide) rfl (fun h14 => ?_)
      refine z_goto dX0_weightOf_33 (tgt := 4) rfl ?_
      exact zG_lvk (hr4 x1 (x2 + v9) (x3 + 1) m10 hx1 h13 h14) [2, 3, 1, 0] rfl
    · refine z_iinc dX0_weightOf_30 (lv' := [(3, .int (mI (x3 + 1))), (0, .ref (ad 10)), (1, .int (mI x1)), (2, .int (mI x2))]) 3 rfl (by decide) rfl (fun h15 => ?_)
      refine z_goto dX0_weightOf_33 (tgt := 4) rfl ?_
      exact zG_lvk (hr4 x1 x2 (x3 + 1) m2 hx1 hx2 h15) [1, 2, 3, 0] rfl
theorem TL_X0_weightOf_4 {ad sc sv : Nat → Nat} (n : Nat) : ∀ q : Nat, ∀ (x1 : Int) (x2 : Int) (x3 : Int) (m : ZMem), R32 x1 → R32 x2 → R32 x3 → zG LX ad sc sv M_X0_weightOf 4 [(0, .ref (ad 10)), (1, .int (mI x1)), (2, .int (mI x2)), (3, .int (mI x3))] [] m (L_X0_weightOf_4 n q x1 x2 x3 m) := by
  intro q
  induction q with
  | zero => intros; exact zG_none
  | succ q ih => exact T_X0_weightOf_4 n (L_X0_weightOf_4 n q) ih
set_option maxRecDepth 20000 in
theorem ct_X0_weightOf {ad sc sv : Nat → Nat} (n : Nat) (a0 : Int) (m : ZMem) (ha0 : R32 a0) : zCT LX ad sc sv M_X0_weightOf yX0_weightOf [.ref (ad 10), .int (mI a0)] m (F_X0_weightOf n a0 m) := by
  refine zCT_of (lv := [(0, .ref (ad 10)), (1, .int (mI a0))]) (by decide) rfl (Nat.le_of_ble_eq_true rfl) rfl ?_
  unfold F_X0_weightOf
  refine z_iconst dX0_weightOf_0 ?_
  refine z_istore_n dX0_weightOf_1 (lv' := [(2, .int (mI 0)), (0, .ref (ad 10)), (1, .int (mI a0))]) (by decide) rfl ?_
  refine z_iconst dX0_weightOf_2 ?_
  refine z_istore_n dX0_weightOf_3 (lv' := [(3, .int (mI 0)), (2, .int (mI 0)), (0, .ref (ad 10)), (1, .int (mI a0))]) (by decide) rfl ?_
  exact zG_lvk (TL_X0_weightOf_4 n n a0 0 0 m ha0 (by decide) (by decide)) [2, 3, 1, 0] rfl
set_option maxRecDepth 20000 in
theorem T_X9_put_29 {ad sc sv : Nat → Nat} (n : Nat) (t : Nat) (ht : zTab LX t) : ∀ (x1 : Int) (x2 : Int) (x3 : Int) (s0 : Int) (m : ZMem), R32 x1 → R32 x2 → R32 x3 → R32 s0 → zG LX ad sc sv M_X9_put 29 [(0, .ref (ad t)), (1, .int (mI x1)), (2, .int (mI x2)), (3, .int (mI x3))] [.int (mI s0)] m (B_X9_put_29 n t x1 x2 x3 s0 m) := by
  intro x1 x2 x3 s0 m hx1 hx2 hx3 hs0
  unfold B_X9_put_29
  refine z_istore dX9_put_29 (lv' := [(4, .int (mI s0)), (0, .ref (ad t)), (1, .int (mI x1)), (2, .int (mI x2)), (3, .int (mI x3))]) (by decide) rfl ?_
  refine z_iload dX9_put_31 0 rfl ?_
  refine z_if_eq dX9_put_33 hs0 (tgt := 47) rfl (fun h7 => ?_) (fun h7 => ?_)
  · refine z_iconst dX9_put_47 ?_
    refine z_istore dX9_put_48 (lv' := [(5, .int (mI (-1))), (4, .int (mI s0)), (0, .ref (ad t)), (1, .int (mI x1)), (2, .int (mI x2)), (3, .int (mI x3))]) (by decide) rfl ?_
    refine z_iload dX9_put_50 0 rfl ?_
    refine z_if_lt_t dX9_put_52 (by decide) (by decide) (tgt := 73) rfl ?_
    exact z_vret dX9_put_73 rfl rfl
  · refine z_iload_n dX9_put_36 2 rfl ?_
    refine z_aload_n dX9_put_37 1 rfl ?_
    refine z_getI dX9_put_38 (k := 2) zc_X9 ht.1 rfl (by decide) k_45 (fun h8 => ?_)
    refine z_imul dX9_put_41 (fun h9 => ?_)
    refine z_iload_n dX9_put_42 3 rfl ?_
    refine z_iadd dX9_put_43 (fun h10 => ?_)
    refine z_goto dX9_put_44 (tgt := 48) rfl ?_
    refine z_istore dX9_put_48 (lv' := [(5, .int (mI ((x1 * (m t 2)) + x2))), (4, .int (mI s0)), (0, .ref (ad t)), (1, .int (mI x1)), (2, .int (mI x2)), (3, .int (mI x3))]) (by decide) rfl ?_
    refine z_iload dX9_put_50 0 rfl ?_
    refine z_if_lt dX9_put_52 h10 (tgt := 73) rfl (fun h11 => ?_) (fun h11 => ?_)
    · exact z_vret dX9_put_73 rfl rfl
    · refine z_iload dX9_put_55 0 rfl ?_
      refine z_aload_n dX9_put_57 2 rfl ?_
      refine z_getR dX9_put_58 (k := 0) (j := (t + 1)) zc_X9 ht.1 rfl (by decide) k_43 ?_
      refine z_alen dX9_put_61 ht.2.choose_spec.1 ht.2.choose_spec.2 (fun h12 => ?_)
      refine z_icmp_ge dX9_put_62 h10 h12 (tgt := 73) rfl (fun h13 => ?_) (fun h13 => ?_)
      · exact z_vret dX9_put_73 rfl rfl
      · refine z_aload_n dX9_put_65 2 rfl ?_
        refine z_getR dX9_put_66 (k := 0) (j := (t + 1)) zc_X9 ht.1 rfl (by decide) k_43 ?_
        refine z_iload dX9_put_69 0 rfl ?_
        refine z_iload_n dX9_put_71 5 rfl ?_
        refine z_iastore dX9_put_72 h10 hx3 ?_
        exact z_vret dX9_put_73 rfl rfl
set_option maxRecDepth 20000 in
theorem ct_X9_put {ad sc sv : Nat → Nat} (n : Nat) (t : Nat) (ht : zTab LX t) (a0 : Int) (a1 : Int) (a2 : Int) (m : ZMem) (ha0 : R32 a0) (ha1 : R32 a1) (ha2 : R32 a2) : zCT LX ad sc sv M_X9_put yX9_put [.ref (ad t), .int (mI a0), .int (mI a1), .int (mI a2)] m (F_X9_put n t a0 a1 a2 m) := by
  refine zCT_of (lv := [(0, .ref (ad t)), (1, .int (mI a0)), (2, .int (mI a1)), (3, .int (mI a2))]) (by decide) rfl (Nat.le_of_ble_eq_true rfl) rfl ?_
  unfold F_X9_put
  refine z_iload_n dX9_put_0 1 rfl ?_
  refine z_if_lt dX9_put_1 ha0 (tgt := 28) rfl (fun h1 => ?_) (fun h1 => ?_)
  · refine z_iconst dX9_put_28 ?_
    exact zG_lvk (T_X9_put_29 n t ht a0 a1 a2 0 m ha0 ha1 ha2 (by decide)) [0, 1, 2, 3] rfl
  · refine z_iload_n dX9_put_4 1 rfl ?_
    refine z_aload_n dX9_put_5 0 rfl ?_
    refine z_getI dX9_put_6 (k := 3) zc_X9 ht.1 rfl (by decide) k_46 (fun h2 => ?_)
    refine z_icmp_ge dX9_put_9 ha0 h2 (tgt := 28) rfl (fun h3 => ?_) (fun h3 => ?_)
    · refine z_iconst dX9_put_28 ?_
      exact zG_lvk (T_X9_put_29 n t ht a0 a1 a2 0 m ha0 ha1 ha2 (by decide)) [0, 1, 2, 3] rfl
    · refine z_iload_n dX9_put_12 2 rfl ?_
      refine z_if_lt dX9_put_13 ha1 (tgt := 28) rfl (fun h4 => ?_) (fun h4 => ?_)
      · refine z_iconst dX9_put_28 ?_
        exact zG_lvk (T_X9_put_29 n t ht a0 a1 a2 0 m ha0 ha1 ha2 (by decide)) [0, 1, 2, 3] rfl
      · refine z_iload_n dX9_put_16 2 rfl ?_
        refine z_aload_n dX9_put_17 0 rfl ?_
        refine z_getI dX9_put_18 (k := 2) zc_X9 ht.1 rfl (by decide) k_45 (fun h5 => ?_)
        refine z_icmp_ge dX9_put_21 ha1 h5 (tgt := 28) rfl (fun h6 => ?_) (fun h6 => ?_)
        · refine z_iconst dX9_put_28 ?_
          exact zG_lvk (T_X9_put_29 n t ht a0 a1 a2 0 m ha0 ha1 ha2 (by decide)) [0, 1, 2, 3] rfl
        · refine z_iconst dX9_put_24 ?_
          refine z_goto dX9_put_25 (tgt := 29) rfl ?_
          exact zG_lvk (T_X9_put_29 n t ht a0 a1 a2 1 m ha0 ha1 ha2 (by decide)) [0, 1, 2, 3] rfl
set_option maxRecDepth 20000 in
theorem ct_X0_seen {ad sc sv : Nat → Nat} (n : Nat) (a0 : Int) (a1 : Int) (m : ZMem) (ha0 : R32 a0) (ha1 : R32 a1) : zCT LX ad sc sv M_X0_seen yX0_seen [.ref (ad 59), .ref (ad 10), .int (mI a0), .int (mI a1)] m (F_X0_seen n a0 a1 m) := by
  refine zCT_of (lv := [(0, .ref (ad 59)), (1, .ref (ad 10)), (2, .int (mI a0)), (3, .int (mI a1))]) (by decide) rfl (Nat.le_of_ble_eq_true rfl) rfl ?_
  unfold F_X0_seen
  refine z_aload_n dX0_seen_0 1 rfl ?_
  refine z_iload_n dX0_seen_1 2 rfl ?_
  refine z_callS1 dX0_seen_2 rfl (ct_X0_weightOf n a0 m ha0) k_877 k_878 k_8 k_879 zn_X0_weightOf ⟨rfl, rfl, Nat.le_of_ble_eq_true rfl, Nat.le_of_ble_eq_true rfl⟩ (Nat.le_of_ble_eq_true rfl) rfl (fun v1 m2 h3 ho4 => ?_)
  refine z_aload_n dX0_seen_5 1 rfl ?_
  refine z_iload_n dX0_seen_6 3 rfl ?_
  refine z_callS1 dX0_seen_7 rfl (ct_X0_weightOf n a1 m2 ha1) k_877 k_878 k_8 k_879 zn_X0_weightOf ⟨rfl, rfl, Nat.le_of_ble_eq_true rfl, Nat.le_of_ble_eq_true rfl⟩ (Nat.le_of_ble_eq_true rfl) rfl (fun v5 m6 h7 ho8 => ?_)
  refine z_isub dX0_seen_10 (fun h9 => ?_)
  refine z_istore dX0_seen_11 (lv' := [(4, .int (mI (v1 - v5))), (0, .ref (ad 59)), (1, .ref (ad 10)), (2, .int (mI a0)), (3, .int (mI a1))]) (by decide) rfl ?_
  refine z_sipush dX0_seen_13 (x := 1024) (by decide +kernel) ?_
  refine z_iload_n dX0_seen_16 3 rfl ?_
  refine z_iload_n dX0_seen_17 4 rfl ?_
  refine z_ior dX0_seen_18 ha0 ha1 (fun h10 => ?_)
  refine z_callS1 dX0_seen_19 rfl (ct_J6_bitCount_0f7a4 n (zlor a0 a1) m6 h10) k_881 k_882 k_19 k_883 zn_J6_bitCount_0f7a4 ⟨rfl, rfl, Nat.le_of_ble_eq_true rfl, Nat.le_of_ble_eq_true rfl⟩ (Nat.le_of_ble_eq_true rfl) rfl (fun v11 m12 h13 ho14 => ?_)
  refine z_imul dX0_seen_22 (fun h15 => ?_)
  refine z_iload_n dX0_seen_23 3 rfl ?_
  refine z_iadd dX0_seen_24 (fun h16 => ?_)
  refine z_bipush dX0_seen_25 (x := 32) (by decide +kernel) ?_
  refine z_iload_n dX0_seen_27 4 rfl ?_
  refine z_imul dX0_seen_28 (fun h17 => ?_)
  refine z_iadd dX0_seen_29 (fun h18 => ?_)
  refine z_istore dX0_seen_30 (lv' := [(5, .int (mI (((1024 * v11) + a0) + (32 * a1)))), (4, .int (mI (v1 - v5))), (0, .ref (ad 59)), (1, .ref (ad 10)), (2, .int (mI a0)), (3, .int (mI a1))]) (by decide) rfl ?_
  refine z_aload_n dX0_seen_32 2 rfl ?_
  refine z_getR dX0_seen_33 (k := 0) (j := 60) zc_X0 lx_59 rfl (by decide) k_178 ?_
  refine z_iload dX0_seen_36 1 rfl ?_
  refine z_iconst dX0_seen_38 ?_
  refine z_callV1 dX0_seen_39 rfl (ct_X9_at n 60 zt_60 (v1 - v5) 0 m12 h9 (by decide)) zc_X9 lx_60 k_880 k_264 k_265 k_3 k_266 zn_X9_at ⟨rfl, rfl, Nat.le_of_ble_eq_true rfl, Nat.le_of_ble_eq_true rfl⟩ (Nat.le_of_ble_eq_true rfl) rfl (fun v19 m20 h21 ho22 => ?_)
  refine z_istore dX0_seen_42 (lv' := [(6, .int (mI v19)), (5, .int (mI (((1024 * v11) + a0) + (32 * a1)))), (4, .int (mI (v1 - v5))), (0, .ref (ad 59)), (1, .ref (ad 10)), (2, .int (mI a0)), (3, .int (mI a1))]) (by decide) rfl ?_
  refine z_iload dX0_seen_44 0 rfl ?_
  refine z_bipush dX0_seen_46 (x := (-9)) (by decide +kernel) ?_
  refine z_icmp_eq dX0_seen_48 h21 (by decide) (tgt := 58) rfl (fun h23 => ?_) (fun h23 => ?_)
  · refine z_aload_n dX0_seen_58 3 rfl ?_
    refine z_getR dX0_seen_59 (k := 0) (j := 60) zc_X0 lx_59 rfl (by decide) k_178 ?_
    refine z_iload dX0_seen_62 2 rfl ?_
    refine z_iconst dX0_seen_64 ?_
    refine z_iload dX0_seen_65 1 rfl ?_
    refine z_callV0 dX0_seen_67 rfl (ct_X9_put n 60 zt_60 (v1 - v5) 0 (((1024 * v11) + a0) + (32 * a1)) m20 h9 (by decide) h18) zc_X9 lx_60 k_887 k_268 k_269 k_3 k_270 zn_X9_put ⟨rfl, rfl, Nat.le_of_ble_eq_true rfl, Nat.le_of_ble_eq_true rfl⟩ (Nat.le_of_ble_eq_true rfl) rfl (fun v24 m25 ho27 => ?_)
    exact z_vret dX0_seen_70 rfl rfl
  · refine z_iload dX0_seen_51 1 rfl ?_
    refine z_iload dX0_seen_53 0 rfl ?_
    refine z_icmp_ge dX0_seen_55 h18 h21 (tgt := 70) rfl (fun h28 => ?_) (fun h28 => ?_)
    · exact z_vret dX0_seen_70 rfl rfl
    · refine z_aload_n dX0_seen_58 3 rfl ?_
      refine z_getR dX0_seen_59 (k := 0) (j := 60) zc_X0 lx_59 rfl (by decide) k_178 ?_
      refine z_iload dX0_seen_62 2 rfl ?_
      refine z_iconst dX0_seen_64 ?_
      refine z_iload dX0_seen_65 1 rfl ?_
      refine z_callV0 dX0_seen_67 rfl (ct_X9_put n 60 zt_60 (v1 - v5) 0 (((1024 * v11) + a0) + (32 * a1)) m20 h9 (by decide) h18) zc_X9 lx_60 k_887 k_268 k_269 k_3 k_270 zn_X9_put ⟨rfl, rfl, Nat.le_of_ble_eq_true rfl, Nat.le_of_ble_eq_true rfl⟩ (Nat.le_of_ble_eq_true rfl) rfl (fun v29 m30 ho32 => ?_)
      exact z_vret dX0_seen_70 rfl rfl
set_option maxRecDepth 20000 in
theorem T_X0_seekAll_29 {ad sc sv : Nat → Nat} (n : Nat) (r21 : Int → Int → ZMem → ZR) (r29 : Int → Int → Int → ZMem → ZR) (hr21 : ∀ (x2 : Int) (x3 : Int) (m : ZMem), R32 x2 → R32 x3 → zG LX ad sc sv M_X0_seekAll 21 [(0, .ref (ad 59)), (1, .ref (ad 10)), (2, .int (mI x2)), (3, .int (mI x3))] [] m (r21 x2 x3 m)) (hr29 : ∀ (x2 : Int) (x3 : Int) (x4 : Int) (m : ZMem), R32 x2 → R32 x3 → R32 x4 → zG LX ad sc sv M_X0_seekAll 29 [(0, .ref (ad 59)), (1, .ref (ad 10)), (2, .int (mI x2)), (3, .int (mI x3)), (4, .int (mI x4))] [] m (r29 x2 x3 x4 m)) : ∀ (x2 : Int) (x3 : Int) (x4 : Int) (m : ZMem), R32 x2 → R32 x3 → R32 x4 → zG LX ad sc sv M_X0_seekAll 29 [(0, .ref (ad 59)), (1, .ref (ad 10)), (2, .int (mI x2)), (3, .int (mI x3)), (4, .int (mI x4))] [] m (B_X0_seekAll_29 n r21 r29 x2 x3 x4 m) := by
  intro x2 x3 x4 m hx2 hx3 hx4
  unfold B_X0_seekAll_29
  refine z_iload dX0_seekAll_29 4 rfl ?_
  refine z_iload_n dX0_seekAll_31 2 rfl ?_
  refine z_icmp_ge dX0_seekAll_32 hx4 hx2 (tgt := 56) rfl (fun h11 => ?_) (fun h11 => ?_)
  · refine z_iinc dX0_seekAll_56 (lv' := [(3, .int (mI (x3 + 1))), (0, .ref (ad 59)), (1, .ref (ad 10)), (2, .int (mI x2)), (4, .int (mI x4))]) 3 rfl (by decide) rfl (fun h12 => ?_)
    refine z_goto dX0_seekAll_59 (tgt := 21) rfl ?_
    exact zG_lvk (hr21 x2 (x3 + 1) m hx2 h12) [1, 2, 3, 0] rfl
  · refine z_iload_n dX0_seekAll_35 3 rfl ?_
    refine z_iload dX0_seekAll_36 4 rfl ?_
    refine z_iand dX0_seekAll_38 hx3 (fun h13 => ?_)
    refine z_if_ne dX0_seekAll_39 h13 (tgt := 50) rfl (fun h14 => ?_) (fun h14 => ?_)
    · refine z_aload_n dX0_seekAll_42 0 rfl ?_
      refine z_aload_n dX0_seekAll_43 1 rfl ?_
      refine z_iload_n dX0_seekAll_44 3 rfl ?_
      refine z_iload dX0_seekAll_45 4 rfl ?_
      refine z_callV0 dX0_seekAll_47 rfl (ct_X0_seen n x3 x4 m hx3 hx4) zc_X0 lx_59 k_873 k_875 kp_31 k_8 k_876 zn_X0_seen ⟨rfl, rfl, Nat.le_of_ble_eq_true rfl, Nat.le_of_ble_eq_true rfl⟩ (Nat.le_of_ble_eq_true rfl) rfl (fun v15 m16 ho18 => ?_)
      refine z_iinc dX0_seekAll_50 (lv' := [(4, .int (mI (x4 + 1))), (0, .ref (ad 59)), (1, .ref (ad 10)), (2, .int (mI x2)), (3, .int (mI x3))]) 4 rfl (by decide) rfl (fun h19 => ?_)
      refine z_goto dX0_seekAll_53 (tgt := 29) rfl ?_
      exact zG_lvk (hr29 x2 x3 (x4 + 1) m16 hx2 hx3 h19) [1, 2, 3, 4, 0] rfl
    · refine z_iinc dX0_seekAll_50 (lv' := [(4, .int (mI (x4 + 1))), (0, .ref (ad 59)), (1, .ref (ad 10)), (2, .int (mI x2)), (3, .int (mI x3))]) 4 rfl (by decide) rfl (fun h20 => ?_)
      refine z_goto dX0_seekAll_53 (tgt := 29) rfl ?_
      exact zG_lvk (hr29 x2 x3 (x4 + 1) m hx2 hx3 h20) [1, 2, 3, 4, 0] rfl
theorem TL_X0_seekAll_29 {ad sc sv : Nat → Nat} (n : Nat) (r21 : Int → Int → ZMem → ZR) (hr21 : ∀ (x2 : Int) (x3 : Int) (m : ZMem), R32 x2 → R32 x3 → zG LX ad sc sv M_X0_seekAll 21 [(0, .ref (ad 59)), (1, .ref (ad 10)), (2, .int (mI x2)), (3, .int (mI x3))] [] m (r21 x2 x3 m)) : ∀ q : Nat, ∀ (x2 : Int) (x3 : Int) (x4 : Int) (m : ZMem), R32 x2 → R32 x3 → R32 x4 → zG LX ad sc sv M_X0_seekAll 29 [(0, .ref (ad 59)), (1, .ref (ad 10)), (2, .int (mI x2)), (3, .int (mI x3)), (4, .int (mI x4))] [] m (L_X0_seekAll_29 n r21 q x2 x3 x4 m) := by
  intro q
  induction q with
  | zero => intros; exact zG_none
  | succ q ih => exact T_X0_seekAll_29 n r21 (L_X0_seekAll_29 n r21 q) hr21 ih
set_option maxRecDepth 20000 in
theorem T_X0_seekAll_21 {ad sc sv : Nat → Nat} (n : Nat) (r21 : Int → Int → ZMem → ZR) (hr21 : ∀ (x2 : Int) (x3 : Int) (m : ZMem), R32 x2 → R32 x3 → zG LX ad sc sv M_X0_seekAll 21 [(0, .ref (ad 59)), (1, .ref (ad 10)), (2, .int (mI x2)), (3, .int (mI x3))] [] m (r21 x2 x3 m)) : ∀ (x2 : Int) (x3 : Int) (m : ZMem), R32 x2 → R32 x3 → zG LX ad sc sv M_X0_seekAll 21 [(0, .ref (ad 59)), (1, .ref (ad 10)), (2, .int (mI x2)), (3, .int (mI x3))] [] m (B_X0_seekAll_21 n r21 x2 x3 m) := by
  intro x2 x3 m hx2 hx3
  unfold B_X0_seekAll_21
  refine z_iload_n dX0_seekAll_21 3 rfl ?_
  refine z_iload_n dX0_seekAll_22 2 rfl ?_
  refine z_icmp_ge dX0_seekAll_23 hx3 hx2 (tgt := 62) rfl (fun h10 => ?_) (fun h10 => ?_)
  · exact z_vret dX0_seekAll_62 rfl rfl
  · refine z_iconst dX0_seekAll_26 ?_
    refine z_istore dX0_seekAll_27 (lv' := [(4, .int (mI 0)), (0, .ref (ad 59)), (1, .ref (ad 10)), (2, .int (mI x2)), (3, .int (mI x3))]) (by decide) rfl ?_
    exact zG_lvk (TL_X0_seekAll_29 n r21 hr21 n x2 x3 0 m hx2 hx3 (by decide)) [1, 2, 3, 4, 0] rfl
theorem TL_X0_seekAll_21 {ad sc sv : Nat → Nat} (n : Nat) : ∀ q : Nat, ∀ (x2 : Int) (x3 : Int) (m : ZMem), R32 x2 → R32 x3 → zG LX ad sc sv M_X0_seekAll 21 [(0, .ref (ad 59)), (1, .ref (ad 10)), (2, .int (mI x2)), (3, .int (mI x3))] [] m (L_X0_seekAll_21 n q x2 x3 m) := by
  intro q
  induction q with
  | zero => intros; exact zG_none
  | succ q ih => exact T_X0_seekAll_21 n (L_X0_seekAll_21 n q) ih
set_option maxRecDepth 20000 in
theorem ct_X0_seekAll {ad sc sv : Nat → Nat} (n : Nat) (m : ZMem) : zCT LX ad sc sv M_X0_seekAll yX0_seekAll [.ref (ad 59), .ref (ad 10)] m (F_X0_seekAll n m) := by
  refine zCT_of (lv := [(0, .ref (ad 59)), (1, .ref (ad 10))]) (by decide) rfl (Nat.le_of_ble_eq_true rfl) rfl ?_
  unfold F_X0_seekAll
  refine z_aload_n dX0_seekAll_0 0 rfl ?_
  refine z_getR dX0_seekAll_1 (k := 0) (j := 60) zc_X0 lx_59 rfl (by decide) k_178 ?_
  refine z_sipush dX0_seekAll_4 (x := 201) (by decide +kernel) ?_
  refine z_bipush dX0_seekAll_7 (x := (-9)) (by decide +kernel) ?_
  refine z_callV0 dX0_seekAll_9 rfl (ct_X9_reset n 60 zt_60 201 (-9) m (by decide) (by decide)) zc_X9 lx_60 k_871 k_58 k_59 k_3 k_60 zn_X9_reset ⟨rfl, rfl, Nat.le_of_ble_eq_true rfl, Nat.le_of_ble_eq_true rfl⟩ (Nat.le_of_ble_eq_true rfl) rfl (fun v1 m2 ho4 => ?_)
  refine z_iconst dX0_seekAll_12 ?_
  refine z_aload_n dX0_seekAll_13 1 rfl ?_
  refine z_callV1 dX0_seekAll_14 rfl (ct_X9_size n 10 zt_10 m2) zc_X9 lx_10 k_872 k_276 k_277 k_3 k_278 zn_X9_size ⟨rfl, rfl, Nat.le_of_ble_eq_true rfl, Nat.le_of_ble_eq_true rfl⟩ (Nat.le_of_ble_eq_true rfl) rfl (fun v5 m6 h7 ho8 => ?_)
  refine z_ishl dX0_seekAll_17 (fun h9 => ?_)
  refine z_istore_n dX0_seekAll_18 (lv' := [(2, .int (mI (1 * 2 ^ (v5 : Int).toNat))), (0, .ref (ad 59)), (1, .ref (ad 10))]) (by decide) rfl ?_
  refine z_iconst dX0_seekAll_19 ?_
  refine z_istore_n dX0_seekAll_20 (lv' := [(3, .int (mI 1)), (2, .int (mI (1 * 2 ^ (v5 : Int).toNat))), (0, .ref (ad 59)), (1, .ref (ad 10))]) (by decide) rfl ?_
  exact zG_lvk (TL_X0_seekAll_21 n n (1 * 2 ^ (v5 : Int).toNat) 1 m6 h9 (by decide)) [2, 3, 1, 0] rfl
set_option maxRecDepth 20000 in
theorem ct_X0_weighing {ad sc sv : Nat → Nat} (n : Nat) (a0 : Int) (a1 : Int) (m : ZMem) (ha0 : R32 a0) (ha1 : R32 a1) : zCT LX ad sc sv M_X0_weighing yX0_weighing [.ref (ad 59), .ref (ad 10), .int (mI a0), .int (mI a1)] m (F_X0_weighing n a0 a1 m) := by
  refine zCT_of (lv := [(0, .ref (ad 59)), (1, .ref (ad 10)), (2, .int (mI a0)), (3, .int (mI a1))]) (by decide) rfl (Nat.le_of_ble_eq_true rfl) rfl ?_
  unfold F_X0_weighing
  refine z_aload_n dX0_weighing_0 0 rfl ?_
  refine z_aload_n dX0_weighing_1 1 rfl ?_
  refine z_callV0 dX0_weighing_2 rfl (ct_X0_seekAll n m) zc_X0 lx_59 k_867 k_869 kp_30 k_8 k_870 zn_X0_seekAll ⟨rfl, rfl, Nat.le_of_ble_eq_true rfl, Nat.le_of_ble_eq_true rfl⟩ (Nat.le_of_ble_eq_true rfl) rfl (fun v1 m2 ho4 => ?_)
  refine z_aload_n dX0_weighing_5 0 rfl ?_
  refine z_getR dX0_weighing_6 (k := 0) (j := 60) zc_X0 lx_59 rfl (by decide) k_178 ?_
  refine z_iload_n dX0_weighing_9 2 rfl ?_
  refine z_iconst dX0_weighing_10 ?_
  refine z_callV1 dX0_weighing_11 rfl (ct_X9_at n 60 zt_60 a0 0 m2 ha0 (by decide)) zc_X9 lx_60 k_880 k_264 k_265 k_3 k_266 zn_X9_at ⟨rfl, rfl, Nat.le_of_ble_eq_true rfl, Nat.le_of_ble_eq_true rfl⟩ (Nat.le_of_ble_eq_true rfl) rfl (fun v5 m6 h7 ho8 => ?_)
  refine z_istore dX0_weighing_14 (lv' := [(4, .int (mI v5)), (0, .ref (ad 59)), (1, .ref (ad 10)), (2, .int (mI a0)), (3, .int (mI a1))]) (by decide) rfl ?_
  refine z_iload dX0_weighing_16 0 rfl ?_
  refine z_bipush dX0_weighing_18 (x := (-9)) (by decide +kernel) ?_
  refine z_icmp_ne dX0_weighing_20 h7 (by decide) (tgt := 26) rfl (fun h9 => ?_) (fun h9 => ?_)
  · refine z_bipush dX0_weighing_23 (x := (-9)) (by decide +kernel) ?_
    exact z_iret dX0_weighing_25 rfl rfl (by decide)
  · refine z_iload_n dX0_weighing_26 4 rfl ?_
    refine z_if_ne dX0_weighing_27 ha1 (tgt := 39) rfl (fun h10 => ?_) (fun h10 => ?_)
    · refine z_iload dX0_weighing_30 0 rfl ?_
      refine z_sipush dX0_weighing_32 (x := 1024) (by decide +kernel) ?_
      refine z_idiv dX0_weighing_35 h7 (by decide) (fun h11 => ?_)
      refine z_goto dX0_weighing_36 (tgt := 45) rfl ?_
      exact z_iret dX0_weighing_45 rfl rfl h11
    · refine z_iload dX0_weighing_39 0 rfl ?_
      refine z_sipush dX0_weighing_41 (x := 1024) (by decide +kernel) ?_
      refine z_irem dX0_weighing_44 h7 (by decide) (fun h12 => ?_)
      exact z_iret dX0_weighing_45 rfl rfl h12
set_option maxRecDepth 20000 in
theorem T_X0_weighable_9 {ad sc sv : Nat → Nat} (n : Nat) (r9 : Int → Int → ZMem → ZR) (hr9 : ∀ (x2 : Int) (x3 : Int) (m : ZMem), R32 x2 → R32 x3 → zG LX ad sc sv M_X0_weighable 9 [(0, .ref (ad 59)), (2, .int (mI x2)), (3, .int (mI x3))] [] m (r9 x2 x3 m)) : ∀ (x2 : Int) (x3 : Int) (m : ZMem), R32 x2 → R32 x3 → zG LX ad sc sv M_X0_weighable 9 [(0, .ref (ad 59)), (2, .int (mI x2)), (3, .int (mI x3))] [] m (B_X0_weighable_9 n r9 x2 x3 m) := by
  intro x2 x3 m hx2 hx3
  unfold B_X0_weighable_9
  refine z_iload_n dX0_weighable_9 2 rfl ?_
  refine z_sipush dX0_weighable_10 (x := 200) (by decide +kernel) ?_
  refine z_icmp_gt dX0_weighable_13 hx3 (by decide) (tgt := 39) rfl (fun h5 => ?_) (fun h5 => ?_)
  · refine z_iload_n dX0_weighable_39 1 rfl ?_
    exact z_iret dX0_weighable_40 rfl rfl hx2
  · refine z_aload_n dX0_weighable_16 0 rfl ?_
    refine z_getR dX0_weighable_17 (k := 0) (j := 60) zc_X0 lx_59 rfl (by decide) k_178 ?_
    refine z_iload_n dX0_weighable_20 2 rfl ?_
    refine z_iconst dX0_weighable_21 ?_
    refine z_callV1 dX0_weighable_22 rfl (ct_X9_at n 60 zt_60 x3 0 m hx3 (by decide)) zc_X9 lx_60 k_880 k_264 k_265 k_3 k_266 zn_X9_at ⟨rfl, rfl, Nat.le_of_ble_eq_true rfl, Nat.le_of_ble_eq_true rfl⟩ (Nat.le_of_ble_eq_true rfl) rfl (fun v6 m7 h8 ho9 => ?_)
    refine z_bipush dX0_weighable_25 (x := (-9)) (by decide +kernel) ?_
    refine z_icmp_eq dX0_weighable_27 h8 (by decide) (tgt := 33) rfl (fun h10 => ?_) (fun h10 => ?_)
    · refine z_iinc dX0_weighable_33 (lv' := [(3, .int (mI (x3 + 1))), (0, .ref (ad 59)), (2, .int (mI x2))]) 2 rfl (by decide) rfl (fun h11 => ?_)
      refine z_goto dX0_weighable_36 (tgt := 9) rfl ?_
      exact zG_lvk (hr9 x2 (x3 + 1) m7 hx2 h11) [1, 2, 0] rfl
    · refine z_iinc dX0_weighable_30 (lv' := [(2, .int (mI (x2 + 1))), (0, .ref (ad 59)), (3, .int (mI x3))]) 1 rfl (by decide) rfl (fun h12 => ?_)
      refine z_iinc dX0_weighable_33 (lv' := [(3, .int (mI (x3 + 1))), (2, .int (mI (x2 + 1))), (0, .ref (ad 59))]) 2 rfl (by decide) rfl (fun h13 => ?_)
      refine z_goto dX0_weighable_36 (tgt := 9) rfl ?_
      exact zG_lvk (hr9 (x2 + 1) (x3 + 1) m7 h12 h13) [2, 1, 0] rfl
theorem TL_X0_weighable_9 {ad sc sv : Nat → Nat} (n : Nat) : ∀ q : Nat, ∀ (x2 : Int) (x3 : Int) (m : ZMem), R32 x2 → R32 x3 → zG LX ad sc sv M_X0_weighable 9 [(0, .ref (ad 59)), (2, .int (mI x2)), (3, .int (mI x3))] [] m (L_X0_weighable_9 n q x2 x3 m) := by
  intro q
  induction q with
  | zero => intros; exact zG_none
  | succ q ih => exact T_X0_weighable_9 n (L_X0_weighable_9 n q) ih
set_option maxRecDepth 20000 in
theorem ct_X0_weighable {ad sc sv : Nat → Nat} (n : Nat) (m : ZMem) : zCT LX ad sc sv M_X0_weighable yX0_weighable [.ref (ad 59), .ref (ad 10)] m (F_X0_weighable n m) := by
  refine zCT_of (lv := [(0, .ref (ad 59)), (1, .ref (ad 10))]) (by decide) rfl (Nat.le_of_ble_eq_true rfl) rfl ?_
  unfold F_X0_weighable
  refine z_aload_n dX0_weighable_0 0 rfl ?_
  refine z_aload_n dX0_weighable_1 1 rfl ?_
  refine z_callV0 dX0_weighable_2 rfl (ct_X0_seekAll n m) zc_X0 lx_59 k_867 k_869 kp_30 k_8 k_870 zn_X0_seekAll ⟨rfl, rfl, Nat.le_of_ble_eq_true rfl, Nat.le_of_ble_eq_true rfl⟩ (Nat.le_of_ble_eq_true rfl) rfl (fun v1 m2 ho4 => ?_)
  refine z_iconst dX0_weighable_5 ?_
  refine z_istore_n dX0_weighable_6 (lv' := [(2, .int (mI 0)), (0, .ref (ad 59)), (1, .ref (ad 10))]) (by decide) rfl ?_
  refine z_iconst dX0_weighable_7 ?_
  refine z_istore_n dX0_weighable_8 (lv' := [(3, .int (mI 1)), (2, .int (mI 0)), (0, .ref (ad 59)), (1, .ref (ad 10))]) (by decide) rfl ?_
  exact zG_lvk (TL_X0_weighable_9 n n 0 1 m2 (by decide) (by decide)) [2, 1, 0] rfl
set_option maxRecDepth 20000 in
theorem ct_X1_letters {ad sc sv : Nat → Nat} (n : Nat) (m : ZMem) : zCT LX ad sc sv M_X1_letters yX1_letters [.ref (ad 40)] m (F_X1_letters n m) := by
  refine zCT_of (lv := [(0, .ref (ad 40))]) (by decide) rfl (Nat.le_of_ble_eq_true rfl) rfl ?_
  unfold F_X1_letters
  refine z_aload_n dX1_letters_0 0 rfl ?_
  refine z_getR dX1_letters_1 (k := 0) (j := 41) zc_X1 lx_40 rfl (by decide) k_131 ?_
  exact z_aret dX1_letters_4 rfl rfl
set_option maxRecDepth 20000 in
theorem ct_X1_formOf {ad sc sv : Nat → Nat} (n : Nat) (a0 : Int) (m : ZMem) (ha0 : R32 a0) : zCT LX ad sc sv M_X1_formOf yX1_formOf [.int (mI a0)] m (F_X1_formOf n a0 m) := by
  refine zCT_of (lv := [(0, .int (mI a0))]) (by decide) rfl (Nat.le_of_ble_eq_true rfl) rfl ?_
  unfold F_X1_formOf
  refine z_iload_n dX1_formOf_0 0 rfl ?_
  refine z_case (fun hc1 => ?_) (fun hc1 => ?_)
  · refine z_tsIn dX1_formOf_1 (cst := 99) hc1 (by decide) (by decide) rfl (tgt := 103) rfl ?_
    refine z_ldcS dX1_formOf_103 (i := 5) (by decide) rfl rfl ?_
    exact z_sret dX1_formOf_105 rfl rfl
  · refine z_case (fun hc2 => ?_) (fun hc2 => ?_)
    · refine z_tsIn dX1_formOf_1 (cst := 100) hc2 (by decide) (by decide) rfl (tgt := 106) rfl ?_
      refine z_ldcS dX1_formOf_106 (i := 6) (by decide) rfl rfl ?_
      exact z_sret dX1_formOf_108 rfl rfl
    · refine z_case (fun hc3 => ?_) (fun hc3 => ?_)
      · refine z_tsIn dX1_formOf_1 (cst := 101) hc3 (by decide) (by decide) rfl (tgt := 106) rfl ?_
        refine z_ldcS dX1_formOf_106 (i := 6) (by decide) rfl rfl ?_
        exact z_sret dX1_formOf_108 rfl rfl
      · refine z_case (fun hc4 => ?_) (fun hc4 => ?_)
        · refine z_tsIn dX1_formOf_1 (cst := 102) hc4 (by decide) (by decide) rfl (tgt := 88) rfl ?_
          refine z_ldcS dX1_formOf_88 (i := 0) (by decide) rfl rfl ?_
          exact z_sret dX1_formOf_90 rfl rfl
        · refine z_case (fun hc5 => ?_) (fun hc5 => ?_)
          · refine z_tsIn dX1_formOf_1 (cst := 103) hc5 (by decide) (by decide) rfl (tgt := 106) rfl ?_
            refine z_ldcS dX1_formOf_106 (i := 6) (by decide) rfl rfl ?_
            exact z_sret dX1_formOf_108 rfl rfl
          · refine z_case (fun hc6 => ?_) (fun hc6 => ?_)
            · refine z_tsIn dX1_formOf_1 (cst := 104) hc6 (by decide) (by decide) rfl (tgt := 94) rfl ?_
              refine z_ldcS dX1_formOf_94 (i := 2) (by decide) rfl rfl ?_
              exact z_sret dX1_formOf_96 rfl rfl
            · refine z_case (fun hc7 => ?_) (fun hc7 => ?_)
              · refine z_tsIn dX1_formOf_1 (cst := 105) hc7 (by decide) (by decide) rfl (tgt := 106) rfl ?_
                refine z_ldcS dX1_formOf_106 (i := 6) (by decide) rfl rfl ?_
                exact z_sret dX1_formOf_108 rfl rfl
              · refine z_case (fun hc8 => ?_) (fun hc8 => ?_)
                · refine z_tsIn dX1_formOf_1 (cst := 106) hc8 (by decide) (by decide) rfl (tgt := 106) rfl ?_
                  refine z_ldcS dX1_formOf_106 (i := 6) (by decide) rfl rfl ?_
                  exact z_sret dX1_formOf_108 rfl rfl
                · refine z_case (fun hc9 => ?_) (fun hc9 => ?_)
                  · refine z_tsIn dX1_formOf_1 (cst := 107) hc9 (by decide) (by decide) rfl (tgt := 106) rfl ?_
                    refine z_ldcS dX1_formOf_106 (i := 6) (by decide) rfl rfl ?_
                    exact z_sret dX1_formOf_108 rfl rfl
                  · refine z_case (fun hc10 => ?_) (fun hc10 => ?_)
                    · refine z_tsIn dX1_formOf_1 (cst := 108) hc10 (by decide) (by decide) rfl (tgt := 106) rfl ?_
                      refine z_ldcS dX1_formOf_106 (i := 6) (by decide) rfl rfl ?_
                      exact z_sret dX1_formOf_108 rfl rfl
                    · refine z_case (fun hc11 => ?_) (fun hc11 => ?_)
                      · refine z_tsIn dX1_formOf_1 (cst := 109) hc11 (by decide) (by decide) rfl (tgt := 106) rfl ?_
                        refine z_ldcS dX1_formOf_106 (i := 6) (by decide) rfl rfl ?_
                        exact z_sret dX1_formOf_108 rfl rfl
                      · refine z_case (fun hc12 => ?_) (fun hc12 => ?_)
                        · refine z_tsIn dX1_formOf_1 (cst := 110) hc12 (by decide) (by decide) rfl (tgt := 106) rfl ?_
                          refine z_ldcS dX1_formOf_106 (i := 6) (by decide) rfl rfl ?_
                          exact z_sret dX1_formOf_108 rfl rfl
                        · refine z_case (fun hc13 => ?_) (fun hc13 => ?_)
                          · refine z_tsIn dX1_formOf_1 (cst := 111) hc13 (by decide) (by decide) rfl (tgt := 106) rfl ?_
                            refine z_ldcS dX1_formOf_106 (i := 6) (by decide) rfl rfl ?_
                            exact z_sret dX1_formOf_108 rfl rfl
                          · refine z_case (fun hc14 => ?_) (fun hc14 => ?_)
                            · refine z_tsIn dX1_formOf_1 (cst := 112) hc14 (by decide) (by decide) rfl (tgt := 91) rfl ?_
                              refine z_ldcS dX1_formOf_91 (i := 1) (by decide) rfl rfl ?_
                              exact z_sret dX1_formOf_93 rfl rfl
                            · refine z_case (fun hc15 => ?_) (fun hc15 => ?_)
                              · refine z_tsIn dX1_formOf_1 (cst := 113) hc15 (by decide) (by decide) rfl (tgt := 106) rfl ?_
                                refine z_ldcS dX1_formOf_106 (i := 6) (by decide) rfl rfl ?_
                                exact z_sret dX1_formOf_108 rfl rfl
                              · refine z_case (fun hc16 => ?_) (fun hc16 => ?_)
                                · refine z_tsIn dX1_formOf_1 (cst := 114) hc16 (by decide) (by decide) rfl (tgt := 106) rfl ?_
                                  refine z_ldcS dX1_formOf_106 (i := 6) (by decide) rfl rfl ?_
                                  exact z_sret dX1_formOf_108 rfl rfl
                                · refine z_case (fun hc17 => ?_) (fun hc17 => ?_)
                                  · refine z_tsIn dX1_formOf_1 (cst := 115) hc17 (by decide) (by decide) rfl (tgt := 100) rfl ?_
                                    refine z_ldcS dX1_formOf_100 (i := 4) (by decide) rfl rfl ?_
                                    exact z_sret dX1_formOf_102 rfl rfl
                                  · refine z_case (fun hc18 => ?_) (fun hc18 => ?_)
                                    · refine z_tsIn dX1_formOf_1 (cst := 116) hc18 (by decide) (by decide) rfl (tgt := 97) rfl ?_
                                      refine z_ldcS dX1_formOf_97 (i := 3) (by decide) rfl rfl ?_
                                      exact z_sret dX1_formOf_99 rfl rfl
                                    · refine z_tsOut dX1_formOf_1 ha0 (by omega) (tgt := 106) rfl ?_
                                      refine z_ldcS dX1_formOf_106 (i := 6) (by decide) rfl rfl ?_
                                      exact z_sret dX1_formOf_108 rfl rfl
set_option maxRecDepth 20000 in
theorem T_X9_add_30 {ad sc sv : Nat → Nat} (n : Nat) (t : Nat) (ht : zTab LX t) (r30 : Int → Int → Int → ZMem → ZR) (hr30 : ∀ (x1 : Int) (x2 : Int) (x3 : Int) (m : ZMem), R32 x1 → R32 x2 → R32 x3 → zG LX ad sc sv M_X9_add 30 [(0, .ref (ad t)), (1, .int (mI x1)), (2, .int (mI x2)), (3, .int (mI x3))] [] m (r30 x1 x2 x3 m)) : ∀ (x1 : Int) (x2 : Int) (x3 : Int) (m : ZMem), R32 x1 → R32 x2 → R32 x3 → zG LX ad sc sv M_X9_add 30 [(0, .ref (ad t)), (1, .int (mI x1)), (2, .int (mI x2)), (3, .int (mI x3))] [] m (B_X9_add_30 n t r30 x1 x2 x3 m) := by
  intro x1 x2 x3 m hx1 hx2 hx3
  unfold B_X9_add_30
  refine z_iload_n dX9_add_30 3 rfl ?_
  refine z_iload_n dX9_add_31 2 rfl ?_
  refine z_aload_n dX9_add_32 0 rfl ?_
  refine z_getI dX9_add_33 (k := 2) zc_X9 ht.1 rfl (by decide) k_45 (fun h8 => ?_)
  refine z_iadd dX9_add_36 (fun h9 => ?_)
  refine z_icmp_ge dX9_add_37 hx3 h9 (tgt := 71) rfl (fun h10 => ?_) (fun h10 => ?_)
  · refine z_aload_n dX9_add_71 0 rfl ?_
    refine z_dup dX9_add_72 rfl ?_
    refine z_getI dX9_add_73 (k := 3) zc_X9 ht.1 rfl (by decide) k_46 (fun h11 => ?_)
    refine z_iconst dX9_add_76 ?_
    refine z_iadd dX9_add_77 (fun h12 => ?_)
    refine z_putI dX9_add_78 (k := 3) zc_X9 ht.1 rfl (by decide) rfl rfl h12 k_46 ?_
    refine z_aload_n dX9_add_81 0 rfl ?_
    refine z_getI dX9_add_82 (k := 3) zc_X9 ht.1 rfl (by decide) k_46 (fun h13 => ?_)
    refine z_iconst dX9_add_85 ?_
    refine z_isub dX9_add_86 (fun h14 => ?_)
    exact z_iret dX9_add_87 rfl rfl h14
  · refine z_iload_n dX9_add_40 3 rfl ?_
    refine z_aload_n dX9_add_41 0 rfl ?_
    refine z_getR dX9_add_42 (k := 0) (j := (t + 1)) zc_X9 ht.1 rfl (by decide) k_43 ?_
    refine z_alen dX9_add_45 ht.2.choose_spec.1 ht.2.choose_spec.2 (fun h15 => ?_)
    refine z_icmp_ge dX9_add_46 hx3 h15 (tgt := 71) rfl (fun h16 => ?_) (fun h16 => ?_)
    · refine z_aload_n dX9_add_71 0 rfl ?_
      refine z_dup dX9_add_72 rfl ?_
      refine z_getI dX9_add_73 (k := 3) zc_X9 ht.1 rfl (by decide) k_46 (fun h17 => ?_)
      refine z_iconst dX9_add_76 ?_
      refine z_iadd dX9_add_77 (fun h18 => ?_)
      refine z_putI dX9_add_78 (k := 3) zc_X9 ht.1 rfl (by decide) rfl rfl h18 k_46 ?_
      refine z_aload_n dX9_add_81 0 rfl ?_
      refine z_getI dX9_add_82 (k := 3) zc_X9 ht.1 rfl (by decide) k_46 (fun h19 => ?_)
      refine z_iconst dX9_add_85 ?_
      refine z_isub dX9_add_86 (fun h20 => ?_)
      exact z_iret dX9_add_87 rfl rfl h20
    · refine z_aload_n dX9_add_49 0 rfl ?_
      refine z_getR dX9_add_50 (k := 0) (j := (t + 1)) zc_X9 ht.1 rfl (by decide) k_43 ?_
      refine z_iload_n dX9_add_53 3 rfl ?_
      refine z_iload_n dX9_add_54 3 rfl ?_
      refine z_iload_n dX9_add_55 2 rfl ?_
      refine z_icmp_ne dX9_add_56 hx3 hx2 (tgt := 63) rfl (fun h21 => ?_) (fun h21 => ?_)
      · refine z_iload_n dX9_add_59 1 rfl ?_
        refine z_goto dX9_add_60 (tgt := 64) rfl ?_
        refine z_iastore dX9_add_64 hx3 hx1 ?_
        refine z_iinc dX9_add_65 (lv' := [(3, .int (mI (x3 + 1))), (0, .ref (ad t)), (1, .int (mI x1)), (2, .int (mI x2))]) 3 rfl (by decide) rfl (fun h22 => ?_)
        refine z_goto dX9_add_68 (tgt := 30) rfl ?_
        exact zG_lvk (hr30 x1 x2 (x3 + 1) (wr m (t + 1) (x3 : Int).toNat x1) hx1 hx2 h22) [1, 2, 3, 0] rfl
      · refine z_iconst dX9_add_63 ?_
        refine z_iastore dX9_add_64 hx3 (by decide) ?_
        refine z_iinc dX9_add_65 (lv' := [(3, .int (mI (x3 + 1))), (0, .ref (ad t)), (1, .int (mI x1)), (2, .int (mI x2))]) 3 rfl (by decide) rfl (fun h23 => ?_)
        refine z_goto dX9_add_68 (tgt := 30) rfl ?_
        exact zG_lvk (hr30 x1 x2 (x3 + 1) (wr m (t + 1) (x3 : Int).toNat 0) hx1 hx2 h23) [1, 2, 3, 0] rfl
theorem TL_X9_add_30 {ad sc sv : Nat → Nat} (n : Nat) (t : Nat) (ht : zTab LX t) : ∀ q : Nat, ∀ (x1 : Int) (x2 : Int) (x3 : Int) (m : ZMem), R32 x1 → R32 x2 → R32 x3 → zG LX ad sc sv M_X9_add 30 [(0, .ref (ad t)), (1, .int (mI x1)), (2, .int (mI x2)), (3, .int (mI x3))] [] m (L_X9_add_30 n t q x1 x2 x3 m) := by
  intro q
  induction q with
  | zero => intros; exact zG_none
  | succ q ih => exact T_X9_add_30 n t ht (L_X9_add_30 n t q) ih
set_option maxRecDepth 20000 in
theorem ct_X9_add {ad sc sv : Nat → Nat} (n : Nat) (t : Nat) (ht : zTab LX t) (a0 : Int) (m : ZMem) (ha0 : R32 a0) : zCT LX ad sc sv M_X9_add yX9_add [.ref (ad t), .int (mI a0)] m (F_X9_add n t a0 m) := by
  refine zCT_of (lv := [(0, .ref (ad t)), (1, .int (mI a0))]) (by decide) rfl (Nat.le_of_ble_eq_true rfl) rfl ?_
  unfold F_X9_add
  refine z_aload_n dX9_add_0 0 rfl ?_
  refine z_getI dX9_add_1 (k := 3) zc_X9 ht.1 rfl (by decide) k_46 (fun h1 => ?_)
  refine z_aload_n dX9_add_4 0 rfl ?_
  refine z_getI dX9_add_5 (k := 2) zc_X9 ht.1 rfl (by decide) k_45 (fun h2 => ?_)
  refine z_imul dX9_add_8 (fun h3 => ?_)
  refine z_istore_n dX9_add_9 (lv' := [(2, .int (mI ((m t 3) * (m t 2)))), (0, .ref (ad t)), (1, .int (mI a0))]) (by decide) rfl ?_
  refine z_aload_n dX9_add_10 1 rfl ?_
  refine z_getI dX9_add_11 (k := 3) zc_X9 ht.1 rfl (by decide) k_46 (fun h4 => ?_)
  refine z_aload_n dX9_add_14 1 rfl ?_
  refine z_getI dX9_add_15 (k := 1) zc_X9 ht.1 rfl (by decide) k_44 (fun h5 => ?_)
  refine z_icmp_ge dX9_add_18 h4 h5 (tgt := 25) rfl (fun h6 => ?_) (fun h6 => ?_)
  · refine z_bipush dX9_add_25 (x := (-9)) (by decide +kernel) ?_
    exact z_iret dX9_add_27 rfl rfl (by decide)
  · refine z_iload_n dX9_add_21 0 rfl ?_
    refine z_if_ge dX9_add_22 h3 (tgt := 28) rfl (fun h7 => ?_) (fun h7 => ?_)
    · refine z_iload_n dX9_add_28 0 rfl ?_
      refine z_istore_n dX9_add_29 (lv' := [(3, .int (mI ((m t 3) * (m t 2)))), (2, .int (mI ((m t 3) * (m t 2)))), (0, .ref (ad t)), (1, .int (mI a0))]) (by decide) rfl ?_
      exact zG_lvk (TL_X9_add_30 n t ht n a0 ((m t 3) * (m t 2)) ((m t 3) * (m t 2)) m ha0 h3 h3) [2, 3, 1, 0] rfl
    · refine z_bipush dX9_add_25 (x := (-9)) (by decide +kernel) ?_
      exact z_iret dX9_add_27 rfl rfl (by decide)
set_option maxRecDepth 20000 in
theorem T_X1_numberRead_19 {ad sc sv : Nat → Nat} (n : Nat) (r19 : Int → Int → Int → Int → Int → ZMem → ZR) (hr19 : ∀ (x1 : Int) (x2 : Int) (x3 : Int) (x4 : Int) (x5 : Int) (m : ZMem), R32 x1 → R32 x2 → R32 x3 → R32 x4 → R32 x5 → zG LX ad sc sv M_X1_numberRead 19 [(0, .ref (ad 40)), (1, .int (mI x1)), (2, .int (mI x2)), (3, .int (mI x3)), (4, .int (mI x4)), (5, .int (mI x5))] [] m (r19 x1 x2 x3 x4 x5 m)) : ∀ (x1 : Int) (x2 : Int) (x3 : Int) (x4 : Int) (x5 : Int) (m : ZMem), R32 x1 → R32 x2 → R32 x3 → R32 x4 → R32 x5 → zG LX ad sc sv M_X1_numberRead 19 [(0, .ref (ad 40)), (1, .int (mI x1)), (2, .int (mI x2)), (3, .int (mI x3)), (4, .int (mI x4)), (5, .int (mI x5))] [] m (B_X1_numberRead_19 n r19 x1 x2 x3 x4 x5 m) := by
  intro x1 x2 x3 x4 x5 m hx1 hx2 hx3 hx4 hx5
  unfold B_X1_numberRead_19
  refine z_iload dX1_numberRead_19 4 rfl ?_
  refine z_iload_n dX1_numberRead_21 2 rfl ?_
  refine z_icmp_ge dX1_numberRead_22 hx4 hx2 (tgt := 80) rfl (fun h6 => ?_) (fun h6 => ?_)
  · refine z_aload_n dX1_numberRead_80 0 rfl ?_
    refine z_getR dX1_numberRead_81 (k := 1) (j := 43) zc_X1 lx_40 rfl (by decide) k_132 ?_
    refine z_iload_n dX1_numberRead_84 3 rfl ?_
    refine z_callV1 dX1_numberRead_85 rfl (ct_X9_add n 43 zt_43 x3 m hx3) zc_X9 lx_43 k_372 k_272 k_273 k_3 k_274 zn_X9_add ⟨rfl, rfl, Nat.le_of_ble_eq_true rfl, Nat.le_of_ble_eq_true rfl⟩ (Nat.le_of_ble_eq_true rfl) rfl (fun v7 m8 h9 ho10 => ?_)
    refine z_pop dX1_numberRead_88 rfl ?_
    refine z_iload dX1_numberRead_89 4 rfl ?_
    refine z_iload_n dX1_numberRead_91 1 rfl ?_
    refine z_icmp_lt dX1_numberRead_92 hx4 hx1 (tgt := 99) rfl (fun h11 => ?_) (fun h11 => ?_)
    · refine z_iconst dX1_numberRead_99 ?_
      exact z_zret dX1_numberRead_100 rfl rfl (by decide)
    · refine z_iconst dX1_numberRead_95 ?_
      refine z_goto dX1_numberRead_96 (tgt := 100) rfl ?_
      exact z_zret dX1_numberRead_100 rfl rfl (by decide)
  · refine z_iload dX1_numberRead_25 5 rfl ?_
    refine z_bipush dX1_numberRead_27 (x := 48) (by decide +kernel) ?_
    refine z_icmp_lt dX1_numberRead_29 hx5 (by decide) (tgt := 80) rfl (fun h12 => ?_) (fun h12 => ?_)
    · refine z_aload_n dX1_numberRead_80 0 rfl ?_
      refine z_getR dX1_numberRead_81 (k := 1) (j := 43) zc_X1 lx_40 rfl (by decide) k_132 ?_
      refine z_iload_n dX1_numberRead_84 3 rfl ?_
      refine z_callV1 dX1_numberRead_85 rfl (ct_X9_add n 43 zt_43 x3 m hx3) zc_X9 lx_43 k_372 k_272 k_273 k_3 k_274 zn_X9_add ⟨rfl, rfl, Nat.le_of_ble_eq_true rfl, Nat.le_of_ble_eq_true rfl⟩ (Nat.le_of_ble_eq_true rfl) rfl (fun v13 m14 h15 ho16 => ?_)
      refine z_pop dX1_numberRead_88 rfl ?_
      refine z_iload dX1_numberRead_89 4 rfl ?_
      refine z_iload_n dX1_numberRead_91 1 rfl ?_
      refine z_icmp_lt dX1_numberRead_92 hx4 hx1 (tgt := 99) rfl (fun h17 => ?_) (fun h17 => ?_)
      · refine z_iconst dX1_numberRead_99 ?_
        exact z_zret dX1_numberRead_100 rfl rfl (by decide)
      · refine z_iconst dX1_numberRead_95 ?_
        refine z_goto dX1_numberRead_96 (tgt := 100) rfl ?_
        exact z_zret dX1_numberRead_100 rfl rfl (by decide)
    · refine z_iload dX1_numberRead_32 5 rfl ?_
      refine z_bipush dX1_numberRead_34 (x := 57) (by decide +kernel) ?_
      refine z_icmp_gt dX1_numberRead_36 hx5 (by decide) (tgt := 80) rfl (fun h18 => ?_) (fun h18 => ?_)
      · refine z_aload_n dX1_numberRead_80 0 rfl ?_
        refine z_getR dX1_numberRead_81 (k := 1) (j := 43) zc_X1 lx_40 rfl (by decide) k_132 ?_
        refine z_iload_n dX1_numberRead_84 3 rfl ?_
        refine z_callV1 dX1_numberRead_85 rfl (ct_X9_add n 43 zt_43 x3 m hx3) zc_X9 lx_43 k_372 k_272 k_273 k_3 k_274 zn_X9_add ⟨rfl, rfl, Nat.le_of_ble_eq_true rfl, Nat.le_of_ble_eq_true rfl⟩ (Nat.le_of_ble_eq_true rfl) rfl (fun v19 m20 h21 ho22 => ?_)
        refine z_pop dX1_numberRead_88 rfl ?_
        refine z_iload dX1_numberRead_89 4 rfl ?_
        refine z_iload_n dX1_numberRead_91 1 rfl ?_
        refine z_icmp_lt dX1_numberRead_92 hx4 hx1 (tgt := 99) rfl (fun h23 => ?_) (fun h23 => ?_)
        · refine z_iconst dX1_numberRead_99 ?_
          exact z_zret dX1_numberRead_100 rfl rfl (by decide)
        · refine z_iconst dX1_numberRead_95 ?_
          refine z_goto dX1_numberRead_96 (tgt := 100) rfl ?_
          exact z_zret dX1_numberRead_100 rfl rfl (by decide)
      · refine z_bipush dX1_numberRead_39 (x := 10) (by decide +kernel) ?_
        refine z_iload_n dX1_numberRead_41 3 rfl ?_
        refine z_imul dX1_numberRead_42 (fun h24 => ?_)
        refine z_iload dX1_numberRead_43 5 rfl ?_
        refine z_iadd dX1_numberRead_45 (fun h25 => ?_)
        refine z_bipush dX1_numberRead_46 (x := 48) (by decide +kernel) ?_
        refine z_isub dX1_numberRead_48 (fun h26 => ?_)
        refine z_istore_n dX1_numberRead_49 (lv' := [(3, .int (mI (((10 * x3) + x5) - 48))), (0, .ref (ad 40)), (1, .int (mI x1)), (2, .int (mI x2)), (4, .int (mI x4)), (5, .int (mI x5))]) (by decide) rfl ?_
        refine z_iinc dX1_numberRead_50 (lv' := [(4, .int (mI (x4 + 1))), (3, .int (mI (((10 * x3) + x5) - 48))), (0, .ref (ad 40)), (1, .int (mI x1)), (2, .int (mI x2)), (5, .int (mI x5))]) 4 rfl (by decide) rfl (fun h27 => ?_)
        refine z_aload_n dX1_numberRead_53 2 rfl ?_
        refine z_dup dX1_numberRead_54 rfl ?_
        refine z_getI dX1_numberRead_55 (k := 2) zc_X1 lx_40 rfl (by decide) k_133 (fun h28 => ?_)
        refine z_iconst dX1_numberRead_58 ?_
        refine z_iadd dX1_numberRead_59 (fun h29 => ?_)
        refine z_putI dX1_numberRead_60 (k := 2) zc_X1 lx_40 rfl (by decide) rfl rfl h29 k_133 ?_
        refine z_aload_n dX1_numberRead_63 2 rfl ?_
        refine z_getR dX1_numberRead_64 (k := 0) (j := 41) zc_X1 lx_40 rfl (by decide) k_131 ?_
        refine z_aload_n dX1_numberRead_67 2 rfl ?_
        refine z_getI dX1_numberRead_68 (k := 2) zc_X1 lx_40 rfl (by decide) k_133 (fun h30 => ?_)
        refine z_iconst dX1_numberRead_71 ?_
        refine z_callV1 dX1_numberRead_72 rfl (ct_X9_at n 41 zt_41 ((wr m 40 2 ((m 40 2) + 1)) 40 2) 0 (wr m 40 2 ((m 40 2) + 1)) h30 (by decide)) zc_X9 lx_41 k_305 k_264 k_265 k_3 k_266 zn_X9_at ⟨rfl, rfl, Nat.le_of_ble_eq_true rfl, Nat.le_of_ble_eq_true rfl⟩ (Nat.le_of_ble_eq_true rfl) rfl (fun v31 m32 h33 ho34 => ?_)
        refine z_istore dX1_numberRead_75 (lv' := [(5, .int (mI v31)), (4, .int (mI (x4 + 1))), (3, .int (mI (((10 * x3) + x5) - 48))), (0, .ref (ad 40)), (1, .int (mI x1)), (2, .int (mI x2))]) (by decide) rfl ?_
        refine z_goto dX1_numberRead_77 (tgt := 19) rfl ?_
        exact zG_lvk (hr19 x1 x2 (((10 * x3) + x5) - 48) (x4 + 1) v31 m32 hx1 hx2 h26 h27 h33) [3, 4, 5, 2, 1, 0] rfl
theorem TL_X1_numberRead_19 {ad sc sv : Nat → Nat} (n : Nat) : ∀ q : Nat, ∀ (x1 : Int) (x2 : Int) (x3 : Int) (x4 : Int) (x5 : Int) (m : ZMem), R32 x1 → R32 x2 → R32 x3 → R32 x4 → R32 x5 → zG LX ad sc sv M_X1_numberRead 19 [(0, .ref (ad 40)), (1, .int (mI x1)), (2, .int (mI x2)), (3, .int (mI x3)), (4, .int (mI x4)), (5, .int (mI x5))] [] m (L_X1_numberRead_19 n q x1 x2 x3 x4 x5 m) := by
  intro q
  induction q with
  | zero => intros; exact zG_none
  | succ q ih => exact T_X1_numberRead_19 n (L_X1_numberRead_19 n q) ih
set_option maxRecDepth 20000 in
theorem ct_X1_numberRead {ad sc sv : Nat → Nat} (n : Nat) (a0 : Int) (a1 : Int) (m : ZMem) (ha0 : R32 a0) (ha1 : R32 a1) : zCT LX ad sc sv M_X1_numberRead yX1_numberRead [.ref (ad 40), .int (mI a0), .int (mI a1)] m (F_X1_numberRead n a0 a1 m) := by
  refine zCT_of (lv := [(0, .ref (ad 40)), (1, .int (mI a0)), (2, .int (mI a1))]) (by decide) rfl (Nat.le_of_ble_eq_true rfl) rfl ?_
  unfold F_X1_numberRead
  refine z_iconst dX1_numberRead_0 ?_
  refine z_istore_n dX1_numberRead_1 (lv' := [(3, .int (mI 0)), (0, .ref (ad 40)), (1, .int (mI a0)), (2, .int (mI a1))]) (by decide) rfl ?_
  refine z_iconst dX1_numberRead_2 ?_
  refine z_istore dX1_numberRead_3 (lv' := [(4, .int (mI 0)), (3, .int (mI 0)), (0, .ref (ad 40)), (1, .int (mI a0)), (2, .int (mI a1))]) (by decide) rfl ?_
  refine z_aload_n dX1_numberRead_5 2 rfl ?_
  refine z_getR dX1_numberRead_6 (k := 0) (j := 41) zc_X1 lx_40 rfl (by decide) k_131 ?_
  refine z_aload_n dX1_numberRead_9 2 rfl ?_
  refine z_getI dX1_numberRead_10 (k := 2) zc_X1 lx_40 rfl (by decide) k_133 (fun h1 => ?_)
  refine z_iconst dX1_numberRead_13 ?_
  refine z_callV1 dX1_numberRead_14 rfl (ct_X9_at n 41 zt_41 (m 40 2) 0 m h1 (by decide)) zc_X9 lx_41 k_305 k_264 k_265 k_3 k_266 zn_X9_at ⟨rfl, rfl, Nat.le_of_ble_eq_true rfl, Nat.le_of_ble_eq_true rfl⟩ (Nat.le_of_ble_eq_true rfl) rfl (fun v2 m3 h4 ho5 => ?_)
  refine z_istore dX1_numberRead_17 (lv' := [(5, .int (mI v2)), (4, .int (mI 0)), (3, .int (mI 0)), (0, .ref (ad 40)), (1, .int (mI a0)), (2, .int (mI a1))]) (by decide) rfl ?_
  exact zG_lvk (TL_X1_numberRead_19 n n a0 a1 0 0 v2 m3 ha0 ha1 (by decide) (by decide) h4) [3, 4, 5, 2, 1, 0] rfl
set_option maxRecDepth 20000 in
theorem T_X1_shapeRead_27 {ad sc sv : Nat → Nat} (n : Nat) : ∀ (x1 : Int) (m : ZMem), R32 x1 → zG LX ad sc sv M_X1_shapeRead 27 [(0, .ref (ad 40)), (1, .int (mI x1))] [] m (B_X1_shapeRead_27 n x1 m) := by
  intro x1 m hx1
  unfold B_X1_shapeRead_27
  refine z_aload_n dX1_shapeRead_27 0 rfl ?_
  refine z_getR dX1_shapeRead_28 (k := 1) (j := 43) zc_X1 lx_40 rfl (by decide) k_132 ?_
  refine z_iload_n dX1_shapeRead_31 1 rfl ?_
  refine z_bipush dX1_shapeRead_32 (x := 113) (by decide +kernel) ?_
  refine z_icmp_ne dX1_shapeRead_34 hx1 (by decide) (tgt := 41) rfl (fun h8 => ?_) (fun h8 => ?_)
  · refine z_iconst dX1_shapeRead_37 ?_
    refine z_goto dX1_shapeRead_38 (tgt := 42) rfl ?_
    refine z_callV1 dX1_shapeRead_42 rfl (ct_X9_add n 43 zt_43 1 m (by decide)) zc_X9 lx_43 k_372 k_272 k_273 k_3 k_274 zn_X9_add ⟨rfl, rfl, Nat.le_of_ble_eq_true rfl, Nat.le_of_ble_eq_true rfl⟩ (Nat.le_of_ble_eq_true rfl) rfl (fun v9 m10 h11 ho12 => ?_)
    refine z_pop dX1_shapeRead_45 rfl ?_
    refine z_aload_n dX1_shapeRead_46 0 rfl ?_
    refine z_dup dX1_shapeRead_47 rfl ?_
    refine z_getI dX1_shapeRead_48 (k := 2) zc_X1 lx_40 rfl (by decide) k_133 (fun h13 => ?_)
    refine z_iconst dX1_shapeRead_51 ?_
    refine z_iadd dX1_shapeRead_52 (fun h14 => ?_)
    refine z_putI dX1_shapeRead_53 (k := 2) zc_X1 lx_40 rfl (by decide) rfl rfl h14 k_133 ?_
    refine z_iconst dX1_shapeRead_56 ?_
    exact z_zret dX1_shapeRead_57 rfl rfl (by decide)
  · refine z_iconst dX1_shapeRead_41 ?_
    refine z_callV1 dX1_shapeRead_42 rfl (ct_X9_add n 43 zt_43 0 m (by decide)) zc_X9 lx_43 k_372 k_272 k_273 k_3 k_274 zn_X9_add ⟨rfl, rfl, Nat.le_of_ble_eq_true rfl, Nat.le_of_ble_eq_true rfl⟩ (Nat.le_of_ble_eq_true rfl) rfl (fun v15 m16 h17 ho18 => ?_)
    refine z_pop dX1_shapeRead_45 rfl ?_
    refine z_aload_n dX1_shapeRead_46 0 rfl ?_
    refine z_dup dX1_shapeRead_47 rfl ?_
    refine z_getI dX1_shapeRead_48 (k := 2) zc_X1 lx_40 rfl (by decide) k_133 (fun h19 => ?_)
    refine z_iconst dX1_shapeRead_51 ?_
    refine z_iadd dX1_shapeRead_52 (fun h20 => ?_)
    refine z_putI dX1_shapeRead_53 (k := 2) zc_X1 lx_40 rfl (by decide) rfl rfl h20 k_133 ?_
    refine z_iconst dX1_shapeRead_56 ?_
    exact z_zret dX1_shapeRead_57 rfl rfl (by decide)
set_option maxRecDepth 20000 in
theorem ct_X1_shapeRead {ad sc sv : Nat → Nat} (n : Nat) (m : ZMem) : zCT LX ad sc sv M_X1_shapeRead yX1_shapeRead [.ref (ad 40)] m (F_X1_shapeRead n m) := by
  refine zCT_of (lv := [(0, .ref (ad 40))]) (by decide) rfl (Nat.le_of_ble_eq_true rfl) rfl ?_
  unfold F_X1_shapeRead
  refine z_aload_n dX1_shapeRead_0 0 rfl ?_
  refine z_getR dX1_shapeRead_1 (k := 0) (j := 41) zc_X1 lx_40 rfl (by decide) k_131 ?_
  refine z_aload_n dX1_shapeRead_4 0 rfl ?_
  refine z_getI dX1_shapeRead_5 (k := 2) zc_X1 lx_40 rfl (by decide) k_133 (fun h1 => ?_)
  refine z_iconst dX1_shapeRead_8 ?_
  refine z_callV1 dX1_shapeRead_9 rfl (ct_X9_at n 41 zt_41 (m 40 2) 0 m h1 (by decide)) zc_X9 lx_41 k_305 k_264 k_265 k_3 k_266 zn_X9_at ⟨rfl, rfl, Nat.le_of_ble_eq_true rfl, Nat.le_of_ble_eq_true rfl⟩ (Nat.le_of_ble_eq_true rfl) rfl (fun v2 m3 h4 ho5 => ?_)
  refine z_istore_n dX1_shapeRead_12 (lv' := [(1, .int (mI v2)), (0, .ref (ad 40))]) (by decide) rfl ?_
  refine z_iload_n dX1_shapeRead_13 0 rfl ?_
  refine z_bipush dX1_shapeRead_14 (x := 111) (by decide +kernel) ?_
  refine z_icmp_eq dX1_shapeRead_16 h4 (by decide) (tgt := 27) rfl (fun h6 => ?_) (fun h6 => ?_)
  · exact zG_lvk (T_X1_shapeRead_27 n v2 m3 h4) [1, 0] rfl
  · refine z_iload_n dX1_shapeRead_19 0 rfl ?_
    refine z_bipush dX1_shapeRead_20 (x := 113) (by decide +kernel) ?_
    refine z_icmp_eq dX1_shapeRead_22 h4 (by decide) (tgt := 27) rfl (fun h7 => ?_) (fun h7 => ?_)
    · exact zG_lvk (T_X1_shapeRead_27 n v2 m3 h4) [1, 0] rfl
    · refine z_iconst dX1_shapeRead_25 ?_
      exact z_zret dX1_shapeRead_26 rfl rfl (by decide)
set_option maxRecDepth 20000 in
theorem ct_X1_signRead {ad sc sv : Nat → Nat} (n : Nat) (a0 : Int) (m : ZMem) (ha0 : R32 a0) : zCT LX ad sc sv M_X1_signRead yX1_signRead [.ref (ad 40), .int (mI a0)] m (F_X1_signRead n a0 m) := by
  refine zCT_of (lv := [(0, .ref (ad 40)), (1, .int (mI a0))]) (by decide) rfl (Nat.le_of_ble_eq_true rfl) rfl ?_
  unfold F_X1_signRead
  refine z_iload_n dX1_signRead_0 1 rfl ?_
  refine z_case (fun hc1 => ?_) (fun hc1 => ?_)
  · refine z_lsIn dX1_signRead_1 (cst := 49) (off := 43) hc1 (by decide) (by decide +kernel) (by decide +kernel) (tgt := 44) rfl ?_
    refine z_aload_n dX1_signRead_44 0 rfl ?_
    refine z_iconst dX1_signRead_45 ?_
    refine z_iconst dX1_signRead_46 ?_
    refine z_callV4 dX1_signRead_47 rfl (ct_X1_numberRead n 1 1 m (by decide) (by decide)) zc_X1 lx_40 k_368 k_370 kp_5 k_5 k_371 zn_X1_numberRead ⟨rfl, rfl, Nat.le_of_ble_eq_true rfl, Nat.le_of_ble_eq_true rfl⟩ (Nat.le_of_ble_eq_true rfl) rfl (fun v2 m3 h4 ho5 => ?_)
    exact z_zret dX1_signRead_50 rfl rfl h4
  · refine z_case (fun hc6 => ?_) (fun hc6 => ?_)
    · refine z_lsIn dX1_signRead_1 (cst := 50) (off := 50) hc6 (by decide) (by decide +kernel) (by decide +kernel) (tgt := 51) rfl ?_
      refine z_aload_n dX1_signRead_51 0 rfl ?_
      refine z_iconst dX1_signRead_52 ?_
      refine z_iconst dX1_signRead_53 ?_
      refine z_callV4 dX1_signRead_54 rfl (ct_X1_numberRead n 1 2 m (by decide) (by decide)) zc_X1 lx_40 k_368 k_370 kp_5 k_5 k_371 zn_X1_numberRead ⟨rfl, rfl, Nat.le_of_ble_eq_true rfl, Nat.le_of_ble_eq_true rfl⟩ (Nat.le_of_ble_eq_true rfl) rfl (fun v7 m8 h9 ho10 => ?_)
      exact z_zret dX1_signRead_57 rfl rfl h9
    · refine z_case (fun hc11 => ?_) (fun hc11 => ?_)
      · refine z_lsIn dX1_signRead_1 (cst := 51) (off := 57) hc11 (by decide) (by decide +kernel) (by decide +kernel) (tgt := 58) rfl ?_
        refine z_aload_n dX1_signRead_58 0 rfl ?_
        refine z_iconst dX1_signRead_59 ?_
        refine z_iconst dX1_signRead_60 ?_
        refine z_callV4 dX1_signRead_61 rfl (ct_X1_numberRead n 2 2 m (by decide) (by decide)) zc_X1 lx_40 k_368 k_370 kp_5 k_5 k_371 zn_X1_numberRead ⟨rfl, rfl, Nat.le_of_ble_eq_true rfl, Nat.le_of_ble_eq_true rfl⟩ (Nat.le_of_ble_eq_true rfl) rfl (fun v12 m13 h14 ho15 => ?_)
        exact z_zret dX1_signRead_64 rfl rfl h14
      · refine z_case (fun hc16 => ?_) (fun hc16 => ?_)
        · refine z_lsIn dX1_signRead_1 (cst := 79) (off := 64) hc16 (by decide) (by decide +kernel) (by decide +kernel) (tgt := 65) rfl ?_
          refine z_aload_n dX1_signRead_65 0 rfl ?_
          refine z_callV4 dX1_signRead_66 rfl (ct_X1_shapeRead n m) zc_X1 lx_40 k_373 k_375 kp_6 k_5 k_376 zn_X1_shapeRead ⟨rfl, rfl, Nat.le_of_ble_eq_true rfl, Nat.le_of_ble_eq_true rfl⟩ (Nat.le_of_ble_eq_true rfl) rfl (fun v17 m18 h19 ho20 => ?_)
          exact z_zret dX1_signRead_69 rfl rfl h19
        · refine z_ls dX1_signRead_1 (off := 69) (tgt := 70) ha0 (by decide +kernel) (by simp [Op.lookupswitch.offset_cons, Op.lookupswitch.offset_nil] <;> (repeat' split) <;> omega) rfl ?_
          refine z_aload_n dX1_signRead_70 0 rfl ?_
          refine z_getR dX1_signRead_71 (k := 0) (j := 41) zc_X1 lx_40 rfl (by decide) k_131 ?_
          refine z_aload_n dX1_signRead_74 0 rfl ?_
          refine z_getI dX1_signRead_75 (k := 2) zc_X1 lx_40 rfl (by decide) k_133 (fun h21 => ?_)
          refine z_iconst dX1_signRead_78 ?_
          refine z_callV1 dX1_signRead_79 rfl (ct_X9_at n 41 zt_41 (m 40 2) 0 m h21 (by decide)) zc_X9 lx_41 k_305 k_264 k_265 k_3 k_266 zn_X9_at ⟨rfl, rfl, Nat.le_of_ble_eq_true rfl, Nat.le_of_ble_eq_true rfl⟩ (Nat.le_of_ble_eq_true rfl) rfl (fun v22 m23 h24 ho25 => ?_)
          refine z_iload_n dX1_signRead_82 1 rfl ?_
          refine z_icmp_eq dX1_signRead_83 h24 ha0 (tgt := 88) rfl (fun h26 => ?_) (fun h26 => ?_)
          · refine z_aload_n dX1_signRead_88 0 rfl ?_
            refine z_dup dX1_signRead_89 rfl ?_
            refine z_getI dX1_signRead_90 (k := 2) zc_X1 lx_40 rfl (by decide) k_133 (fun h27 => ?_)
            refine z_iconst dX1_signRead_93 ?_
            refine z_iadd dX1_signRead_94 (fun h28 => ?_)
            refine z_putI dX1_signRead_95 (k := 2) zc_X1 lx_40 rfl (by decide) rfl rfl h28 k_133 ?_
            refine z_iconst dX1_signRead_98 ?_
            exact z_zret dX1_signRead_99 rfl rfl (by decide)
          · refine z_iconst dX1_signRead_86 ?_
            exact z_zret dX1_signRead_87 rfl rfl (by decide)
set_option maxRecDepth 20000 in
theorem T_X1_statementRead_27 {ad sc sv : Nat → Nat} (n : Nat) (r27 : Nat → Int → ZMem → ZR) (hr27 : ∀ (x1 : Nat) (x2 : Int) (m : ZMem), R32 x2 → zG LX ad sc sv M_X1_statementRead 27 [(0, .ref (ad 40)), (1, .ref (sc x1)), (2, .int (mI x2))] [] m (r27 x1 x2 m)) : ∀ (x1 : Nat) (x2 : Int) (m : ZMem), R32 x2 → zG LX ad sc sv M_X1_statementRead 27 [(0, .ref (ad 40)), (1, .ref (sc x1)), (2, .int (mI x2))] [] m (B_X1_statementRead_27 n r27 x1 x2 m) := by
  intro x1 x2 m hx2
  unfold B_X1_statementRead_27
  refine z_iload_n dX1_statementRead_27 2 rfl ?_
  refine z_aload_n dX1_statementRead_28 1 rfl ?_
  refine z_callT1 dX1_statementRead_29 rfl (ct_J0_length_8abf5 n x1 m) (fun _ _ h => (chk_some h).1) rfl k_316 k_317 k_318 k_11 k_319 zn_J0_length_8abf5 ⟨rfl, rfl, Nat.le_of_ble_eq_true rfl, Nat.le_of_ble_eq_true rfl⟩ (Nat.le_of_ble_eq_true rfl) rfl (fun v14 m15 h16 ho17 => ?_)
  refine z_icmp_ge dX1_statementRead_32 hx2 h16 (tgt := 55) rfl (fun h18 => ?_) (fun h18 => ?_)
  · refine z_aload_n dX1_statementRead_55 1 rfl ?_
    refine z_callT4 dX1_statementRead_56 rfl (ct_J0_isEmpty_aae02 n x1 m15) (fun _ _ h => (chk_some h).1) rfl k_377 k_378 k_379 k_11 k_380 zn_J0_isEmpty_aae02 ⟨rfl, rfl, Nat.le_of_ble_eq_true rfl, Nat.le_of_ble_eq_true rfl⟩ (Nat.le_of_ble_eq_true rfl) rfl (fun v19 m20 h21 ho22 => ?_)
    refine z_if_ne dX1_statementRead_59 (zb01 h21) (tgt := 66) rfl (fun h23 => ?_) (fun h23 => ?_)
    · refine z_iconst dX1_statementRead_62 ?_
      refine z_goto dX1_statementRead_63 (tgt := 67) rfl ?_
      exact z_zret dX1_statementRead_67 rfl rfl (by decide)
    · refine z_iconst dX1_statementRead_66 ?_
      exact z_zret dX1_statementRead_67 rfl rfl (by decide)
  · refine z_aload_n dX1_statementRead_35 0 rfl ?_
    refine z_aload_n dX1_statementRead_36 1 rfl ?_
    refine z_iload_n dX1_statementRead_37 2 rfl ?_
    refine z_callT1 dX1_statementRead_38 rfl (ct_J0_charAt_5068e n x1 x2 m15 hx2) (fun _ _ h => (chk_some h).1) rfl k_326 k_327 k_328 k_11 k_329 zn_J0_charAt_5068e ⟨rfl, rfl, Nat.le_of_ble_eq_true rfl, Nat.le_of_ble_eq_true rfl⟩ (Nat.le_of_ble_eq_true rfl) rfl (fun v24 m25 h26 ho27 => ?_)
    refine z_callV4 dX1_statementRead_41 rfl (ct_X1_signRead n v24 m25 h26) zc_X1 lx_40 k_364 k_366 kp_4 k_5 k_367 zn_X1_signRead ⟨rfl, rfl, Nat.le_of_ble_eq_true rfl, Nat.le_of_ble_eq_true rfl⟩ (Nat.le_of_ble_eq_true rfl) rfl (fun v28 m29 h30 ho31 => ?_)
    refine z_if_ne dX1_statementRead_44 (zb01 h30) (tgt := 49) rfl (fun h32 => ?_) (fun h32 => ?_)
    · refine z_iconst dX1_statementRead_47 ?_
      exact z_zret dX1_statementRead_48 rfl rfl (by decide)
    · refine z_iinc dX1_statementRead_49 (lv' := [(2, .int (mI (x2 + 1))), (0, .ref (ad 40)), (1, .ref (sc x1))]) 2 rfl (by decide) rfl (fun h33 => ?_)
      refine z_goto dX1_statementRead_52 (tgt := 27) rfl ?_
      exact zG_lvk (hr27 x1 (x2 + 1) m29 h33) [1, 2, 0] rfl
theorem TL_X1_statementRead_27 {ad sc sv : Nat → Nat} (n : Nat) : ∀ q : Nat, ∀ (x1 : Nat) (x2 : Int) (m : ZMem), R32 x2 → zG LX ad sc sv M_X1_statementRead 27 [(0, .ref (ad 40)), (1, .ref (sc x1)), (2, .int (mI x2))] [] m (L_X1_statementRead_27 n q x1 x2 m) := by
  intro q
  induction q with
  | zero => intros; exact zG_none
  | succ q ih => exact T_X1_statementRead_27 n (L_X1_statementRead_27 n q) ih
set_option maxRecDepth 20000 in
theorem ct_X1_statementRead {ad sc sv : Nat → Nat} (n : Nat) (m : ZMem) : zCT LX ad sc sv M_X1_statementRead yX1_statementRead [.ref (ad 40)] m (F_X1_statementRead n m) := by
  refine zCT_of (lv := [(0, .ref (ad 40))]) (by decide) rfl (Nat.le_of_ble_eq_true rfl) rfl ?_
  unfold F_X1_statementRead
  refine z_aload_n dX1_statementRead_0 0 rfl ?_
  refine z_getR dX1_statementRead_1 (k := 1) (j := 43) zc_X1 lx_40 rfl (by decide) k_132 ?_
  refine z_iconst dX1_statementRead_4 ?_
  refine z_iconst dX1_statementRead_5 ?_
  refine z_callV0 dX1_statementRead_6 rfl (ct_X9_reset n 43 zt_43 0 0 m (by decide) (by decide)) zc_X9 lx_43 k_304 k_58 k_59 k_3 k_60 zn_X9_reset ⟨rfl, rfl, Nat.le_of_ble_eq_true rfl, Nat.le_of_ble_eq_true rfl⟩ (Nat.le_of_ble_eq_true rfl) rfl (fun v1 m2 ho4 => ?_)
  refine z_aload_n dX1_statementRead_9 0 rfl ?_
  refine z_getR dX1_statementRead_10 (k := 0) (j := 41) zc_X1 lx_40 rfl (by decide) k_131 ?_
  refine z_aload_n dX1_statementRead_13 0 rfl ?_
  refine z_getI dX1_statementRead_14 (k := 2) zc_X1 lx_40 rfl (by decide) k_133 (fun h5 => ?_)
  refine z_iconst dX1_statementRead_17 ?_
  refine z_callV1 dX1_statementRead_18 rfl (ct_X9_at n 41 zt_41 (m2 40 2) 0 m2 h5 (by decide)) zc_X9 lx_41 k_305 k_264 k_265 k_3 k_266 zn_X9_at ⟨rfl, rfl, Nat.le_of_ble_eq_true rfl, Nat.le_of_ble_eq_true rfl⟩ (Nat.le_of_ble_eq_true rfl) rfl (fun v6 m7 h8 ho9 => ?_)
  refine z_callS5 dX1_statementRead_21 rfl (ct_X1_formOf n v6 m7 h8) k_306 k_307 k_5 k_308 zn_X1_formOf ⟨rfl, rfl, Nat.le_of_ble_eq_true rfl, Nat.le_of_ble_eq_true rfl⟩ (Nat.le_of_ble_eq_true rfl) rfl (fun v10 m11 ho13 => ?_)
  refine z_astore_n dX1_statementRead_24 (lv' := [(1, .ref (sc v10.toNat)), (0, .ref (ad 40))]) (by decide) rfl ?_
  refine z_iconst dX1_statementRead_25 ?_
  refine z_istore_n dX1_statementRead_26 (lv' := [(2, .int (mI 0)), (1, .ref (sc v10.toNat)), (0, .ref (ad 40))]) (by decide) rfl ?_
  exact zG_lvk (TL_X1_statementRead_27 n n v10.toNat 0 m11 (by decide)) [2, 1, 0] rfl
set_option maxRecDepth 20000 in
theorem T_X1_hasForm_7 {ad sc sv : Nat → Nat} (n : Nat) (r7 : Int → ZMem → ZR) (hr7 : ∀ (x1 : Int) (m : ZMem), R32 x1 → zG LX ad sc sv M_X1_hasForm 7 [(0, .ref (ad 40)), (1, .int (mI x1))] [] m (r7 x1 m)) : ∀ (x1 : Int) (m : ZMem), R32 x1 → zG LX ad sc sv M_X1_hasForm 7 [(0, .ref (ad 40)), (1, .int (mI x1))] [] m (B_X1_hasForm_7 n r7 x1 m) := by
  intro x1 m hx1
  unfold B_X1_hasForm_7
  refine z_iload_n dX1_hasForm_7 1 rfl ?_
  refine z_aload_n dX1_hasForm_8 0 rfl ?_
  refine z_getR dX1_hasForm_9 (k := 0) (j := 41) zc_X1 lx_40 rfl (by decide) k_131 ?_
  refine z_callV1 dX1_hasForm_12 rfl (ct_X9_size n 41 zt_41 m) zc_X9 lx_41 k_299 k_276 k_277 k_3 k_278 zn_X9_size ⟨rfl, rfl, Nat.le_of_ble_eq_true rfl, Nat.le_of_ble_eq_true rfl⟩ (Nat.le_of_ble_eq_true rfl) rfl (fun v1 m2 h3 ho4 => ?_)
  refine z_icmp_gt dX1_hasForm_15 hx1 h3 (tgt := 49) rfl (fun h5 => ?_) (fun h5 => ?_)
  · refine z_iconst dX1_hasForm_49 ?_
    exact z_zret dX1_hasForm_50 rfl rfl (by decide)
  · refine z_aload_n dX1_hasForm_18 0 rfl ?_
    refine z_callV4 dX1_hasForm_19 rfl (ct_X1_statementRead n m2) zc_X1 lx_40 k_300 k_302 kp_3 k_5 k_303 zn_X1_statementRead ⟨rfl, rfl, Nat.le_of_ble_eq_true rfl, Nat.le_of_ble_eq_true rfl⟩ (Nat.le_of_ble_eq_true rfl) rfl (fun v6 m7 h8 ho9 => ?_)
    refine z_if_ne dX1_hasForm_22 (zb01 h8) (tgt := 27) rfl (fun h10 => ?_) (fun h10 => ?_)
    · refine z_iconst dX1_hasForm_25 ?_
      exact z_zret dX1_hasForm_26 rfl rfl (by decide)
    · refine z_aload_n dX1_hasForm_27 0 rfl ?_
      refine z_getI dX1_hasForm_28 (k := 2) zc_X1 lx_40 rfl (by decide) k_133 (fun h11 => ?_)
      refine z_aload_n dX1_hasForm_31 0 rfl ?_
      refine z_getR dX1_hasForm_32 (k := 0) (j := 41) zc_X1 lx_40 rfl (by decide) k_131 ?_
      refine z_callV1 dX1_hasForm_35 rfl (ct_X9_size n 41 zt_41 m7) zc_X9 lx_41 k_299 k_276 k_277 k_3 k_278 zn_X9_size ⟨rfl, rfl, Nat.le_of_ble_eq_true rfl, Nat.le_of_ble_eq_true rfl⟩ (Nat.le_of_ble_eq_true rfl) rfl (fun v12 m13 h14 ho15 => ?_)
      refine z_icmp_lt dX1_hasForm_38 h11 h14 (tgt := 43) rfl (fun h16 => ?_) (fun h16 => ?_)
      · refine z_iinc dX1_hasForm_43 (lv' := [(1, .int (mI (x1 + 1))), (0, .ref (ad 40))]) 1 rfl (by decide) rfl (fun h17 => ?_)
        refine z_goto dX1_hasForm_46 (tgt := 7) rfl ?_
        exact zG_lvk (hr7 (x1 + 1) m13 h17) [1, 0] rfl
      · refine z_iconst dX1_hasForm_41 ?_
        exact z_zret dX1_hasForm_42 rfl rfl (by decide)
theorem TL_X1_hasForm_7 {ad sc sv : Nat → Nat} (n : Nat) : ∀ q : Nat, ∀ (x1 : Int) (m : ZMem), R32 x1 → zG LX ad sc sv M_X1_hasForm 7 [(0, .ref (ad 40)), (1, .int (mI x1))] [] m (L_X1_hasForm_7 n q x1 m) := by
  intro q
  induction q with
  | zero => intros; exact zG_none
  | succ q ih => exact T_X1_hasForm_7 n (L_X1_hasForm_7 n q) ih
set_option maxRecDepth 20000 in
theorem ct_X1_hasForm {ad sc sv : Nat → Nat} (n : Nat) (m : ZMem) : zCT LX ad sc sv M_X1_hasForm yX1_hasForm [.ref (ad 40)] m (F_X1_hasForm n m) := by
  refine zCT_of (lv := [(0, .ref (ad 40))]) (by decide) rfl (Nat.le_of_ble_eq_true rfl) rfl ?_
  unfold F_X1_hasForm
  refine z_aload_n dX1_hasForm_0 0 rfl ?_
  refine z_iconst dX1_hasForm_1 ?_
  refine z_putI dX1_hasForm_2 (k := 2) zc_X1 lx_40 rfl (by decide) rfl rfl (by decide) k_133 ?_
  refine z_iconst dX1_hasForm_5 ?_
  refine z_istore_n dX1_hasForm_6 (lv' := [(1, .int (mI 0)), (0, .ref (ad 40))]) (by decide) rfl ?_
  exact zG_lvk (TL_X1_hasForm_7 n n 0 (wr m 40 2 0) (by decide)) [1, 0] rfl
set_option maxRecDepth 20000 in
theorem ct_X1_within {ad sc sv : Nat → Nat} (n : Nat) (a0 : Int) (a1 : Int) (a2 : Int) (m : ZMem) (ha0 : R32 a0) (ha1 : R32 a1) (ha2 : R32 a2) : zCT LX ad sc sv M_X1_within yX1_within [.ref (ad 40), .int (mI a0), .int (mI a1), .int (mI a2)] m (F_X1_within n a0 a1 a2 m) := by
  refine zCT_of (lv := [(0, .ref (ad 40)), (1, .int (mI a0)), (2, .int (mI a1)), (3, .int (mI a2))]) (by decide) rfl (Nat.le_of_ble_eq_true rfl) rfl ?_
  unfold F_X1_within
  refine z_aload_n dX1_within_0 0 rfl ?_
  refine z_getR dX1_within_1 (k := 1) (j := 43) zc_X1 lx_40 rfl (by decide) k_132 ?_
  refine z_iload_n dX1_within_4 1 rfl ?_
  refine z_iconst dX1_within_5 ?_
  refine z_callV1 dX1_within_6 rfl (ct_X9_at n 43 zt_43 a0 0 m ha0 (by decide)) zc_X9 lx_43 k_305 k_264 k_265 k_3 k_266 zn_X9_at ⟨rfl, rfl, Nat.le_of_ble_eq_true rfl, Nat.le_of_ble_eq_true rfl⟩ (Nat.le_of_ble_eq_true rfl) rfl (fun v1 m2 h3 ho4 => ?_)
  refine z_iload_n dX1_within_9 2 rfl ?_
  refine z_icmp_lt dX1_within_10 h3 ha1 (tgt := 30) rfl (fun h5 => ?_) (fun h5 => ?_)
  · refine z_iconst dX1_within_30 ?_
    exact z_zret dX1_within_31 rfl rfl (by decide)
  · refine z_aload_n dX1_within_13 0 rfl ?_
    refine z_getR dX1_within_14 (k := 1) (j := 43) zc_X1 lx_40 rfl (by decide) k_132 ?_
    refine z_iload_n dX1_within_17 1 rfl ?_
    refine z_iconst dX1_within_18 ?_
    refine z_callV1 dX1_within_19 rfl (ct_X9_at n 43 zt_43 a0 0 m2 ha0 (by decide)) zc_X9 lx_43 k_305 k_264 k_265 k_3 k_266 zn_X9_at ⟨rfl, rfl, Nat.le_of_ble_eq_true rfl, Nat.le_of_ble_eq_true rfl⟩ (Nat.le_of_ble_eq_true rfl) rfl (fun v6 m7 h8 ho9 => ?_)
    refine z_iload_n dX1_within_22 3 rfl ?_
    refine z_icmp_gt dX1_within_23 h8 ha2 (tgt := 30) rfl (fun h10 => ?_) (fun h10 => ?_)
    · refine z_iconst dX1_within_30 ?_
      exact z_zret dX1_within_31 rfl rfl (by decide)
    · refine z_iconst dX1_within_26 ?_
      refine z_goto dX1_within_27 (tgt := 31) rfl ?_
      exact z_zret dX1_within_31 rfl rfl (by decide)
set_option maxRecDepth 20000 in
theorem ct_X1_number {ad sc sv : Nat → Nat} (n : Nat) (a0 : Int) (m : ZMem) (ha0 : R32 a0) : zCT LX ad sc sv M_X1_number yX1_number [.ref (ad 40), .int (mI a0)] m (F_X1_number n a0 m) := by
  refine zCT_of (lv := [(0, .ref (ad 40)), (1, .int (mI a0))]) (by decide) rfl (Nat.le_of_ble_eq_true rfl) rfl ?_
  unfold F_X1_number
  refine z_aload_n dX1_number_0 0 rfl ?_
  refine z_getR dX1_number_1 (k := 1) (j := 43) zc_X1 lx_40 rfl (by decide) k_132 ?_
  refine z_iload_n dX1_number_4 1 rfl ?_
  refine z_iconst dX1_number_5 ?_
  refine z_callV1 dX1_number_6 rfl (ct_X9_at n 43 zt_43 a0 0 m ha0 (by decide)) zc_X9 lx_43 k_305 k_264 k_265 k_3 k_266 zn_X9_at ⟨rfl, rfl, Nat.le_of_ble_eq_true rfl, Nat.le_of_ble_eq_true rfl⟩ (Nat.le_of_ble_eq_true rfl) rfl (fun v1 m2 h3 ho4 => ?_)
  exact z_iret dX1_number_9 rfl rfl h3
set_option maxRecDepth 20000 in
theorem ct_X1_forCame {ad sc sv : Nat → Nat} (n : Nat) (m : ZMem) : zCT LX ad sc sv M_X1_forCame yX1_forCame [.ref (ad 40), .ref (ad 27)] m (F_X1_forCame n m) := by
  refine zCT_of (lv := [(0, .ref (ad 40)), (1, .ref (ad 27))]) (by decide) rfl (Nat.le_of_ble_eq_true rfl) rfl ?_
  unfold F_X1_forCame
  refine z_aload_n dX1_forCame_0 0 rfl ?_
  refine z_iconst dX1_forCame_1 ?_
  refine z_iconst dX1_forCame_2 ?_
  refine z_bipush dX1_forCame_3 (x := 24) (by decide +kernel) ?_
  refine z_callV4 dX1_forCame_5 rfl (ct_X1_within n 0 1 24 m (by decide) (by decide) (by decide)) zc_X1 lx_40 k_393 k_395 kp_10 k_5 k_396 zn_X1_within ⟨rfl, rfl, Nat.le_of_ble_eq_true rfl, Nat.le_of_ble_eq_true rfl⟩ (Nat.le_of_ble_eq_true rfl) rfl (fun v1 m2 h3 ho4 => ?_)
  refine z_if_ne dX1_forCame_8 (zb01 h3) (tgt := 13) rfl (fun h5 => ?_) (fun h5 => ?_)
  · refine z_iconst dX1_forCame_11 ?_
    exact z_zret dX1_forCame_12 rfl rfl (by decide)
  · refine z_aload_n dX1_forCame_13 1 rfl ?_
    refine z_aload_n dX1_forCame_14 0 rfl ?_
    refine z_iconst dX1_forCame_15 ?_
    refine z_callV1 dX1_forCame_16 rfl (ct_X1_number n 0 m2 (by decide)) zc_X1 lx_40 k_397 k_399 kp_11 k_5 k_400 zn_X1_number ⟨rfl, rfl, Nat.le_of_ble_eq_true rfl, Nat.le_of_ble_eq_true rfl⟩ (Nat.le_of_ble_eq_true rfl) rfl (fun v6 m7 h8 ho9 => ?_)
    refine z_putI dX1_forCame_19 (k := 0) zc_X3 lx_27 rfl (by decide) rfl rfl h8 k_69 ?_
    refine z_iconst dX1_forCame_22 ?_
    exact z_zret dX1_forCame_23 rfl rfl (by decide)
set_option maxRecDepth 20000 in
theorem T_X1_cupsCame_2 {ad sc sv : Nat → Nat} (n : Nat) (r2 : Int → ZMem → ZR) (hr2 : ∀ (x2 : Int) (m : ZMem), R32 x2 → zG LX ad sc sv M_X1_cupsCame 2 [(0, .ref (ad 40)), (1, .ref (ad 27)), (2, .int (mI x2))] [] m (r2 x2 m)) : ∀ (x2 : Int) (m : ZMem), R32 x2 → zG LX ad sc sv M_X1_cupsCame 2 [(0, .ref (ad 40)), (1, .ref (ad 27)), (2, .int (mI x2))] [] m (B_X1_cupsCame_2 n r2 x2 m) := by
  intro x2 m hx2
  unfold B_X1_cupsCame_2
  refine z_iload_n dX1_cupsCame_2 2 rfl ?_
  refine z_iconst dX1_cupsCame_3 ?_
  refine z_icmp_ge dX1_cupsCame_4 hx2 (by decide) (tgt := 40) rfl (fun h1 => ?_) (fun h1 => ?_)
  · refine z_iconst dX1_cupsCame_40 ?_
    exact z_zret dX1_cupsCame_41 rfl rfl (by decide)
  · refine z_aload_n dX1_cupsCame_7 0 rfl ?_
    refine z_iload_n dX1_cupsCame_8 2 rfl ?_
    refine z_iconst dX1_cupsCame_9 ?_
    refine z_bipush dX1_cupsCame_10 (x := 12) (by decide +kernel) ?_
    refine z_callV4 dX1_cupsCame_12 rfl (ct_X1_within n x2 0 12 m hx2 (by decide) (by decide)) zc_X1 lx_40 k_393 k_395 kp_10 k_5 k_396 zn_X1_within ⟨rfl, rfl, Nat.le_of_ble_eq_true rfl, Nat.le_of_ble_eq_true rfl⟩ (Nat.le_of_ble_eq_true rfl) rfl (fun v2 m3 h4 ho5 => ?_)
    refine z_if_ne dX1_cupsCame_15 (zb01 h4) (tgt := 20) rfl (fun h6 => ?_) (fun h6 => ?_)
    · refine z_iconst dX1_cupsCame_18 ?_
      exact z_zret dX1_cupsCame_19 rfl rfl (by decide)
    · refine z_aload_n dX1_cupsCame_20 1 rfl ?_
      refine z_getR dX1_cupsCame_21 (k := 7) (j := 34) zc_X3 lx_27 rfl (by decide) k_96 ?_
      refine z_iload_n dX1_cupsCame_24 2 rfl ?_
      refine z_iconst dX1_cupsCame_25 ?_
      refine z_aload_n dX1_cupsCame_26 0 rfl ?_
      refine z_iload_n dX1_cupsCame_27 2 rfl ?_
      refine z_callV1 dX1_cupsCame_28 rfl (ct_X1_number n x2 m3 hx2) zc_X1 lx_40 k_397 k_399 kp_11 k_5 k_400 zn_X1_number ⟨rfl, rfl, Nat.le_of_ble_eq_true rfl, Nat.le_of_ble_eq_true rfl⟩ (Nat.le_of_ble_eq_true rfl) rfl (fun v7 m8 h9 ho10 => ?_)
      refine z_callV0 dX1_cupsCame_31 rfl (ct_X9_put n 34 zt_34 x2 0 v7 m8 hx2 (by decide) h9) zc_X9 lx_34 k_409 k_268 k_269 k_3 k_270 zn_X9_put ⟨rfl, rfl, Nat.le_of_ble_eq_true rfl, Nat.le_of_ble_eq_true rfl⟩ (Nat.le_of_ble_eq_true rfl) rfl (fun v11 m12 ho14 => ?_)
      refine z_iinc dX1_cupsCame_34 (lv' := [(2, .int (mI (x2 + 1))), (0, .ref (ad 40)), (1, .ref (ad 27))]) 2 rfl (by decide) rfl (fun h15 => ?_)
      refine z_goto dX1_cupsCame_37 (tgt := 2) rfl ?_
      exact zG_lvk (hr2 (x2 + 1) m12 h15) [1, 2, 0] rfl
theorem TL_X1_cupsCame_2 {ad sc sv : Nat → Nat} (n : Nat) : ∀ q : Nat, ∀ (x2 : Int) (m : ZMem), R32 x2 → zG LX ad sc sv M_X1_cupsCame 2 [(0, .ref (ad 40)), (1, .ref (ad 27)), (2, .int (mI x2))] [] m (L_X1_cupsCame_2 n q x2 m) := by
  intro q
  induction q with
  | zero => intros; exact zG_none
  | succ q ih => exact T_X1_cupsCame_2 n (L_X1_cupsCame_2 n q) ih
set_option maxRecDepth 20000 in
theorem ct_X1_cupsCame {ad sc sv : Nat → Nat} (n : Nat) (m : ZMem) : zCT LX ad sc sv M_X1_cupsCame yX1_cupsCame [.ref (ad 40), .ref (ad 27)] m (F_X1_cupsCame n m) := by
  refine zCT_of (lv := [(0, .ref (ad 40)), (1, .ref (ad 27))]) (by decide) rfl (Nat.le_of_ble_eq_true rfl) rfl ?_
  unfold F_X1_cupsCame
  refine z_iconst dX1_cupsCame_0 ?_
  refine z_istore_n dX1_cupsCame_1 (lv' := [(2, .int (mI 0)), (0, .ref (ad 40)), (1, .ref (ad 27))]) (by decide) rfl ?_
  exact zG_lvk (TL_X1_cupsCame_2 n n 0 m (by decide)) [1, 2, 0] rfl
set_option maxRecDepth 20000 in
theorem ct_X9_has {ad sc sv : Nat → Nat} (n : Nat) (t : Nat) (ht : zTab LX t) (a0 : Int) (m : ZMem) (ha0 : R32 a0) : zCT LX ad sc sv M_X9_has yX9_has [.ref (ad t), .int (mI a0)] m (F_X9_has n t a0 m) := by
  refine zCT_of (lv := [(0, .ref (ad t)), (1, .int (mI a0))]) (by decide) rfl (Nat.le_of_ble_eq_true rfl) rfl ?_
  unfold F_X9_has
  refine z_iload_n dX9_has_0 1 rfl ?_
  refine z_if_lt dX9_has_1 ha0 (tgt := 16) rfl (fun h1 => ?_) (fun h1 => ?_)
  · refine z_iconst dX9_has_16 ?_
    exact z_zret dX9_has_17 rfl rfl (by decide)
  · refine z_iload_n dX9_has_4 1 rfl ?_
    refine z_aload_n dX9_has_5 0 rfl ?_
    refine z_getI dX9_has_6 (k := 3) zc_X9 ht.1 rfl (by decide) k_46 (fun h2 => ?_)
    refine z_icmp_ge dX9_has_9 ha0 h2 (tgt := 16) rfl (fun h3 => ?_) (fun h3 => ?_)
    · refine z_iconst dX9_has_16 ?_
      exact z_zret dX9_has_17 rfl rfl (by decide)
    · refine z_iconst dX9_has_12 ?_
      refine z_goto dX9_has_13 (tgt := 17) rfl ?_
      exact z_zret dX9_has_17 rfl rfl (by decide)
set_option maxRecDepth 20000 in
theorem ct_X1_houseCame {ad sc sv : Nat → Nat} (n : Nat) (m : ZMem) : zCT LX ad sc sv M_X1_houseCame yX1_houseCame [.ref (ad 40), .ref (ad 27)] m (F_X1_houseCame n m) := by
  refine zCT_of (lv := [(0, .ref (ad 40)), (1, .ref (ad 27))]) (by decide) rfl (Nat.le_of_ble_eq_true rfl) rfl ?_
  unfold F_X1_houseCame
  refine z_aload_n dX1_houseCame_0 1 rfl ?_
  refine z_getR dX1_houseCame_1 (k := 4) (j := 28) zc_X3 lx_27 rfl (by decide) k_85 ?_
  refine z_aload_n dX1_houseCame_4 0 rfl ?_
  refine z_iconst dX1_houseCame_5 ?_
  refine z_callV1 dX1_houseCame_6 rfl (ct_X1_number n 0 m (by decide)) zc_X1 lx_40 k_397 k_399 kp_11 k_5 k_400 zn_X1_number ⟨rfl, rfl, Nat.le_of_ble_eq_true rfl, Nat.le_of_ble_eq_true rfl⟩ (Nat.le_of_ble_eq_true rfl) rfl (fun v1 m2 h3 ho4 => ?_)
  refine z_callV4 dX1_houseCame_9 rfl (ct_X9_has n 28 zt_28 v1 m2 h3) zc_X9 lx_28 k_414 k_415 k_416 k_3 k_417 zn_X9_has ⟨rfl, rfl, Nat.le_of_ble_eq_true rfl, Nat.le_of_ble_eq_true rfl⟩ (Nat.le_of_ble_eq_true rfl) rfl (fun v5 m6 h7 ho8 => ?_)
  refine z_if_ne dX1_houseCame_12 (zb01 h7) (tgt := 17) rfl (fun h9 => ?_) (fun h9 => ?_)
  · refine z_iconst dX1_houseCame_15 ?_
    exact z_zret dX1_houseCame_16 rfl rfl (by decide)
  · refine z_aload_n dX1_houseCame_17 1 rfl ?_
    refine z_getR dX1_houseCame_18 (k := 4) (j := 28) zc_X3 lx_27 rfl (by decide) k_85 ?_
    refine z_aload_n dX1_houseCame_21 0 rfl ?_
    refine z_iconst dX1_houseCame_22 ?_
    refine z_callV1 dX1_houseCame_23 rfl (ct_X1_number n 0 m6 (by decide)) zc_X1 lx_40 k_397 k_399 kp_11 k_5 k_400 zn_X1_number ⟨rfl, rfl, Nat.le_of_ble_eq_true rfl, Nat.le_of_ble_eq_true rfl⟩ (Nat.le_of_ble_eq_true rfl) rfl (fun v10 m11 h12 ho13 => ?_)
    refine z_iconst dX1_houseCame_26 ?_
    refine z_aload_n dX1_houseCame_27 0 rfl ?_
    refine z_iconst dX1_houseCame_28 ?_
    refine z_callV1 dX1_houseCame_29 rfl (ct_X1_number n 1 m11 (by decide)) zc_X1 lx_40 k_397 k_399 kp_11 k_5 k_400 zn_X1_number ⟨rfl, rfl, Nat.le_of_ble_eq_true rfl, Nat.le_of_ble_eq_true rfl⟩ (Nat.le_of_ble_eq_true rfl) rfl (fun v14 m15 h16 ho17 => ?_)
    refine z_callV0 dX1_houseCame_32 rfl (ct_X9_put n 28 zt_28 v10 4 v14 m15 h12 (by decide) h16) zc_X9 lx_28 k_409 k_268 k_269 k_3 k_270 zn_X9_put ⟨rfl, rfl, Nat.le_of_ble_eq_true rfl, Nat.le_of_ble_eq_true rfl⟩ (Nat.le_of_ble_eq_true rfl) rfl (fun v18 m19 ho21 => ?_)
    refine z_iconst dX1_houseCame_35 ?_
    exact z_zret dX1_houseCame_36 rfl rfl (by decide)
set_option maxRecDepth 20000 in
theorem T_X1_lineCame_16 {ad sc sv : Nat → Nat} (n : Nat) (u : Nat) (hu : zTab LX u) (r16 : Int → Int → ZMem → ZR) (hr16 : ∀ (x2 : Int) (x3 : Int) (m : ZMem), R32 x2 → R32 x3 → zG LX ad sc sv M_X1_lineCame 16 [(0, .ref (ad 40)), (1, .ref (ad u)), (2, .int (mI x2)), (3, .int (mI x3))] [] m (r16 x2 x3 m)) : ∀ (x2 : Int) (x3 : Int) (m : ZMem), R32 x2 → R32 x3 → zG LX ad sc sv M_X1_lineCame 16 [(0, .ref (ad 40)), (1, .ref (ad u)), (2, .int (mI x2)), (3, .int (mI x3))] [] m (B_X1_lineCame_16 n u r16 x2 x3 m) := by
  intro x2 x3 m hx2 hx3
  unfold B_X1_lineCame_16
  refine z_iload_n dX1_lineCame_16 3 rfl ?_
  refine z_aload_n dX1_lineCame_17 0 rfl ?_
  refine z_getR dX1_lineCame_18 (k := 1) (j := 43) zc_X1 lx_40 rfl (by decide) k_132 ?_
  refine z_callV1 dX1_lineCame_21 rfl (ct_X9_size n 43 zt_43 m) zc_X9 lx_43 k_299 k_276 k_277 k_3 k_278 zn_X9_size ⟨rfl, rfl, Nat.le_of_ble_eq_true rfl, Nat.le_of_ble_eq_true rfl⟩ (Nat.le_of_ble_eq_true rfl) rfl (fun v9 m10 h11 ho12 => ?_)
  refine z_icmp_ge dX1_lineCame_24 hx3 h11 (tgt := 48) rfl (fun h13 => ?_) (fun h13 => ?_)
  · refine z_iload_n dX1_lineCame_48 2 rfl ?_
    refine z_bipush dX1_lineCame_49 (x := (-9)) (by decide +kernel) ?_
    refine z_icmp_eq dX1_lineCame_51 hx2 (by decide) (tgt := 58) rfl (fun h14 => ?_) (fun h14 => ?_)
    · refine z_iconst dX1_lineCame_58 ?_
      exact z_zret dX1_lineCame_59 rfl rfl (by decide)
    · refine z_iconst dX1_lineCame_54 ?_
      refine z_goto dX1_lineCame_55 (tgt := 59) rfl ?_
      exact z_zret dX1_lineCame_59 rfl rfl (by decide)
  · refine z_aload_n dX1_lineCame_27 1 rfl ?_
    refine z_iload_n dX1_lineCame_28 2 rfl ?_
    refine z_iload_n dX1_lineCame_29 3 rfl ?_
    refine z_aload_n dX1_lineCame_30 0 rfl ?_
    refine z_getR dX1_lineCame_31 (k := 1) (j := 43) zc_X1 lx_40 rfl (by decide) k_132 ?_
    refine z_iload_n dX1_lineCame_34 3 rfl ?_
    refine z_iconst dX1_lineCame_35 ?_
    refine z_callV1 dX1_lineCame_36 rfl (ct_X9_at n 43 zt_43 x3 0 m10 hx3 (by decide)) zc_X9 lx_43 k_305 k_264 k_265 k_3 k_266 zn_X9_at ⟨rfl, rfl, Nat.le_of_ble_eq_true rfl, Nat.le_of_ble_eq_true rfl⟩ (Nat.le_of_ble_eq_true rfl) rfl (fun v15 m16 h17 ho18 => ?_)
    refine z_callV0 dX1_lineCame_39 rfl (ct_X9_put n u hu x2 x3 v15 m16 hx2 hx3 h17) zc_X9 hu.1 k_409 k_268 k_269 k_3 k_270 zn_X9_put ⟨rfl, rfl, Nat.le_of_ble_eq_true rfl, Nat.le_of_ble_eq_true rfl⟩ (Nat.le_of_ble_eq_true rfl) rfl (fun v19 m20 ho22 => ?_)
    refine z_iinc dX1_lineCame_42 (lv' := [(3, .int (mI (x3 + 1))), (0, .ref (ad 40)), (1, .ref (ad u)), (2, .int (mI x2))]) 3 rfl (by decide) rfl (fun h23 => ?_)
    refine z_goto dX1_lineCame_45 (tgt := 16) rfl ?_
    exact zG_lvk (hr16 x2 (x3 + 1) m20 hx2 h23) [1, 2, 3, 0] rfl
theorem TL_X1_lineCame_16 {ad sc sv : Nat → Nat} (n : Nat) (u : Nat) (hu : zTab LX u) : ∀ q : Nat, ∀ (x2 : Int) (x3 : Int) (m : ZMem), R32 x2 → R32 x3 → zG LX ad sc sv M_X1_lineCame 16 [(0, .ref (ad 40)), (1, .ref (ad u)), (2, .int (mI x2)), (3, .int (mI x3))] [] m (L_X1_lineCame_16 n u q x2 x3 m) := by
  intro q
  induction q with
  | zero => intros; exact zG_none
  | succ q ih => exact T_X1_lineCame_16 n u hu (L_X1_lineCame_16 n u q) ih
set_option maxRecDepth 20000 in
theorem ct_X1_lineCame {ad sc sv : Nat → Nat} (n : Nat) (u : Nat) (hu : zTab LX u) (m : ZMem) : zCT LX ad sc sv M_X1_lineCame yX1_lineCame [.ref (ad 40), .ref (ad u)] m (F_X1_lineCame n u m) := by
  refine zCT_of (lv := [(0, .ref (ad 40)), (1, .ref (ad u))]) (by decide) rfl (Nat.le_of_ble_eq_true rfl) rfl ?_
  unfold F_X1_lineCame
  refine z_aload_n dX1_lineCame_0 1 rfl ?_
  refine z_aload_n dX1_lineCame_1 0 rfl ?_
  refine z_getR dX1_lineCame_2 (k := 1) (j := 43) zc_X1 lx_40 rfl (by decide) k_132 ?_
  refine z_iconst dX1_lineCame_5 ?_
  refine z_iconst dX1_lineCame_6 ?_
  refine z_callV1 dX1_lineCame_7 rfl (ct_X9_at n 43 zt_43 0 0 m (by decide) (by decide)) zc_X9 lx_43 k_305 k_264 k_265 k_3 k_266 zn_X9_at ⟨rfl, rfl, Nat.le_of_ble_eq_true rfl, Nat.le_of_ble_eq_true rfl⟩ (Nat.le_of_ble_eq_true rfl) rfl (fun v1 m2 h3 ho4 => ?_)
  refine z_callV1 dX1_lineCame_10 rfl (ct_X9_add n u hu v1 m2 h3) zc_X9 hu.1 k_372 k_272 k_273 k_3 k_274 zn_X9_add ⟨rfl, rfl, Nat.le_of_ble_eq_true rfl, Nat.le_of_ble_eq_true rfl⟩ (Nat.le_of_ble_eq_true rfl) rfl (fun v5 m6 h7 ho8 => ?_)
  refine z_istore_n dX1_lineCame_13 (lv' := [(2, .int (mI v5)), (0, .ref (ad 40)), (1, .ref (ad u))]) (by decide) rfl ?_
  refine z_iconst dX1_lineCame_14 ?_
  refine z_istore_n dX1_lineCame_15 (lv' := [(3, .int (mI 1)), (2, .int (mI v5)), (0, .ref (ad 40)), (1, .ref (ad u))]) (by decide) rfl ?_
  exact zG_lvk (TL_X1_lineCame_16 n u hu n v5 1 m6 h7 (by decide)) [2, 3, 1, 0] rfl
set_option maxRecDepth 20000 in
theorem ct_X1_partCame {ad sc sv : Nat → Nat} (n : Nat) (m : ZMem) : zCT LX ad sc sv M_X1_partCame yX1_partCame [.ref (ad 40), .ref (ad 27)] m (F_X1_partCame n m) := by
  refine zCT_of (lv := [(0, .ref (ad 40)), (1, .ref (ad 27))]) (by decide) rfl (Nat.le_of_ble_eq_true rfl) rfl ?_
  unfold F_X1_partCame
  refine z_aload_n dX1_partCame_0 0 rfl ?_
  refine z_iconst dX1_partCame_1 ?_
  refine z_iconst dX1_partCame_2 ?_
  refine z_iconst dX1_partCame_3 ?_
  refine z_callV4 dX1_partCame_4 rfl (ct_X1_within n 0 0 5 m (by decide) (by decide) (by decide)) zc_X1 lx_40 k_393 k_395 kp_10 k_5 k_396 zn_X1_within ⟨rfl, rfl, Nat.le_of_ble_eq_true rfl, Nat.le_of_ble_eq_true rfl⟩ (Nat.le_of_ble_eq_true rfl) rfl (fun v1 m2 h3 ho4 => ?_)
  refine z_if_eq dX1_partCame_7 (zb01 h3) (tgt := 36) rfl (fun h5 => ?_) (fun h5 => ?_)
  · refine z_iconst dX1_partCame_36 ?_
    refine z_istore_n dX1_partCame_37 (lv' := [(2, .int (mI 0)), (0, .ref (ad 40)), (1, .ref (ad 27))]) (by decide) rfl ?_
    refine z_iload_n dX1_partCame_38 0 rfl ?_
    refine z_if_eq_t dX1_partCame_39 (by decide) (by decide) (tgt := 57) rfl ?_
    refine z_iconst dX1_partCame_57 ?_
    exact z_zret dX1_partCame_58 rfl rfl (by decide)
  · refine z_aload_n dX1_partCame_10 0 rfl ?_
    refine z_iconst dX1_partCame_11 ?_
    refine z_iconst dX1_partCame_12 ?_
    refine z_bipush dX1_partCame_13 (x := 9) (by decide +kernel) ?_
    refine z_callV4 dX1_partCame_15 rfl (ct_X1_within n 1 1 9 m2 (by decide) (by decide) (by decide)) zc_X1 lx_40 k_393 k_395 kp_10 k_5 k_396 zn_X1_within ⟨rfl, rfl, Nat.le_of_ble_eq_true rfl, Nat.le_of_ble_eq_true rfl⟩ (Nat.le_of_ble_eq_true rfl) rfl (fun v6 m7 h8 ho9 => ?_)
    refine z_if_eq dX1_partCame_18 (zb01 h8) (tgt := 36) rfl (fun h10 => ?_) (fun h10 => ?_)
    · refine z_iconst dX1_partCame_36 ?_
      refine z_istore_n dX1_partCame_37 (lv' := [(2, .int (mI 0)), (0, .ref (ad 40)), (1, .ref (ad 27))]) (by decide) rfl ?_
      refine z_iload_n dX1_partCame_38 0 rfl ?_
      refine z_if_eq_t dX1_partCame_39 (by decide) (by decide) (tgt := 57) rfl ?_
      refine z_iconst dX1_partCame_57 ?_
      exact z_zret dX1_partCame_58 rfl rfl (by decide)
    · refine z_aload_n dX1_partCame_21 0 rfl ?_
      refine z_iconst dX1_partCame_22 ?_
      refine z_iconst dX1_partCame_23 ?_
      refine z_bipush dX1_partCame_24 (x := 99) (by decide +kernel) ?_
      refine z_callV4 dX1_partCame_26 rfl (ct_X1_within n 3 1 99 m7 (by decide) (by decide) (by decide)) zc_X1 lx_40 k_393 k_395 kp_10 k_5 k_396 zn_X1_within ⟨rfl, rfl, Nat.le_of_ble_eq_true rfl, Nat.le_of_ble_eq_true rfl⟩ (Nat.le_of_ble_eq_true rfl) rfl (fun v11 m12 h13 ho14 => ?_)
      refine z_if_eq dX1_partCame_29 (zb01 h13) (tgt := 36) rfl (fun h15 => ?_) (fun h15 => ?_)
      · refine z_iconst dX1_partCame_36 ?_
        refine z_istore_n dX1_partCame_37 (lv' := [(2, .int (mI 0)), (0, .ref (ad 40)), (1, .ref (ad 27))]) (by decide) rfl ?_
        refine z_iload_n dX1_partCame_38 0 rfl ?_
        refine z_if_eq_t dX1_partCame_39 (by decide) (by decide) (tgt := 57) rfl ?_
        refine z_iconst dX1_partCame_57 ?_
        exact z_zret dX1_partCame_58 rfl rfl (by decide)
      · refine z_iconst dX1_partCame_32 ?_
        refine z_goto dX1_partCame_33 (tgt := 37) rfl ?_
        refine z_istore_n dX1_partCame_37 (lv' := [(2, .int (mI 1)), (0, .ref (ad 40)), (1, .ref (ad 27))]) (by decide) rfl ?_
        refine z_iload_n dX1_partCame_38 0 rfl ?_
        refine z_if_eq_f dX1_partCame_39 (by decide) (by decide) (tgt := 57) rfl ?_
        refine z_aload_n dX1_partCame_42 1 rfl ?_
        refine z_aload_n dX1_partCame_43 2 rfl ?_
        refine z_getR dX1_partCame_44 (k := 4) (j := 28) zc_X3 lx_27 rfl (by decide) k_85 ?_
        refine z_callV4 dX1_partCame_47 rfl (ct_X1_lineCame n 28 zt_28 m12) zc_X1 lx_40 k_405 k_407 kp_13 k_5 k_408 zn_X1_lineCame ⟨rfl, rfl, Nat.le_of_ble_eq_true rfl, Nat.le_of_ble_eq_true rfl⟩ (Nat.le_of_ble_eq_true rfl) rfl (fun v16 m17 h18 ho19 => ?_)
        refine z_if_eq dX1_partCame_50 (zb01 h18) (tgt := 57) rfl (fun h20 => ?_) (fun h20 => ?_)
        · refine z_iconst dX1_partCame_57 ?_
          exact z_zret dX1_partCame_58 rfl rfl (by decide)
        · refine z_iconst dX1_partCame_53 ?_
          refine z_goto dX1_partCame_54 (tgt := 58) rfl ?_
          exact z_zret dX1_partCame_58 rfl rfl (by decide)
set_option maxRecDepth 20000 in
theorem T_X1_standsInAlready_2 {ad sc sv : Nat → Nat} (n : Nat) (r2 : Int → Int → Int → ZMem → ZR) (hr2 : ∀ (x1 : Int) (x2 : Int) (x3 : Int) (m : ZMem), R32 x1 → R32 x2 → R32 x3 → zG LX ad sc sv M_X1_standsInAlready 2 [(0, .ref (ad 32)), (1, .int (mI x1)), (2, .int (mI x2)), (3, .int (mI x3))] [] m (r2 x1 x2 x3 m)) : ∀ (x1 : Int) (x2 : Int) (x3 : Int) (m : ZMem), R32 x1 → R32 x2 → R32 x3 → zG LX ad sc sv M_X1_standsInAlready 2 [(0, .ref (ad 32)), (1, .int (mI x1)), (2, .int (mI x2)), (3, .int (mI x3))] [] m (B_X1_standsInAlready_2 n r2 x1 x2 x3 m) := by
  intro x1 x2 x3 m hx1 hx2 hx3
  unfold B_X1_standsInAlready_2
  refine z_iload_n dX1_standsInAlready_2 3 rfl ?_
  refine z_aload_n dX1_standsInAlready_3 0 rfl ?_
  refine z_callV1 dX1_standsInAlready_4 rfl (ct_X9_size n 32 zt_32 m) zc_X9 lx_32 k_299 k_276 k_277 k_3 k_278 zn_X9_size ⟨rfl, rfl, Nat.le_of_ble_eq_true rfl, Nat.le_of_ble_eq_true rfl⟩ (Nat.le_of_ble_eq_true rfl) rfl (fun v1 m2 h3 ho4 => ?_)
  refine z_icmp_ge dX1_standsInAlready_7 hx3 h3 (tgt := 38) rfl (fun h5 => ?_) (fun h5 => ?_)
  · refine z_iconst dX1_standsInAlready_38 ?_
    exact z_zret dX1_standsInAlready_39 rfl rfl (by decide)
  · refine z_aload_n dX1_standsInAlready_10 0 rfl ?_
    refine z_iload_n dX1_standsInAlready_11 3 rfl ?_
    refine z_iconst dX1_standsInAlready_12 ?_
    refine z_callV1 dX1_standsInAlready_13 rfl (ct_X9_at n 32 zt_32 x3 0 m2 hx3 (by decide)) zc_X9 lx_32 k_305 k_264 k_265 k_3 k_266 zn_X9_at ⟨rfl, rfl, Nat.le_of_ble_eq_true rfl, Nat.le_of_ble_eq_true rfl⟩ (Nat.le_of_ble_eq_true rfl) rfl (fun v6 m7 h8 ho9 => ?_)
    refine z_iload_n dX1_standsInAlready_16 1 rfl ?_
    refine z_icmp_ne dX1_standsInAlready_17 h8 hx1 (tgt := 32) rfl (fun h10 => ?_) (fun h10 => ?_)
    · refine z_aload_n dX1_standsInAlready_20 0 rfl ?_
      refine z_iload_n dX1_standsInAlready_21 3 rfl ?_
      refine z_iconst dX1_standsInAlready_22 ?_
      refine z_callV1 dX1_standsInAlready_23 rfl (ct_X9_at n 32 zt_32 x3 1 m7 hx3 (by decide)) zc_X9 lx_32 k_305 k_264 k_265 k_3 k_266 zn_X9_at ⟨rfl, rfl, Nat.le_of_ble_eq_true rfl, Nat.le_of_ble_eq_true rfl⟩ (Nat.le_of_ble_eq_true rfl) rfl (fun v11 m12 h13 ho14 => ?_)
      refine z_iload_n dX1_standsInAlready_26 2 rfl ?_
      refine z_icmp_ne dX1_standsInAlready_27 h13 hx2 (tgt := 32) rfl (fun h15 => ?_) (fun h15 => ?_)
      · refine z_iconst dX1_standsInAlready_30 ?_
        exact z_zret dX1_standsInAlready_31 rfl rfl (by decide)
      · refine z_iinc dX1_standsInAlready_32 (lv' := [(3, .int (mI (x3 + 1))), (0, .ref (ad 32)), (1, .int (mI x1)), (2, .int (mI x2))]) 3 rfl (by decide) rfl (fun h16 => ?_)
        refine z_goto dX1_standsInAlready_35 (tgt := 2) rfl ?_
        exact zG_lvk (hr2 x1 x2 (x3 + 1) m12 hx1 hx2 h16) [1, 2, 3, 0] rfl
    · refine z_iinc dX1_standsInAlready_32 (lv' := [(3, .int (mI (x3 + 1))), (0, .ref (ad 32)), (1, .int (mI x1)), (2, .int (mI x2))]) 3 rfl (by decide) rfl (fun h17 => ?_)
      refine z_goto dX1_standsInAlready_35 (tgt := 2) rfl ?_
      exact zG_lvk (hr2 x1 x2 (x3 + 1) m7 hx1 hx2 h17) [1, 2, 3, 0] rfl
theorem TL_X1_standsInAlready_2 {ad sc sv : Nat → Nat} (n : Nat) : ∀ q : Nat, ∀ (x1 : Int) (x2 : Int) (x3 : Int) (m : ZMem), R32 x1 → R32 x2 → R32 x3 → zG LX ad sc sv M_X1_standsInAlready 2 [(0, .ref (ad 32)), (1, .int (mI x1)), (2, .int (mI x2)), (3, .int (mI x3))] [] m (L_X1_standsInAlready_2 n q x1 x2 x3 m) := by
  intro q
  induction q with
  | zero => intros; exact zG_none
  | succ q ih => exact T_X1_standsInAlready_2 n (L_X1_standsInAlready_2 n q) ih
set_option maxRecDepth 20000 in
theorem ct_X1_standsInAlready {ad sc sv : Nat → Nat} (n : Nat) (a0 : Int) (a1 : Int) (m : ZMem) (ha0 : R32 a0) (ha1 : R32 a1) : zCT LX ad sc sv M_X1_standsInAlready yX1_standsInAlready [.ref (ad 32), .int (mI a0), .int (mI a1)] m (F_X1_standsInAlready n a0 a1 m) := by
  refine zCT_of (lv := [(0, .ref (ad 32)), (1, .int (mI a0)), (2, .int (mI a1))]) (by decide) rfl (Nat.le_of_ble_eq_true rfl) rfl ?_
  unfold F_X1_standsInAlready
  refine z_iconst dX1_standsInAlready_0 ?_
  refine z_istore_n dX1_standsInAlready_1 (lv' := [(3, .int (mI 0)), (0, .ref (ad 32)), (1, .int (mI a0)), (2, .int (mI a1))]) (by decide) rfl ?_
  exact zG_lvk (TL_X1_standsInAlready_2 n n a0 a1 0 m ha0 ha1 (by decide)) [1, 2, 3, 0] rfl
set_option maxRecDepth 20000 in
theorem ct_X1_standInCame {ad sc sv : Nat → Nat} (n : Nat) (m : ZMem) : zCT LX ad sc sv M_X1_standInCame yX1_standInCame [.ref (ad 40), .ref (ad 27)] m (F_X1_standInCame n m) := by
  refine zCT_of (lv := [(0, .ref (ad 40)), (1, .ref (ad 27))]) (by decide) rfl (Nat.le_of_ble_eq_true rfl) rfl ?_
  unfold F_X1_standInCame
  refine z_aload_n dX1_standInCame_0 0 rfl ?_
  refine z_iconst dX1_standInCame_1 ?_
  refine z_callV1 dX1_standInCame_2 rfl (ct_X1_number n 0 m (by decide)) zc_X1 lx_40 k_397 k_399 kp_11 k_5 k_400 zn_X1_number ⟨rfl, rfl, Nat.le_of_ble_eq_true rfl, Nat.le_of_ble_eq_true rfl⟩ (Nat.le_of_ble_eq_true rfl) rfl (fun v1 m2 h3 ho4 => ?_)
  refine z_istore_n dX1_standInCame_5 (lv' := [(2, .int (mI v1)), (0, .ref (ad 40)), (1, .ref (ad 27))]) (by decide) rfl ?_
  refine z_aload_n dX1_standInCame_6 1 rfl ?_
  refine z_iconst dX1_standInCame_7 ?_
  refine z_callV1 dX1_standInCame_8 rfl (ct_X1_number n 1 m2 (by decide)) zc_X1 lx_40 k_397 k_399 kp_11 k_5 k_400 zn_X1_number ⟨rfl, rfl, Nat.le_of_ble_eq_true rfl, Nat.le_of_ble_eq_true rfl⟩ (Nat.le_of_ble_eq_true rfl) rfl (fun v5 m6 h7 ho8 => ?_)
  refine z_istore_n dX1_standInCame_11 (lv' := [(3, .int (mI v5)), (2, .int (mI v1)), (0, .ref (ad 40)), (1, .ref (ad 27))]) (by decide) rfl ?_
  refine z_aload_n dX1_standInCame_12 3 rfl ?_
  refine z_getR dX1_standInCame_13 (k := 4) (j := 28) zc_X3 lx_27 rfl (by decide) k_85 ?_
  refine z_iload_n dX1_standInCame_16 1 rfl ?_
  refine z_callV4 dX1_standInCame_17 rfl (ct_X9_has n 28 zt_28 v1 m6 h3) zc_X9 lx_28 k_414 k_415 k_416 k_3 k_417 zn_X9_has ⟨rfl, rfl, Nat.le_of_ble_eq_true rfl, Nat.le_of_ble_eq_true rfl⟩ (Nat.le_of_ble_eq_true rfl) rfl (fun v9 m10 h11 ho12 => ?_)
  refine z_if_eq dX1_standInCame_20 (zb01 h11) (tgt := 65) rfl (fun h13 => ?_) (fun h13 => ?_)
  · refine z_iconst dX1_standInCame_65 ?_
    refine z_istore dX1_standInCame_66 (lv' := [(4, .int (mI 0)), (3, .int (mI v5)), (2, .int (mI v1)), (0, .ref (ad 40)), (1, .ref (ad 27))]) (by decide) rfl ?_
    refine z_iload dX1_standInCame_68 0 rfl ?_
    refine z_if_eq_t dX1_standInCame_70 (by decide) (by decide) (tgt := 100) rfl ?_
    refine z_iconst dX1_standInCame_100 ?_
    exact z_zret dX1_standInCame_101 rfl rfl (by decide)
  · refine z_aload_n dX1_standInCame_23 3 rfl ?_
    refine z_getR dX1_standInCame_24 (k := 4) (j := 28) zc_X3 lx_27 rfl (by decide) k_85 ?_
    refine z_iload_n dX1_standInCame_27 0 rfl ?_
    refine z_callV4 dX1_standInCame_28 rfl (ct_X9_has n 28 zt_28 v5 m10 h7) zc_X9 lx_28 k_414 k_415 k_416 k_3 k_417 zn_X9_has ⟨rfl, rfl, Nat.le_of_ble_eq_true rfl, Nat.le_of_ble_eq_true rfl⟩ (Nat.le_of_ble_eq_true rfl) rfl (fun v14 m15 h16 ho17 => ?_)
    refine z_if_eq dX1_standInCame_31 (zb01 h16) (tgt := 65) rfl (fun h18 => ?_) (fun h18 => ?_)
    · refine z_iconst dX1_standInCame_65 ?_
      refine z_istore dX1_standInCame_66 (lv' := [(4, .int (mI 0)), (3, .int (mI v5)), (2, .int (mI v1)), (0, .ref (ad 40)), (1, .ref (ad 27))]) (by decide) rfl ?_
      refine z_iload dX1_standInCame_68 0 rfl ?_
      refine z_if_eq_t dX1_standInCame_70 (by decide) (by decide) (tgt := 100) rfl ?_
      refine z_iconst dX1_standInCame_100 ?_
      exact z_zret dX1_standInCame_101 rfl rfl (by decide)
    · refine z_iload_n dX1_standInCame_34 1 rfl ?_
      refine z_iload_n dX1_standInCame_35 0 rfl ?_
      refine z_icmp_eq dX1_standInCame_36 h3 h7 (tgt := 65) rfl (fun h19 => ?_) (fun h19 => ?_)
      · refine z_iconst dX1_standInCame_65 ?_
        refine z_istore dX1_standInCame_66 (lv' := [(4, .int (mI 0)), (3, .int (mI v5)), (2, .int (mI v1)), (0, .ref (ad 40)), (1, .ref (ad 27))]) (by decide) rfl ?_
        refine z_iload dX1_standInCame_68 0 rfl ?_
        refine z_if_eq_t dX1_standInCame_70 (by decide) (by decide) (tgt := 100) rfl ?_
        refine z_iconst dX1_standInCame_100 ?_
        exact z_zret dX1_standInCame_101 rfl rfl (by decide)
      · refine z_aload_n dX1_standInCame_39 2 rfl ?_
        refine z_iconst dX1_standInCame_40 ?_
        refine z_iconst dX1_standInCame_41 ?_
        refine z_bipush dX1_standInCame_42 (x := 9) (by decide +kernel) ?_
        refine z_callV4 dX1_standInCame_44 rfl (ct_X1_within n 2 1 9 m15 (by decide) (by decide) (by decide)) zc_X1 lx_40 k_393 k_395 kp_10 k_5 k_396 zn_X1_within ⟨rfl, rfl, Nat.le_of_ble_eq_true rfl, Nat.le_of_ble_eq_true rfl⟩ (Nat.le_of_ble_eq_true rfl) rfl (fun v20 m21 h22 ho23 => ?_)
        refine z_if_eq dX1_standInCame_47 (zb01 h22) (tgt := 65) rfl (fun h24 => ?_) (fun h24 => ?_)
        · refine z_iconst dX1_standInCame_65 ?_
          refine z_istore dX1_standInCame_66 (lv' := [(4, .int (mI 0)), (3, .int (mI v5)), (2, .int (mI v1)), (0, .ref (ad 40)), (1, .ref (ad 27))]) (by decide) rfl ?_
          refine z_iload dX1_standInCame_68 0 rfl ?_
          refine z_if_eq_t dX1_standInCame_70 (by decide) (by decide) (tgt := 100) rfl ?_
          refine z_iconst dX1_standInCame_100 ?_
          exact z_zret dX1_standInCame_101 rfl rfl (by decide)
        · refine z_aload_n dX1_standInCame_50 2 rfl ?_
          refine z_iconst dX1_standInCame_51 ?_
          refine z_iconst dX1_standInCame_52 ?_
          refine z_bipush dX1_standInCame_53 (x := 9) (by decide +kernel) ?_
          refine z_callV4 dX1_standInCame_55 rfl (ct_X1_within n 3 1 9 m21 (by decide) (by decide) (by decide)) zc_X1 lx_40 k_393 k_395 kp_10 k_5 k_396 zn_X1_within ⟨rfl, rfl, Nat.le_of_ble_eq_true rfl, Nat.le_of_ble_eq_true rfl⟩ (Nat.le_of_ble_eq_true rfl) rfl (fun v25 m26 h27 ho28 => ?_)
          refine z_if_eq dX1_standInCame_58 (zb01 h27) (tgt := 65) rfl (fun h29 => ?_) (fun h29 => ?_)
          · refine z_iconst dX1_standInCame_65 ?_
            refine z_istore dX1_standInCame_66 (lv' := [(4, .int (mI 0)), (3, .int (mI v5)), (2, .int (mI v1)), (0, .ref (ad 40)), (1, .ref (ad 27))]) (by decide) rfl ?_
            refine z_iload dX1_standInCame_68 0 rfl ?_
            refine z_if_eq_t dX1_standInCame_70 (by decide) (by decide) (tgt := 100) rfl ?_
            refine z_iconst dX1_standInCame_100 ?_
            exact z_zret dX1_standInCame_101 rfl rfl (by decide)
          · refine z_iconst dX1_standInCame_61 ?_
            refine z_goto dX1_standInCame_62 (tgt := 66) rfl ?_
            refine z_istore dX1_standInCame_66 (lv' := [(4, .int (mI 1)), (3, .int (mI v5)), (2, .int (mI v1)), (0, .ref (ad 40)), (1, .ref (ad 27))]) (by decide) rfl ?_
            refine z_iload dX1_standInCame_68 0 rfl ?_
            refine z_if_eq_f dX1_standInCame_70 (by decide) (by decide) (tgt := 100) rfl ?_
            refine z_aload_n dX1_standInCame_73 4 rfl ?_
            refine z_getR dX1_standInCame_74 (k := 6) (j := 32) zc_X3 lx_27 rfl (by decide) k_93 ?_
            refine z_iload_n dX1_standInCame_77 2 rfl ?_
            refine z_iload_n dX1_standInCame_78 1 rfl ?_
            refine z_callS4 dX1_standInCame_79 rfl (ct_X1_standsInAlready n v1 v5 m26 h3 h7) k_426 k_427 k_5 k_428 zn_X1_standsInAlready ⟨rfl, rfl, Nat.le_of_ble_eq_true rfl, Nat.le_of_ble_eq_true rfl⟩ (Nat.le_of_ble_eq_true rfl) rfl (fun v30 m31 h32 ho33 => ?_)
            refine z_if_ne dX1_standInCame_82 (zb01 h32) (tgt := 100) rfl (fun h34 => ?_) (fun h34 => ?_)
            · refine z_aload_n dX1_standInCame_85 3 rfl ?_
              refine z_aload_n dX1_standInCame_86 4 rfl ?_
              refine z_getR dX1_standInCame_87 (k := 6) (j := 32) zc_X3 lx_27 rfl (by decide) k_93 ?_
              refine z_callV4 dX1_standInCame_90 rfl (ct_X1_lineCame n 32 zt_32 m31) zc_X1 lx_40 k_405 k_407 kp_13 k_5 k_408 zn_X1_lineCame ⟨rfl, rfl, Nat.le_of_ble_eq_true rfl, Nat.le_of_ble_eq_true rfl⟩ (Nat.le_of_ble_eq_true rfl) rfl (fun v35 m36 h37 ho38 => ?_)
              refine z_if_eq dX1_standInCame_93 (zb01 h37) (tgt := 100) rfl (fun h39 => ?_) (fun h39 => ?_)
              · refine z_iconst dX1_standInCame_100 ?_
                exact z_zret dX1_standInCame_101 rfl rfl (by decide)
              · refine z_iconst dX1_standInCame_96 ?_
                refine z_goto dX1_standInCame_97 (tgt := 101) rfl ?_
                exact z_zret dX1_standInCame_101 rfl rfl (by decide)
            · refine z_iconst dX1_standInCame_100 ?_
              exact z_zret dX1_standInCame_101 rfl rfl (by decide)
set_option maxRecDepth 20000 in
theorem ct_X1_tinCame {ad sc sv : Nat → Nat} (n : Nat) (m : ZMem) : zCT LX ad sc sv M_X1_tinCame yX1_tinCame [.ref (ad 40), .ref (ad 27)] m (F_X1_tinCame n m) := by
  refine zCT_of (lv := [(0, .ref (ad 40)), (1, .ref (ad 27))]) (by decide) rfl (Nat.le_of_ble_eq_true rfl) rfl ?_
  unfold F_X1_tinCame
  refine z_aload_n dX1_tinCame_0 0 rfl ?_
  refine z_iconst dX1_tinCame_1 ?_
  refine z_iconst dX1_tinCame_2 ?_
  refine z_bipush dX1_tinCame_3 (x := 30) (by decide +kernel) ?_
  refine z_callV4 dX1_tinCame_5 rfl (ct_X1_within n 1 1 30 m (by decide) (by decide) (by decide)) zc_X1 lx_40 k_393 k_395 kp_10 k_5 k_396 zn_X1_within ⟨rfl, rfl, Nat.le_of_ble_eq_true rfl, Nat.le_of_ble_eq_true rfl⟩ (Nat.le_of_ble_eq_true rfl) rfl (fun v1 m2 h3 ho4 => ?_)
  refine z_if_eq dX1_tinCame_8 (zb01 h3) (tgt := 26) rfl (fun h5 => ?_) (fun h5 => ?_)
  · refine z_iconst dX1_tinCame_26 ?_
    exact z_zret dX1_tinCame_27 rfl rfl (by decide)
  · refine z_aload_n dX1_tinCame_11 0 rfl ?_
    refine z_aload_n dX1_tinCame_12 1 rfl ?_
    refine z_getR dX1_tinCame_13 (k := 5) (j := 30) zc_X3 lx_27 rfl (by decide) k_89 ?_
    refine z_callV4 dX1_tinCame_16 rfl (ct_X1_lineCame n 30 zt_30 m2) zc_X1 lx_40 k_405 k_407 kp_13 k_5 k_408 zn_X1_lineCame ⟨rfl, rfl, Nat.le_of_ble_eq_true rfl, Nat.le_of_ble_eq_true rfl⟩ (Nat.le_of_ble_eq_true rfl) rfl (fun v6 m7 h8 ho9 => ?_)
    refine z_if_eq dX1_tinCame_19 (zb01 h8) (tgt := 26) rfl (fun h10 => ?_) (fun h10 => ?_)
    · refine z_iconst dX1_tinCame_26 ?_
      exact z_zret dX1_tinCame_27 rfl rfl (by decide)
    · refine z_iconst dX1_tinCame_22 ?_
      refine z_goto dX1_tinCame_23 (tgt := 27) rfl ?_
      exact z_zret dX1_tinCame_27 rfl rfl (by decide)
set_option maxRecDepth 20000 in
theorem ct_X1_statementCame {ad sc sv : Nat → Nat} (n : Nat) (a0 : Int) (m : ZMem) (ha0 : R32 a0) : zCT LX ad sc sv M_X1_statementCame yX1_statementCame [.ref (ad 40), .ref (ad 27), .int (mI a0)] m (F_X1_statementCame n a0 m) := by
  refine zCT_of (lv := [(0, .ref (ad 40)), (1, .ref (ad 27)), (2, .int (mI a0))]) (by decide) rfl (Nat.le_of_ble_eq_true rfl) rfl ?_
  unfold F_X1_statementCame
  refine z_iload_n dX1_statementCame_0 2 rfl ?_
  refine z_case (fun hc1 => ?_) (fun hc1 => ?_)
  · refine z_tsIn dX1_statementCame_1 (cst := 102) hc1 (by decide) (by decide) rfl (tgt := 76) rfl ?_
    refine z_aload_n dX1_statementCame_76 0 rfl ?_
    refine z_aload_n dX1_statementCame_77 1 rfl ?_
    refine z_callV4 dX1_statementCame_78 rfl (ct_X1_forCame n m) zc_X1 lx_40 k_389 k_391 kp_9 k_5 k_392 zn_X1_forCame ⟨rfl, rfl, Nat.le_of_ble_eq_true rfl, Nat.le_of_ble_eq_true rfl⟩ (Nat.le_of_ble_eq_true rfl) rfl (fun v2 m3 h4 ho5 => ?_)
    exact z_zret dX1_statementCame_81 rfl rfl h4
  · refine z_case (fun hc6 => ?_) (fun hc6 => ?_)
    · refine z_tsIn dX1_statementCame_1 (cst := 103) hc6 (by decide) (by decide) rfl (tgt := 106) rfl ?_
      refine z_aload_n dX1_statementCame_106 0 rfl ?_
      refine z_aload_n dX1_statementCame_107 1 rfl ?_
      refine z_callV4 dX1_statementCame_108 rfl (ct_X1_cupsCame n m) zc_X1 lx_40 k_429 k_431 kp_17 k_5 k_432 zn_X1_cupsCame ⟨rfl, rfl, Nat.le_of_ble_eq_true rfl, Nat.le_of_ble_eq_true rfl⟩ (Nat.le_of_ble_eq_true rfl) rfl (fun v7 m8 h9 ho10 => ?_)
      exact z_zret dX1_statementCame_111 rfl rfl h9
    · refine z_case (fun hc11 => ?_) (fun hc11 => ?_)
      · refine z_tsIn dX1_statementCame_1 (cst := 104) hc11 (by decide) (by decide) rfl (tgt := 88) rfl ?_
        refine z_aload_n dX1_statementCame_88 0 rfl ?_
        refine z_aload_n dX1_statementCame_89 1 rfl ?_
        refine z_callV4 dX1_statementCame_90 rfl (ct_X1_houseCame n m) zc_X1 lx_40 k_410 k_412 kp_14 k_5 k_413 zn_X1_houseCame ⟨rfl, rfl, Nat.le_of_ble_eq_true rfl, Nat.le_of_ble_eq_true rfl⟩ (Nat.le_of_ble_eq_true rfl) rfl (fun v12 m13 h14 ho15 => ?_)
        exact z_zret dX1_statementCame_93 rfl rfl h14
      · refine z_case (fun hc16 => ?_) (fun hc16 => ?_)
        · refine z_tsIn dX1_statementCame_1 (cst := 105) hc16 (by decide) (by decide) rfl (tgt := 106) rfl ?_
          refine z_aload_n dX1_statementCame_106 0 rfl ?_
          refine z_aload_n dX1_statementCame_107 1 rfl ?_
          refine z_callV4 dX1_statementCame_108 rfl (ct_X1_cupsCame n m) zc_X1 lx_40 k_429 k_431 kp_17 k_5 k_432 zn_X1_cupsCame ⟨rfl, rfl, Nat.le_of_ble_eq_true rfl, Nat.le_of_ble_eq_true rfl⟩ (Nat.le_of_ble_eq_true rfl) rfl (fun v17 m18 h19 ho20 => ?_)
          exact z_zret dX1_statementCame_111 rfl rfl h19
        · refine z_case (fun hc21 => ?_) (fun hc21 => ?_)
          · refine z_tsIn dX1_statementCame_1 (cst := 106) hc21 (by decide) (by decide) rfl (tgt := 106) rfl ?_
            refine z_aload_n dX1_statementCame_106 0 rfl ?_
            refine z_aload_n dX1_statementCame_107 1 rfl ?_
            refine z_callV4 dX1_statementCame_108 rfl (ct_X1_cupsCame n m) zc_X1 lx_40 k_429 k_431 kp_17 k_5 k_432 zn_X1_cupsCame ⟨rfl, rfl, Nat.le_of_ble_eq_true rfl, Nat.le_of_ble_eq_true rfl⟩ (Nat.le_of_ble_eq_true rfl) rfl (fun v22 m23 h24 ho25 => ?_)
            exact z_zret dX1_statementCame_111 rfl rfl h24
          · refine z_case (fun hc26 => ?_) (fun hc26 => ?_)
            · refine z_tsIn dX1_statementCame_1 (cst := 107) hc26 (by decide) (by decide) rfl (tgt := 106) rfl ?_
              refine z_aload_n dX1_statementCame_106 0 rfl ?_
              refine z_aload_n dX1_statementCame_107 1 rfl ?_
              refine z_callV4 dX1_statementCame_108 rfl (ct_X1_cupsCame n m) zc_X1 lx_40 k_429 k_431 kp_17 k_5 k_432 zn_X1_cupsCame ⟨rfl, rfl, Nat.le_of_ble_eq_true rfl, Nat.le_of_ble_eq_true rfl⟩ (Nat.le_of_ble_eq_true rfl) rfl (fun v27 m28 h29 ho30 => ?_)
              exact z_zret dX1_statementCame_111 rfl rfl h29
            · refine z_case (fun hc31 => ?_) (fun hc31 => ?_)
              · refine z_tsIn dX1_statementCame_1 (cst := 108) hc31 (by decide) (by decide) rfl (tgt := 106) rfl ?_
                refine z_aload_n dX1_statementCame_106 0 rfl ?_
                refine z_aload_n dX1_statementCame_107 1 rfl ?_
                refine z_callV4 dX1_statementCame_108 rfl (ct_X1_cupsCame n m) zc_X1 lx_40 k_429 k_431 kp_17 k_5 k_432 zn_X1_cupsCame ⟨rfl, rfl, Nat.le_of_ble_eq_true rfl, Nat.le_of_ble_eq_true rfl⟩ (Nat.le_of_ble_eq_true rfl) rfl (fun v32 m33 h34 ho35 => ?_)
                exact z_zret dX1_statementCame_111 rfl rfl h34
              · refine z_case (fun hc36 => ?_) (fun hc36 => ?_)
                · refine z_tsIn dX1_statementCame_1 (cst := 109) hc36 (by decide) (by decide) rfl (tgt := 106) rfl ?_
                  refine z_aload_n dX1_statementCame_106 0 rfl ?_
                  refine z_aload_n dX1_statementCame_107 1 rfl ?_
                  refine z_callV4 dX1_statementCame_108 rfl (ct_X1_cupsCame n m) zc_X1 lx_40 k_429 k_431 kp_17 k_5 k_432 zn_X1_cupsCame ⟨rfl, rfl, Nat.le_of_ble_eq_true rfl, Nat.le_of_ble_eq_true rfl⟩ (Nat.le_of_ble_eq_true rfl) rfl (fun v37 m38 h39 ho40 => ?_)
                  exact z_zret dX1_statementCame_111 rfl rfl h39
                · refine z_case (fun hc41 => ?_) (fun hc41 => ?_)
                  · refine z_tsIn dX1_statementCame_1 (cst := 110) hc41 (by decide) (by decide) rfl (tgt := 106) rfl ?_
                    refine z_aload_n dX1_statementCame_106 0 rfl ?_
                    refine z_aload_n dX1_statementCame_107 1 rfl ?_
                    refine z_callV4 dX1_statementCame_108 rfl (ct_X1_cupsCame n m) zc_X1 lx_40 k_429 k_431 kp_17 k_5 k_432 zn_X1_cupsCame ⟨rfl, rfl, Nat.le_of_ble_eq_true rfl, Nat.le_of_ble_eq_true rfl⟩ (Nat.le_of_ble_eq_true rfl) rfl (fun v42 m43 h44 ho45 => ?_)
                    exact z_zret dX1_statementCame_111 rfl rfl h44
                  · refine z_case (fun hc46 => ?_) (fun hc46 => ?_)
                    · refine z_tsIn dX1_statementCame_1 (cst := 111) hc46 (by decide) (by decide) rfl (tgt := 106) rfl ?_
                      refine z_aload_n dX1_statementCame_106 0 rfl ?_
                      refine z_aload_n dX1_statementCame_107 1 rfl ?_
                      refine z_callV4 dX1_statementCame_108 rfl (ct_X1_cupsCame n m) zc_X1 lx_40 k_429 k_431 kp_17 k_5 k_432 zn_X1_cupsCame ⟨rfl, rfl, Nat.le_of_ble_eq_true rfl, Nat.le_of_ble_eq_true rfl⟩ (Nat.le_of_ble_eq_true rfl) rfl (fun v47 m48 h49 ho50 => ?_)
                      exact z_zret dX1_statementCame_111 rfl rfl h49
                    · refine z_case (fun hc51 => ?_) (fun hc51 => ?_)
                      · refine z_tsIn dX1_statementCame_1 (cst := 112) hc51 (by decide) (by decide) rfl (tgt := 82) rfl ?_
                        refine z_aload_n dX1_statementCame_82 0 rfl ?_
                        refine z_aload_n dX1_statementCame_83 1 rfl ?_
                        refine z_callV4 dX1_statementCame_84 rfl (ct_X1_partCame n m) zc_X1 lx_40 k_401 k_403 kp_12 k_5 k_404 zn_X1_partCame ⟨rfl, rfl, Nat.le_of_ble_eq_true rfl, Nat.le_of_ble_eq_true rfl⟩ (Nat.le_of_ble_eq_true rfl) rfl (fun v52 m53 h54 ho55 => ?_)
                        exact z_zret dX1_statementCame_87 rfl rfl h54
                      · refine z_case (fun hc56 => ?_) (fun hc56 => ?_)
                        · refine z_tsIn dX1_statementCame_1 (cst := 113) hc56 (by decide) (by decide) rfl (tgt := 106) rfl ?_
                          refine z_aload_n dX1_statementCame_106 0 rfl ?_
                          refine z_aload_n dX1_statementCame_107 1 rfl ?_
                          refine z_callV4 dX1_statementCame_108 rfl (ct_X1_cupsCame n m) zc_X1 lx_40 k_429 k_431 kp_17 k_5 k_432 zn_X1_cupsCame ⟨rfl, rfl, Nat.le_of_ble_eq_true rfl, Nat.le_of_ble_eq_true rfl⟩ (Nat.le_of_ble_eq_true rfl) rfl (fun v57 m58 h59 ho60 => ?_)
                          exact z_zret dX1_statementCame_111 rfl rfl h59
                        · refine z_case (fun hc61 => ?_) (fun hc61 => ?_)
                          · refine z_tsIn dX1_statementCame_1 (cst := 114) hc61 (by decide) (by decide) rfl (tgt := 106) rfl ?_
                            refine z_aload_n dX1_statementCame_106 0 rfl ?_
                            refine z_aload_n dX1_statementCame_107 1 rfl ?_
                            refine z_callV4 dX1_statementCame_108 rfl (ct_X1_cupsCame n m) zc_X1 lx_40 k_429 k_431 kp_17 k_5 k_432 zn_X1_cupsCame ⟨rfl, rfl, Nat.le_of_ble_eq_true rfl, Nat.le_of_ble_eq_true rfl⟩ (Nat.le_of_ble_eq_true rfl) rfl (fun v62 m63 h64 ho65 => ?_)
                            exact z_zret dX1_statementCame_111 rfl rfl h64
                          · refine z_case (fun hc66 => ?_) (fun hc66 => ?_)
                            · refine z_tsIn dX1_statementCame_1 (cst := 115) hc66 (by decide) (by decide) rfl (tgt := 100) rfl ?_
                              refine z_aload_n dX1_statementCame_100 0 rfl ?_
                              refine z_aload_n dX1_statementCame_101 1 rfl ?_
                              refine z_callV4 dX1_statementCame_102 rfl (ct_X1_standInCame n m) zc_X1 lx_40 k_422 k_424 kp_16 k_5 k_425 zn_X1_standInCame ⟨rfl, rfl, Nat.le_of_ble_eq_true rfl, Nat.le_of_ble_eq_true rfl⟩ (Nat.le_of_ble_eq_true rfl) rfl (fun v67 m68 h69 ho70 => ?_)
                              exact z_zret dX1_statementCame_105 rfl rfl h69
                            · refine z_case (fun hc71 => ?_) (fun hc71 => ?_)
                              · refine z_tsIn dX1_statementCame_1 (cst := 116) hc71 (by decide) (by decide) rfl (tgt := 94) rfl ?_
                                refine z_aload_n dX1_statementCame_94 0 rfl ?_
                                refine z_aload_n dX1_statementCame_95 1 rfl ?_
                                refine z_callV4 dX1_statementCame_96 rfl (ct_X1_tinCame n m) zc_X1 lx_40 k_418 k_420 kp_15 k_5 k_421 zn_X1_tinCame ⟨rfl, rfl, Nat.le_of_ble_eq_true rfl, Nat.le_of_ble_eq_true rfl⟩ (Nat.le_of_ble_eq_true rfl) rfl (fun v72 m73 h74 ho75 => ?_)
                                exact z_zret dX1_statementCame_99 rfl rfl h74
                              · refine z_tsOut dX1_statementCame_1 ha0 (by omega) (tgt := 106) rfl ?_
                                refine z_aload_n dX1_statementCame_106 0 rfl ?_
                                refine z_aload_n dX1_statementCame_107 1 rfl ?_
                                refine z_callV4 dX1_statementCame_108 rfl (ct_X1_cupsCame n m) zc_X1 lx_40 k_429 k_431 kp_17 k_5 k_432 zn_X1_cupsCame ⟨rfl, rfl, Nat.le_of_ble_eq_true rfl, Nat.le_of_ble_eq_true rfl⟩ (Nat.le_of_ble_eq_true rfl) rfl (fun v76 m77 h78 ho79 => ?_)
                                exact z_zret dX1_statementCame_111 rfl rfl h78
set_option maxRecDepth 20000 in
theorem T_X1_statementsTo_9 {ad sc sv : Nat → Nat} (n : Nat) (r9 : Int → Int → ZMem → ZR) (hr9 : ∀ (x2 : Int) (x3 : Int) (m : ZMem), R32 x2 → R32 x3 → zG LX ad sc sv M_X1_statementsTo 9 [(0, .ref (ad 40)), (1, .ref (ad 27)), (2, .int (mI x2)), (3, .int (mI x3))] [] m (r9 x2 x3 m)) : ∀ (x2 : Int) (x3 : Int) (m : ZMem), R32 x2 → R32 x3 → zG LX ad sc sv M_X1_statementsTo 9 [(0, .ref (ad 40)), (1, .ref (ad 27)), (2, .int (mI x2)), (3, .int (mI x3))] [] m (B_X1_statementsTo_9 n r9 x2 x3 m) := by
  intro x2 x3 m hx2 hx3
  unfold B_X1_statementsTo_9
  refine z_iload_n dX1_statementsTo_9 3 rfl ?_
  refine z_aload_n dX1_statementsTo_10 0 rfl ?_
  refine z_getR dX1_statementsTo_11 (k := 0) (j := 41) zc_X1 lx_40 rfl (by decide) k_131 ?_
  refine z_callV1 dX1_statementsTo_14 rfl (ct_X9_size n 41 zt_41 m) zc_X9 lx_41 k_299 k_276 k_277 k_3 k_278 zn_X9_size ⟨rfl, rfl, Nat.le_of_ble_eq_true rfl, Nat.le_of_ble_eq_true rfl⟩ (Nat.le_of_ble_eq_true rfl) rfl (fun v1 m2 h3 ho4 => ?_)
  refine z_icmp_ge dX1_statementsTo_17 hx3 h3 (tgt := 81) rfl (fun h5 => ?_) (fun h5 => ?_)
  · refine z_iload_n dX1_statementsTo_81 2 rfl ?_
    exact z_iret dX1_statementsTo_82 rfl rfl hx2
  · refine z_aload_n dX1_statementsTo_20 0 rfl ?_
    refine z_getI dX1_statementsTo_21 (k := 2) zc_X1 lx_40 rfl (by decide) k_133 (fun h6 => ?_)
    refine z_aload_n dX1_statementsTo_24 0 rfl ?_
    refine z_getR dX1_statementsTo_25 (k := 0) (j := 41) zc_X1 lx_40 rfl (by decide) k_131 ?_
    refine z_callV1 dX1_statementsTo_28 rfl (ct_X9_size n 41 zt_41 m2) zc_X9 lx_41 k_299 k_276 k_277 k_3 k_278 zn_X9_size ⟨rfl, rfl, Nat.le_of_ble_eq_true rfl, Nat.le_of_ble_eq_true rfl⟩ (Nat.le_of_ble_eq_true rfl) rfl (fun v7 m8 h9 ho10 => ?_)
    refine z_icmp_ge dX1_statementsTo_31 h6 h9 (tgt := 81) rfl (fun h11 => ?_) (fun h11 => ?_)
    · refine z_iload_n dX1_statementsTo_81 2 rfl ?_
      exact z_iret dX1_statementsTo_82 rfl rfl hx2
    · refine z_aload_n dX1_statementsTo_34 0 rfl ?_
      refine z_getI dX1_statementsTo_35 (k := 2) zc_X1 lx_40 rfl (by decide) k_133 (fun h12 => ?_)
      refine z_istore dX1_statementsTo_38 (lv' := [(4, .int (mI (m8 40 2))), (0, .ref (ad 40)), (1, .ref (ad 27)), (2, .int (mI x2)), (3, .int (mI x3))]) (by decide) rfl ?_
      refine z_aload_n dX1_statementsTo_40 1 rfl ?_
      refine z_callV4 dX1_statementsTo_41 rfl (ct_X1_statementRead n m8) zc_X1 lx_40 k_300 k_302 kp_3 k_5 k_303 zn_X1_statementRead ⟨rfl, rfl, Nat.le_of_ble_eq_true rfl, Nat.le_of_ble_eq_true rfl⟩ (Nat.le_of_ble_eq_true rfl) rfl (fun v13 m14 h15 ho16 => ?_)
      refine z_if_eq dX1_statementsTo_44 (zb01 h15) (tgt := 65) rfl (fun h17 => ?_) (fun h17 => ?_)
      · refine z_sipush dX1_statementsTo_65 (x := (-2000)) (by decide +kernel) ?_
        refine z_iload dX1_statementsTo_68 0 rfl ?_
        refine z_isub dX1_statementsTo_70 (fun h18 => ?_)
        exact z_iret dX1_statementsTo_71 rfl rfl h18
      · refine z_aload_n dX1_statementsTo_47 1 rfl ?_
        refine z_aload_n dX1_statementsTo_48 2 rfl ?_
        refine z_aload_n dX1_statementsTo_49 1 rfl ?_
        refine z_getR dX1_statementsTo_50 (k := 0) (j := 41) zc_X1 lx_40 rfl (by decide) k_131 ?_
        refine z_iload dX1_statementsTo_53 0 rfl ?_
        refine z_iconst dX1_statementsTo_55 ?_
        refine z_callV1 dX1_statementsTo_56 rfl (ct_X9_at n 41 zt_41 (m8 40 2) 0 m14 h12 (by decide)) zc_X9 lx_41 k_305 k_264 k_265 k_3 k_266 zn_X9_at ⟨rfl, rfl, Nat.le_of_ble_eq_true rfl, Nat.le_of_ble_eq_true rfl⟩ (Nat.le_of_ble_eq_true rfl) rfl (fun v19 m20 h21 ho22 => ?_)
        refine z_callV4 dX1_statementsTo_59 rfl (ct_X1_statementCame n v19 m20 h21) zc_X1 lx_40 k_385 k_387 kp_8 k_5 k_388 zn_X1_statementCame ⟨rfl, rfl, Nat.le_of_ble_eq_true rfl, Nat.le_of_ble_eq_true rfl⟩ (Nat.le_of_ble_eq_true rfl) rfl (fun v23 m24 h25 ho26 => ?_)
        refine z_if_ne dX1_statementsTo_62 (zb01 h25) (tgt := 72) rfl (fun h27 => ?_) (fun h27 => ?_)
        · refine z_sipush dX1_statementsTo_65 (x := (-2000)) (by decide +kernel) ?_
          refine z_iload dX1_statementsTo_68 0 rfl ?_
          refine z_isub dX1_statementsTo_70 (fun h28 => ?_)
          exact z_iret dX1_statementsTo_71 rfl rfl h28
        · refine z_iinc dX1_statementsTo_72 (lv' := [(2, .int (mI (x2 + 1))), (4, .int (mI (m8 40 2))), (0, .ref (ad 40)), (1, .ref (ad 27)), (3, .int (mI x3))]) 3 rfl (by decide) rfl (fun h29 => ?_)
          refine z_iinc dX1_statementsTo_75 (lv' := [(3, .int (mI (x3 + 1))), (2, .int (mI (x2 + 1))), (4, .int (mI (m8 40 2))), (0, .ref (ad 40)), (1, .ref (ad 27))]) 4 rfl (by decide) rfl (fun h30 => ?_)
          refine z_goto dX1_statementsTo_78 (tgt := 9) rfl ?_
          exact zG_lvk (hr9 (x2 + 1) (x3 + 1) m24 h29 h30) [3, 4, 1, 0] rfl
theorem TL_X1_statementsTo_9 {ad sc sv : Nat → Nat} (n : Nat) : ∀ q : Nat, ∀ (x2 : Int) (x3 : Int) (m : ZMem), R32 x2 → R32 x3 → zG LX ad sc sv M_X1_statementsTo 9 [(0, .ref (ad 40)), (1, .ref (ad 27)), (2, .int (mI x2)), (3, .int (mI x3))] [] m (L_X1_statementsTo_9 n q x2 x3 m) := by
  intro q
  induction q with
  | zero => intros; exact zG_none
  | succ q ih => exact T_X1_statementsTo_9 n (L_X1_statementsTo_9 n q) ih
set_option maxRecDepth 20000 in
theorem ct_X1_statementsTo {ad sc sv : Nat → Nat} (n : Nat) (m : ZMem) : zCT LX ad sc sv M_X1_statementsTo yX1_statementsTo [.ref (ad 40), .ref (ad 27)] m (F_X1_statementsTo n m) := by
  refine zCT_of (lv := [(0, .ref (ad 40)), (1, .ref (ad 27))]) (by decide) rfl (Nat.le_of_ble_eq_true rfl) rfl ?_
  unfold F_X1_statementsTo
  refine z_iconst dX1_statementsTo_0 ?_
  refine z_istore_n dX1_statementsTo_1 (lv' := [(2, .int (mI 0)), (0, .ref (ad 40)), (1, .ref (ad 27))]) (by decide) rfl ?_
  refine z_aload_n dX1_statementsTo_2 1 rfl ?_
  refine z_iconst dX1_statementsTo_3 ?_
  refine z_putI dX1_statementsTo_4 (k := 2) zc_X1 lx_40 rfl (by decide) rfl rfl (by decide) k_133 ?_
  refine z_iconst dX1_statementsTo_7 ?_
  refine z_istore_n dX1_statementsTo_8 (lv' := [(3, .int (mI 0)), (2, .int (mI 0)), (0, .ref (ad 40)), (1, .ref (ad 27))]) (by decide) rfl ?_
  exact zG_lvk (TL_X1_statementsTo_9 n n 0 0 (wr m 40 2 0) (by decide) (by decide)) [2, 3, 1, 0] rfl
set_option maxRecDepth 20000 in
theorem ct_X1_tellTo {ad sc sv : Nat → Nat} (n : Nat) (m : ZMem) : zCT LX ad sc sv M_X1_tellTo yX1_tellTo [.ref (ad 40), .ref (ad 27)] m (F_X1_tellTo n m) := by
  refine zCT_of (lv := [(0, .ref (ad 40)), (1, .ref (ad 27))]) (by decide) rfl (Nat.le_of_ble_eq_true rfl) rfl ?_
  unfold F_X1_tellTo
  refine z_aload_n dX1_tellTo_0 0 rfl ?_
  refine z_callV4 dX1_tellTo_1 rfl (ct_X1_hasForm n m) zc_X1 lx_40 k_295 k_297 kp_2 k_5 k_298 zn_X1_hasForm ⟨rfl, rfl, Nat.le_of_ble_eq_true rfl, Nat.le_of_ble_eq_true rfl⟩ (Nat.le_of_ble_eq_true rfl) rfl (fun v1 m2 h3 ho4 => ?_)
  refine z_if_eq dX1_tellTo_4 (zb01 h3) (tgt := 15) rfl (fun h5 => ?_) (fun h5 => ?_)
  · refine z_sipush dX1_tellTo_15 (x := (-1000)) (by decide +kernel) ?_
    refine z_aload_n dX1_tellTo_18 0 rfl ?_
    refine z_getI dX1_tellTo_19 (k := 2) zc_X1 lx_40 rfl (by decide) k_133 (fun h6 => ?_)
    refine z_isub dX1_tellTo_22 (fun h7 => ?_)
    refine z_istore_n dX1_tellTo_23 (lv' := [(2, .int (mI ((-1000) - (m2 40 2)))), (0, .ref (ad 40)), (1, .ref (ad 27))]) (by decide) rfl ?_
    refine z_aload_n dX1_tellTo_24 1 rfl ?_
    refine z_getR dX1_tellTo_25 (k := 0) (j := 41) zc_X1 lx_40 rfl (by decide) k_131 ?_
    refine z_iconst dX1_tellTo_28 ?_
    refine z_iconst dX1_tellTo_29 ?_
    refine z_callV0 dX1_tellTo_30 rfl (ct_X9_reset n 41 zt_41 0 0 m2 (by decide) (by decide)) zc_X9 lx_41 k_304 k_58 k_59 k_3 k_60 zn_X9_reset ⟨rfl, rfl, Nat.le_of_ble_eq_true rfl, Nat.le_of_ble_eq_true rfl⟩ (Nat.le_of_ble_eq_true rfl) rfl (fun v8 m9 ho11 => ?_)
    refine z_iload_n dX1_tellTo_33 0 rfl ?_
    exact z_iret dX1_tellTo_34 rfl rfl h7
  · refine z_aload_n dX1_tellTo_7 0 rfl ?_
    refine z_aload_n dX1_tellTo_8 1 rfl ?_
    refine z_callV1 dX1_tellTo_9 rfl (ct_X1_statementsTo n m2) zc_X1 lx_40 k_381 k_383 kp_7 k_5 k_384 zn_X1_statementsTo ⟨rfl, rfl, Nat.le_of_ble_eq_true rfl, Nat.le_of_ble_eq_true rfl⟩ (Nat.le_of_ble_eq_true rfl) rfl (fun v12 m13 h14 ho15 => ?_)
    refine z_goto dX1_tellTo_12 (tgt := 23) rfl ?_
    refine z_istore_n dX1_tellTo_23 (lv' := [(2, .int (mI v12)), (0, .ref (ad 40)), (1, .ref (ad 27))]) (by decide) rfl ?_
    refine z_aload_n dX1_tellTo_24 1 rfl ?_
    refine z_getR dX1_tellTo_25 (k := 0) (j := 41) zc_X1 lx_40 rfl (by decide) k_131 ?_
    refine z_iconst dX1_tellTo_28 ?_
    refine z_iconst dX1_tellTo_29 ?_
    refine z_callV0 dX1_tellTo_30 rfl (ct_X9_reset n 41 zt_41 0 0 m13 (by decide) (by decide)) zc_X9 lx_41 k_304 k_58 k_59 k_3 k_60 zn_X9_reset ⟨rfl, rfl, Nat.le_of_ble_eq_true rfl, Nat.le_of_ble_eq_true rfl⟩ (Nat.le_of_ble_eq_true rfl) rfl (fun v16 m17 ho19 => ?_)
    refine z_iload_n dX1_tellTo_33 0 rfl ?_
    exact z_iret dX1_tellTo_34 rfl rfl h14
set_option maxRecDepth 20000 in
theorem ct_X8_nearest {ad sc sv : Nat → Nat} (n : Nat) (a0 : Int) (a1 : Int) (m : ZMem) (ha0 : R32 a0) (ha1 : R32 a1) : zCT LX ad sc sv M_X8_nearest yX8_nearest [.int (mI a0), .int (mI a1)] m (F_X8_nearest n a0 a1 m) := by
  refine zCT_of (lv := [(0, .int (mI a0)), (1, .int (mI a1))]) (by decide) rfl (Nat.le_of_ble_eq_true rfl) rfl ?_
  unfold F_X8_nearest
  refine z_iload_n dX8_nearest_0 1 rfl ?_
  refine z_iconst dX8_nearest_1 ?_
  refine z_icmp_ge dX8_nearest_2 ha1 (by decide) (tgt := 7) rfl (fun h1 => ?_) (fun h1 => ?_)
  · refine z_iload_n dX8_nearest_7 0 rfl ?_
    refine z_iload_n dX8_nearest_8 1 rfl ?_
    refine z_idiv dX8_nearest_9 ha0 ha1 (fun h2 => ?_)
    refine z_istore_n dX8_nearest_10 (lv' := [(2, .int (mI (a0 / a1))), (0, .int (mI a0)), (1, .int (mI a1))]) (by decide) rfl ?_
    refine z_iconst dX8_nearest_11 ?_
    refine z_iload_n dX8_nearest_12 1 rfl ?_
    refine z_iload_n dX8_nearest_13 2 rfl ?_
    refine z_irem dX8_nearest_14 ha0 ha1 (fun h3 => ?_)
    refine z_imul dX8_nearest_15 (fun h4 => ?_)
    refine z_iload_n dX8_nearest_16 2 rfl ?_
    refine z_icmp_le dX8_nearest_17 h4 ha1 (tgt := 26) rfl (fun h5 => ?_) (fun h5 => ?_)
    · refine z_iload_n dX8_nearest_26 0 rfl ?_
      exact z_iret dX8_nearest_27 rfl rfl h2
    · refine z_iload_n dX8_nearest_20 0 rfl ?_
      refine z_iconst dX8_nearest_21 ?_
      refine z_iadd dX8_nearest_22 (fun h6 => ?_)
      refine z_goto dX8_nearest_23 (tgt := 27) rfl ?_
      exact z_iret dX8_nearest_27 rfl rfl h6
  · refine z_iconst dX8_nearest_5 ?_
    exact z_iret dX8_nearest_6 rfl rfl (by decide)
set_option maxRecDepth 20000 in
theorem ct_X8_roundedUp {ad sc sv : Nat → Nat} (n : Nat) (a0 : Int) (a1 : Int) (m : ZMem) (ha0 : R32 a0) (ha1 : R32 a1) : zCT LX ad sc sv M_X8_roundedUp yX8_roundedUp [.int (mI a0), .int (mI a1)] m (F_X8_roundedUp n a0 a1 m) := by
  refine zCT_of (lv := [(0, .int (mI a0)), (1, .int (mI a1))]) (by decide) rfl (Nat.le_of_ble_eq_true rfl) rfl ?_
  unfold F_X8_roundedUp
  refine z_iload_n dX8_roundedUp_0 0 rfl ?_
  refine z_iconst dX8_roundedUp_1 ?_
  refine z_icmp_lt dX8_roundedUp_2 ha0 (by decide) (tgt := 10) rfl (fun h1 => ?_) (fun h1 => ?_)
  · refine z_iconst dX8_roundedUp_10 ?_
    refine z_goto dX8_roundedUp_11 (tgt := 21) rfl ?_
    exact z_iret dX8_roundedUp_21 rfl rfl (by decide)
  · refine z_iload_n dX8_roundedUp_5 1 rfl ?_
    refine z_iconst dX8_roundedUp_6 ?_
    refine z_icmp_ge dX8_roundedUp_7 ha1 (by decide) (tgt := 14) rfl (fun h2 => ?_) (fun h2 => ?_)
    · refine z_iload_n dX8_roundedUp_14 0 rfl ?_
      refine z_iload_n dX8_roundedUp_15 1 rfl ?_
      refine z_iadd dX8_roundedUp_16 (fun h3 => ?_)
      refine z_iconst dX8_roundedUp_17 ?_
      refine z_isub dX8_roundedUp_18 (fun h4 => ?_)
      refine z_iload_n dX8_roundedUp_19 1 rfl ?_
      refine z_idiv dX8_roundedUp_20 h4 ha1 (fun h5 => ?_)
      exact z_iret dX8_roundedUp_21 rfl rfl h5
    · refine z_iconst dX8_roundedUp_10 ?_
      refine z_goto dX8_roundedUp_11 (tgt := 21) rfl ?_
      exact z_iret dX8_roundedUp_21 rfl rfl (by decide)
set_option maxRecDepth 20000 in
theorem ct_X3_taken {ad sc sv : Nat → Nat} (n : Nat) (a0 : Int) (a1 : Int) (a2 : Int) (m : ZMem) (ha0 : R32 a0) (ha1 : R32 a1) (ha2 : R32 a2) : zCT LX ad sc sv M_X3_taken yX3_taken [.ref (ad 1), .int (mI a0), .int (mI a1), .int (mI a2)] m (F_X3_taken n a0 a1 a2 m) := by
  refine zCT_of (lv := [(0, .ref (ad 1)), (1, .int (mI a0)), (2, .int (mI a1)), (3, .int (mI a2))]) (by decide) rfl (Nat.le_of_ble_eq_true rfl) rfl ?_
  unfold F_X3_taken
  refine z_aload_n dX3_taken_0 0 rfl ?_
  refine z_getR dX3_taken_1 (k := 4) (j := 2) zc_X3 lx_1 rfl (by decide) k_80 ?_
  refine z_iload_n dX3_taken_4 1 rfl ?_
  refine z_iconst dX3_taken_5 ?_
  refine z_callV1 dX3_taken_6 rfl (ct_X9_at n 2 zt_2 a0 1 m ha0 (by decide)) zc_X9 lx_2 k_457 k_264 k_265 k_3 k_266 zn_X9_at ⟨rfl, rfl, Nat.le_of_ble_eq_true rfl, Nat.le_of_ble_eq_true rfl⟩ (Nat.le_of_ble_eq_true rfl) rfl (fun v1 m2 h3 ho4 => ?_)
  refine z_istore dX3_taken_9 (lv' := [(4, .int (mI v1)), (0, .ref (ad 1)), (1, .int (mI a0)), (2, .int (mI a1)), (3, .int (mI a2))]) (by decide) rfl ?_
  refine z_aload_n dX3_taken_11 1 rfl ?_
  refine z_getR dX3_taken_12 (k := 4) (j := 2) zc_X3 lx_1 rfl (by decide) k_80 ?_
  refine z_iload_n dX3_taken_15 2 rfl ?_
  refine z_iconst dX3_taken_16 ?_
  refine z_callV1 dX3_taken_17 rfl (ct_X9_at n 2 zt_2 a0 3 m2 ha0 (by decide)) zc_X9 lx_2 k_457 k_264 k_265 k_3 k_266 zn_X9_at ⟨rfl, rfl, Nat.le_of_ble_eq_true rfl, Nat.le_of_ble_eq_true rfl⟩ (Nat.le_of_ble_eq_true rfl) rfl (fun v5 m6 h7 ho8 => ?_)
  refine z_iload_n dX3_taken_20 3 rfl ?_
  refine z_imul dX3_taken_21 (fun h9 => ?_)
  refine z_istore dX3_taken_22 (lv' := [(5, .int (mI (v5 * a1))), (4, .int (mI v1)), (0, .ref (ad 1)), (1, .int (mI a0)), (2, .int (mI a1)), (3, .int (mI a2))]) (by decide) rfl ?_
  refine z_bipush dX3_taken_24 (x := 12) (by decide +kernel) ?_
  refine z_iconst dX3_taken_26 ?_
  refine z_iload dX3_taken_27 0 rfl ?_
  refine z_iload_n dX3_taken_29 5 rfl ?_
  refine z_callS1 dX3_taken_30 rfl (ct_X8_nearest n (v5 * a1) a2 m6 h9 ha2) k_458 k_459 k_15 k_460 zn_X8_nearest ⟨rfl, rfl, Nat.le_of_ble_eq_true rfl, Nat.le_of_ble_eq_true rfl⟩ (Nat.le_of_ble_eq_true rfl) rfl (fun v10 m11 h12 ho13 => ?_)
  refine z_mmax dX3_taken_33 (by decide) h12 k_461 k_41 k_4 k_42 (Nat.le_of_ble_eq_true rfl) (Nat.le_of_ble_eq_true rfl) (fun h14 => ?_)
  refine z_imul dX3_taken_36 (fun h15 => ?_)
  refine z_istore dX3_taken_37 (lv' := [(6, .int (mI (12 * (max 1 v10)))), (5, .int (mI (v5 * a1))), (4, .int (mI v1)), (0, .ref (ad 1)), (1, .int (mI a0)), (2, .int (mI a1)), (3, .int (mI a2))]) (by decide) rfl ?_
  refine z_bipush dX3_taken_39 (x := 12) (by decide +kernel) ?_
  refine z_iload dX3_taken_41 1 rfl ?_
  refine z_imul dX3_taken_43 (fun h16 => ?_)
  refine z_iload_n dX3_taken_44 6 rfl ?_
  refine z_callS1 dX3_taken_45 rfl (ct_X8_nearest n (12 * (v5 * a1)) a2 m11 h16 ha2) k_458 k_459 k_15 k_460 zn_X8_nearest ⟨rfl, rfl, Nat.le_of_ble_eq_true rfl, Nat.le_of_ble_eq_true rfl⟩ (Nat.le_of_ble_eq_true rfl) rfl (fun v17 m18 h19 ho20 => ?_)
  refine z_istore dX3_taken_48 (lv' := [(7, .int (mI v17)), (6, .int (mI (12 * (max 1 v10)))), (5, .int (mI (v5 * a1))), (4, .int (mI v1)), (0, .ref (ad 1)), (1, .int (mI a0)), (2, .int (mI a1)), (3, .int (mI a2))]) (by decide) rfl ?_
  refine z_aload_n dX3_taken_50 4 rfl ?_
  refine z_getR dX3_taken_51 (k := 4) (j := 2) zc_X3 lx_1 rfl (by decide) k_80 ?_
  refine z_iload_n dX3_taken_54 5 rfl ?_
  refine z_iconst dX3_taken_55 ?_
  refine z_callV1 dX3_taken_56 rfl (ct_X9_at n 2 zt_2 a0 0 m18 ha0 (by decide)) zc_X9 lx_2 k_457 k_264 k_265 k_3 k_266 zn_X9_at ⟨rfl, rfl, Nat.le_of_ble_eq_true rfl, Nat.le_of_ble_eq_true rfl⟩ (Nat.le_of_ble_eq_true rfl) rfl (fun v21 m22 h23 ho24 => ?_)
  refine z_case (fun hc25 => ?_) (fun hc25 => ?_)
  · refine z_tsIn dX3_taken_59 (cst := 1) hc25 (by decide) (by decide) rfl (tgt := 92) rfl ?_
    refine z_iload dX3_taken_92 1 rfl ?_
    exact z_iret dX3_taken_94 rfl rfl h15
  · refine z_case (fun hc26 => ?_) (fun hc26 => ?_)
    · refine z_tsIn dX3_taken_59 (cst := 2) hc26 (by decide) (by decide) rfl (tgt := 95) rfl ?_
      refine z_iload dX3_taken_95 3 rfl ?_
      refine z_bipush dX3_taken_97 (x := 12) (by decide +kernel) ?_
      refine z_iload dX3_taken_99 2 rfl ?_
      refine z_imul dX3_taken_101 (fun h27 => ?_)
      refine z_iload dX3_taken_102 3 rfl ?_
      refine z_iload_n dX3_taken_104 7 rfl ?_
      refine z_imul dX3_taken_105 (fun h28 => ?_)
      refine z_callS1 dX3_taken_106 rfl (ct_X8_nearest n (12 * (v5 * a1)) (v1 * a2) m22 h27 h28) k_458 k_459 k_15 k_460 zn_X8_nearest ⟨rfl, rfl, Nat.le_of_ble_eq_true rfl, Nat.le_of_ble_eq_true rfl⟩ (Nat.le_of_ble_eq_true rfl) rfl (fun v29 m30 h31 ho32 => ?_)
      refine z_imul dX3_taken_109 (fun h33 => ?_)
      exact z_iret dX3_taken_110 rfl rfl h33
    · refine z_case (fun hc34 => ?_) (fun hc34 => ?_)
      · refine z_tsIn dX3_taken_59 (cst := 3) hc34 (by decide) (by decide) rfl (tgt := 111) rfl ?_
        refine z_bipush dX3_taken_111 (x := 12) (by decide +kernel) ?_
        refine z_iload dX3_taken_113 3 rfl ?_
        refine z_imul dX3_taken_115 (fun h35 => ?_)
        refine z_iload dX3_taken_116 2 rfl ?_
        refine z_iload dX3_taken_118 3 rfl ?_
        refine z_iload_n dX3_taken_120 7 rfl ?_
        refine z_imul dX3_taken_121 (fun h36 => ?_)
        refine z_callS1 dX3_taken_122 rfl (ct_X8_roundedUp n (v5 * a1) (v1 * a2) m22 h9 h36) k_462 k_463 k_15 k_464 zn_X8_roundedUp ⟨rfl, rfl, Nat.le_of_ble_eq_true rfl, Nat.le_of_ble_eq_true rfl⟩ (Nat.le_of_ble_eq_true rfl) rfl (fun v37 m38 h39 ho40 => ?_)
        refine z_imul dX3_taken_125 (fun h41 => ?_)
        exact z_iret dX3_taken_126 rfl rfl h41
      · refine z_case (fun hc42 => ?_) (fun hc42 => ?_)
        · refine z_tsIn dX3_taken_59 (cst := 4) hc42 (by decide) (by decide) rfl (tgt := 127) rfl ?_
          refine z_bipush dX3_taken_127 (x := 12) (by decide +kernel) ?_
          refine z_aload_n dX3_taken_129 4 rfl ?_
          refine z_getR dX3_taken_130 (k := 4) (j := 2) zc_X3 lx_1 rfl (by decide) k_80 ?_
          refine z_iload_n dX3_taken_133 5 rfl ?_
          refine z_iconst dX3_taken_134 ?_
          refine z_callV1 dX3_taken_135 rfl (ct_X9_at n 2 zt_2 a0 3 m22 ha0 (by decide)) zc_X9 lx_2 k_457 k_264 k_265 k_3 k_266 zn_X9_at ⟨rfl, rfl, Nat.le_of_ble_eq_true rfl, Nat.le_of_ble_eq_true rfl⟩ (Nat.le_of_ble_eq_true rfl) rfl (fun v43 m44 h45 ho46 => ?_)
          refine z_imul dX3_taken_138 (fun h47 => ?_)
          exact z_iret dX3_taken_139 rfl rfl h47
        · refine z_case (fun hc48 => ?_) (fun hc48 => ?_)
          · refine z_tsIn dX3_taken_59 (cst := 5) hc48 (by decide) (by decide) rfl (tgt := 140) rfl ?_
            refine z_iload dX3_taken_140 1 rfl ?_
            refine z_iload_n dX3_taken_142 7 rfl ?_
            refine z_imul dX3_taken_143 (fun h49 => ?_)
            refine z_bipush dX3_taken_144 (x := 12) (by decide +kernel) ?_
            refine z_iload dX3_taken_146 2 rfl ?_
            refine z_imul dX3_taken_148 (fun h50 => ?_)
            refine z_isub dX3_taken_149 (fun h51 => ?_)
            refine z_mabs dX3_taken_150 h51 k_465 k_466 k_4 k_467 (Nat.le_of_ble_eq_true rfl) (Nat.le_of_ble_eq_true rfl) (fun h52 => ?_)
            refine z_iload dX3_taken_153 3 rfl ?_
            refine z_iload_n dX3_taken_155 7 rfl ?_
            refine z_imul dX3_taken_156 (fun h53 => ?_)
            refine z_icmp_gt dX3_taken_157 h52 h53 (tgt := 165) rfl (fun h54 => ?_) (fun h54 => ?_)
            · refine z_iload dX3_taken_165 0 rfl ?_
              exact z_iret dX3_taken_167 rfl rfl h19
            · refine z_iload dX3_taken_160 1 rfl ?_
              refine z_goto dX3_taken_162 (tgt := 167) rfl ?_
              exact z_iret dX3_taken_167 rfl rfl h15
          · refine z_tsOut dX3_taken_59 h23 (by omega) (tgt := 168) rfl ?_
            refine z_iload dX3_taken_168 0 rfl ?_
            exact z_iret dX3_taken_170 rfl rfl h19
set_option maxRecDepth 20000 in
theorem ct_X3_takenFor {ad sc sv : Nat → Nat} (n : Nat) (a0 : Int) (a1 : Int) (m : ZMem) (ha0 : R32 a0) (ha1 : R32 a1) : zCT LX ad sc sv M_X3_takenFor yX3_takenFor [.ref (ad 1), .int (mI a0), .int (mI a1)] m (F_X3_takenFor n a0 a1 m) := by
  refine zCT_of (lv := [(0, .ref (ad 1)), (1, .int (mI a0)), (2, .int (mI a1))]) (by decide) rfl (Nat.le_of_ble_eq_true rfl) rfl ?_
  unfold F_X3_takenFor
  refine z_aload_n dX3_takenFor_0 0 rfl ?_
  refine z_iload_n dX3_takenFor_1 1 rfl ?_
  refine z_iload_n dX3_takenFor_2 2 rfl ?_
  refine z_aload_n dX3_takenFor_3 0 rfl ?_
  refine z_getI dX3_takenFor_4 (k := 0) zc_X3 lx_1 rfl (by decide) k_64 (fun h1 => ?_)
  refine z_callV1 dX3_takenFor_7 rfl (ct_X3_taken n a0 a1 (m 1 0) m ha0 ha1 h1) zc_X3 lx_1 k_453 k_454 k_455 k_2 k_456 zn_X3_taken ⟨rfl, rfl, Nat.le_of_ble_eq_true rfl, Nat.le_of_ble_eq_true rfl⟩ (Nat.le_of_ble_eq_true rfl) rfl (fun v2 m3 h4 ho5 => ?_)
  exact z_iret dX3_takenFor_10 rfl rfl h4
set_option maxRecDepth 20000 in
theorem ct_X2_isSo {ad sc sv : Nat → Nat} (n : Nat) (a0 : Int) (a1 : Int) (m : ZMem) (ha0 : R32 a0) (ha1 : R32 a1) : zCT LX ad sc sv M_X2_isSo yX2_isSo [.ref (ad 1), .ref (ad 45), .int (mI a0), .int (mI a1)] m (F_X2_isSo n a0 a1 m) := by
  refine zCT_of (lv := [(0, .ref (ad 1)), (1, .ref (ad 45)), (2, .int (mI a0)), (3, .int (mI a1))]) (by decide) rfl (Nat.le_of_ble_eq_true rfl) rfl ?_
  unfold F_X2_isSo
  refine z_aload_n dX2_isSo_0 0 rfl ?_
  refine z_iload_n dX2_isSo_1 2 rfl ?_
  refine z_iload_n dX2_isSo_2 3 rfl ?_
  refine z_callV1 dX2_isSo_3 rfl (ct_X3_takenFor n a0 a1 m ha0 ha1) zc_X3 lx_1 k_787 k_620 k_621 k_2 k_622 zn_X3_takenFor ⟨rfl, rfl, Nat.le_of_ble_eq_true rfl, Nat.le_of_ble_eq_true rfl⟩ (Nat.le_of_ble_eq_true rfl) rfl (fun v1 m2 h3 ho4 => ?_)
  refine z_bipush dX2_isSo_6 (x := 12) (by decide +kernel) ?_
  refine z_idiv dX2_isSo_8 h3 (by decide) (fun h5 => ?_)
  refine z_aload_n dX2_isSo_9 1 rfl ?_
  refine z_iload_n dX2_isSo_10 2 rfl ?_
  refine z_iconst dX2_isSo_11 ?_
  refine z_callV1 dX2_isSo_12 rfl (ct_X9_at n 45 zt_45 a0 0 m2 ha0 (by decide)) zc_X9 lx_45 k_788 k_264 k_265 k_3 k_266 zn_X9_at ⟨rfl, rfl, Nat.le_of_ble_eq_true rfl, Nat.le_of_ble_eq_true rfl⟩ (Nat.le_of_ble_eq_true rfl) rfl (fun v6 m7 h8 ho9 => ?_)
  refine z_icmp_ne dX2_isSo_15 h5 h8 (tgt := 22) rfl (fun h10 => ?_) (fun h10 => ?_)
  · refine z_iconst dX2_isSo_18 ?_
    refine z_goto dX2_isSo_19 (tgt := 23) rfl ?_
    exact z_zret dX2_isSo_23 rfl rfl (by decide)
  · refine z_iconst dX2_isSo_22 ?_
    exact z_zret dX2_isSo_23 rfl rfl (by decide)
set_option maxRecDepth 20000 in
theorem T_X2_allSo_2 {ad sc sv : Nat → Nat} (n : Nat) (r2 : Int → Int → ZMem → ZR) (hr2 : ∀ (x2 : Int) (x3 : Int) (m : ZMem), R32 x2 → R32 x3 → zG LX ad sc sv M_X2_allSo 2 [(0, .ref (ad 1)), (1, .ref (ad 45)), (2, .int (mI x2)), (3, .int (mI x3))] [] m (r2 x2 x3 m)) : ∀ (x2 : Int) (x3 : Int) (m : ZMem), R32 x2 → R32 x3 → zG LX ad sc sv M_X2_allSo 2 [(0, .ref (ad 1)), (1, .ref (ad 45)), (2, .int (mI x2)), (3, .int (mI x3))] [] m (B_X2_allSo_2 n r2 x2 x3 m) := by
  intro x2 x3 m hx2 hx3
  unfold B_X2_allSo_2
  refine z_iload_n dX2_allSo_2 3 rfl ?_
  refine z_aload_n dX2_allSo_3 0 rfl ?_
  refine z_getR dX2_allSo_4 (k := 4) (j := 2) zc_X3 lx_1 rfl (by decide) k_82 ?_
  refine z_callV1 dX2_allSo_7 rfl (ct_X9_size n 2 zt_2 m) zc_X9 lx_2 k_783 k_276 k_277 k_3 k_278 zn_X9_size ⟨rfl, rfl, Nat.le_of_ble_eq_true rfl, Nat.le_of_ble_eq_true rfl⟩ (Nat.le_of_ble_eq_true rfl) rfl (fun v1 m2 h3 ho4 => ?_)
  refine z_icmp_ge dX2_allSo_10 hx3 h3 (tgt := 31) rfl (fun h5 => ?_) (fun h5 => ?_)
  · refine z_iconst dX2_allSo_31 ?_
    exact z_zret dX2_allSo_32 rfl rfl (by decide)
  · refine z_aload_n dX2_allSo_13 0 rfl ?_
    refine z_aload_n dX2_allSo_14 1 rfl ?_
    refine z_iload_n dX2_allSo_15 3 rfl ?_
    refine z_iload_n dX2_allSo_16 2 rfl ?_
    refine z_callS4 dX2_allSo_17 rfl (ct_X2_isSo n x3 x2 m2 hx3 hx2) k_784 k_785 k_18 k_786 zn_X2_isSo ⟨rfl, rfl, Nat.le_of_ble_eq_true rfl, Nat.le_of_ble_eq_true rfl⟩ (Nat.le_of_ble_eq_true rfl) rfl (fun v6 m7 h8 ho9 => ?_)
    refine z_if_ne dX2_allSo_20 (zb01 h8) (tgt := 25) rfl (fun h10 => ?_) (fun h10 => ?_)
    · refine z_iconst dX2_allSo_23 ?_
      exact z_zret dX2_allSo_24 rfl rfl (by decide)
    · refine z_iinc dX2_allSo_25 (lv' := [(3, .int (mI (x3 + 1))), (0, .ref (ad 1)), (1, .ref (ad 45)), (2, .int (mI x2))]) 3 rfl (by decide) rfl (fun h11 => ?_)
      refine z_goto dX2_allSo_28 (tgt := 2) rfl ?_
      exact zG_lvk (hr2 x2 (x3 + 1) m7 hx2 h11) [1, 2, 3, 0] rfl
theorem TL_X2_allSo_2 {ad sc sv : Nat → Nat} (n : Nat) : ∀ q : Nat, ∀ (x2 : Int) (x3 : Int) (m : ZMem), R32 x2 → R32 x3 → zG LX ad sc sv M_X2_allSo 2 [(0, .ref (ad 1)), (1, .ref (ad 45)), (2, .int (mI x2)), (3, .int (mI x3))] [] m (L_X2_allSo_2 n q x2 x3 m) := by
  intro q
  induction q with
  | zero => intros; exact zG_none
  | succ q ih => exact T_X2_allSo_2 n (L_X2_allSo_2 n q) ih
set_option maxRecDepth 20000 in
theorem ct_X2_allSo {ad sc sv : Nat → Nat} (n : Nat) (a0 : Int) (m : ZMem) (ha0 : R32 a0) : zCT LX ad sc sv M_X2_allSo yX2_allSo [.ref (ad 1), .ref (ad 45), .int (mI a0)] m (F_X2_allSo n a0 m) := by
  refine zCT_of (lv := [(0, .ref (ad 1)), (1, .ref (ad 45)), (2, .int (mI a0))]) (by decide) rfl (Nat.le_of_ble_eq_true rfl) rfl ?_
  unfold F_X2_allSo
  refine z_iconst dX2_allSo_0 ?_
  refine z_istore_n dX2_allSo_1 (lv' := [(3, .int (mI 0)), (0, .ref (ad 1)), (1, .ref (ad 45)), (2, .int (mI a0))]) (by decide) rfl ?_
  exact zG_lvk (TL_X2_allSo_2 n n a0 0 m ha0 (by decide)) [1, 2, 3, 0] rfl
set_option maxRecDepth 20000 in
theorem T_X2_numbersSo_4 {ad sc sv : Nat → Nat} (n : Nat) (r4 : Int → Int → ZMem → ZR) (hr4 : ∀ (x2 : Int) (x3 : Int) (m : ZMem), R32 x2 → R32 x3 → zG LX ad sc sv M_X2_numbersSo 4 [(0, .ref (ad 1)), (1, .ref (ad 45)), (2, .int (mI x2)), (3, .int (mI x3))] [] m (r4 x2 x3 m)) : ∀ (x2 : Int) (x3 : Int) (m : ZMem), R32 x2 → R32 x3 → zG LX ad sc sv M_X2_numbersSo 4 [(0, .ref (ad 1)), (1, .ref (ad 45)), (2, .int (mI x2)), (3, .int (mI x3))] [] m (B_X2_numbersSo_4 n r4 x2 x3 m) := by
  intro x2 x3 m hx2 hx3
  unfold B_X2_numbersSo_4
  refine z_iload_n dX2_numbersSo_4 3 rfl ?_
  refine z_bipush dX2_numbersSo_5 (x := 24) (by decide +kernel) ?_
  refine z_icmp_gt dX2_numbersSo_7 hx3 (by decide) (tgt := 33) rfl (fun h1 => ?_) (fun h1 => ?_)
  · refine z_iload_n dX2_numbersSo_33 2 rfl ?_
    exact z_iret dX2_numbersSo_34 rfl rfl hx2
  · refine z_aload_n dX2_numbersSo_10 0 rfl ?_
    refine z_aload_n dX2_numbersSo_11 1 rfl ?_
    refine z_iload_n dX2_numbersSo_12 3 rfl ?_
    refine z_callS4 dX2_numbersSo_13 rfl (ct_X2_allSo n x3 m hx3) k_780 k_781 k_18 k_782 zn_X2_allSo ⟨rfl, rfl, Nat.le_of_ble_eq_true rfl, Nat.le_of_ble_eq_true rfl⟩ (Nat.le_of_ble_eq_true rfl) rfl (fun v2 m3 h4 ho5 => ?_)
    refine z_if_eq dX2_numbersSo_16 (zb01 h4) (tgt := 27) rfl (fun h6 => ?_) (fun h6 => ?_)
    · refine z_iinc dX2_numbersSo_27 (lv' := [(3, .int (mI (x3 + 1))), (0, .ref (ad 1)), (1, .ref (ad 45)), (2, .int (mI x2))]) 3 rfl (by decide) rfl (fun h7 => ?_)
      refine z_goto dX2_numbersSo_30 (tgt := 4) rfl ?_
      exact zG_lvk (hr4 x2 (x3 + 1) m3 hx2 h7) [1, 2, 3, 0] rfl
    · refine z_iload_n dX2_numbersSo_19 2 rfl ?_
      refine z_iconst dX2_numbersSo_20 ?_
      refine z_iload_n dX2_numbersSo_21 3 rfl ?_
      refine z_iconst dX2_numbersSo_22 ?_
      refine z_isub dX2_numbersSo_23 (fun h8 => ?_)
      refine z_ishl dX2_numbersSo_24 (fun h9 => ?_)
      refine z_ior dX2_numbersSo_25 hx2 h9 (fun h10 => ?_)
      refine z_istore_n dX2_numbersSo_26 (lv' := [(2, .int (mI (zlor x2 (1 * 2 ^ ((x3 - 1) : Int).toNat)))), (0, .ref (ad 1)), (1, .ref (ad 45)), (3, .int (mI x3))]) (by decide) rfl ?_
      refine z_iinc dX2_numbersSo_27 (lv' := [(3, .int (mI (x3 + 1))), (2, .int (mI (zlor x2 (1 * 2 ^ ((x3 - 1) : Int).toNat)))), (0, .ref (ad 1)), (1, .ref (ad 45))]) 3 rfl (by decide) rfl (fun h11 => ?_)
      refine z_goto dX2_numbersSo_30 (tgt := 4) rfl ?_
      exact zG_lvk (hr4 (zlor x2 (1 * 2 ^ ((x3 - 1) : Int).toNat)) (x3 + 1) m3 h10 h11) [2, 3, 1, 0] rfl
theorem TL_X2_numbersSo_4 {ad sc sv : Nat → Nat} (n : Nat) : ∀ q : Nat, ∀ (x2 : Int) (x3 : Int) (m : ZMem), R32 x2 → R32 x3 → zG LX ad sc sv M_X2_numbersSo 4 [(0, .ref (ad 1)), (1, .ref (ad 45)), (2, .int (mI x2)), (3, .int (mI x3))] [] m (L_X2_numbersSo_4 n q x2 x3 m) := by
  intro q
  induction q with
  | zero => intros; exact zG_none
  | succ q ih => exact T_X2_numbersSo_4 n (L_X2_numbersSo_4 n q) ih
set_option maxRecDepth 20000 in
theorem ct_X2_numbersSo {ad sc sv : Nat → Nat} (n : Nat) (m : ZMem) : zCT LX ad sc sv M_X2_numbersSo yX2_numbersSo [.ref (ad 1), .ref (ad 45)] m (F_X2_numbersSo n m) := by
  refine zCT_of (lv := [(0, .ref (ad 1)), (1, .ref (ad 45))]) (by decide) rfl (Nat.le_of_ble_eq_true rfl) rfl ?_
  unfold F_X2_numbersSo
  refine z_iconst dX2_numbersSo_0 ?_
  refine z_istore_n dX2_numbersSo_1 (lv' := [(2, .int (mI 0)), (0, .ref (ad 1)), (1, .ref (ad 45))]) (by decide) rfl ?_
  refine z_iconst dX2_numbersSo_2 ?_
  refine z_istore_n dX2_numbersSo_3 (lv' := [(3, .int (mI 1)), (2, .int (mI 0)), (0, .ref (ad 1)), (1, .ref (ad 45))]) (by decide) rfl ?_
  exact zG_lvk (TL_X2_numbersSo_4 n n 0 1 m (by decide) (by decide)) [2, 3, 1, 0] rfl
set_option maxRecDepth 20000 in
theorem ct_X2_isHalved {ad sc sv : Nat → Nat} (n : Nat) (a0 : Int) (m : ZMem) (ha0 : R32 a0) : zCT LX ad sc sv M_X2_isHalved yX2_isHalved [.ref (ad 1), .ref (ad 45), .int (mI a0)] m (F_X2_isHalved n a0 m) := by
  refine zCT_of (lv := [(0, .ref (ad 1)), (1, .ref (ad 45)), (2, .int (mI a0))]) (by decide) rfl (Nat.le_of_ble_eq_true rfl) rfl ?_
  unfold F_X2_isHalved
  refine z_aload_n dX2_isHalved_0 0 rfl ?_
  refine z_aload_n dX2_isHalved_1 1 rfl ?_
  refine z_iload_n dX2_isHalved_2 2 rfl ?_
  refine z_aload_n dX2_isHalved_3 0 rfl ?_
  refine z_getI dX2_isHalved_4 (k := 1) zc_X3 lx_1 rfl (by decide) k_73 (fun h1 => ?_)
  refine z_callS4 dX2_isHalved_7 rfl (ct_X2_isSo n a0 (m 1 1) m ha0 h1) k_784 k_785 k_18 k_786 zn_X2_isSo ⟨rfl, rfl, Nat.le_of_ble_eq_true rfl, Nat.le_of_ble_eq_true rfl⟩ (Nat.le_of_ble_eq_true rfl) rfl (fun v2 m3 h4 ho5 => ?_)
  exact z_zret dX2_isHalved_10 rfl rfl h4
set_option maxRecDepth 20000 in
theorem ct_X2_isAmount {ad sc sv : Nat → Nat} (n : Nat) (a0 : Int) (m : ZMem) (ha0 : R32 a0) : zCT LX ad sc sv M_X2_isAmount yX2_isAmount [.ref (ad 1), .ref (ad 45), .int (mI a0)] m (F_X2_isAmount n a0 m) := by
  refine zCT_of (lv := [(0, .ref (ad 1)), (1, .ref (ad 45)), (2, .int (mI a0))]) (by decide) rfl (Nat.le_of_ble_eq_true rfl) rfl ?_
  unfold F_X2_isAmount
  refine z_aload_n dX2_isAmount_0 0 rfl ?_
  refine z_getR dX2_isAmount_1 (k := 4) (j := 2) zc_X3 lx_1 rfl (by decide) k_82 ?_
  refine z_iload_n dX2_isAmount_4 2 rfl ?_
  refine z_iconst dX2_isAmount_5 ?_
  refine z_callV1 dX2_isAmount_6 rfl (ct_X9_at n 2 zt_2 a0 3 m ha0 (by decide)) zc_X9 lx_2 k_788 k_264 k_265 k_3 k_266 zn_X9_at ⟨rfl, rfl, Nat.le_of_ble_eq_true rfl, Nat.le_of_ble_eq_true rfl⟩ (Nat.le_of_ble_eq_true rfl) rfl (fun v1 m2 h3 ho4 => ?_)
  refine z_aload_n dX2_isAmount_9 1 rfl ?_
  refine z_iload_n dX2_isAmount_10 2 rfl ?_
  refine z_iconst dX2_isAmount_11 ?_
  refine z_callV1 dX2_isAmount_12 rfl (ct_X9_at n 45 zt_45 a0 0 m2 ha0 (by decide)) zc_X9 lx_45 k_788 k_264 k_265 k_3 k_266 zn_X9_at ⟨rfl, rfl, Nat.le_of_ble_eq_true rfl, Nat.le_of_ble_eq_true rfl⟩ (Nat.le_of_ble_eq_true rfl) rfl (fun v5 m6 h7 ho8 => ?_)
  refine z_icmp_ne dX2_isAmount_15 h3 h7 (tgt := 22) rfl (fun h9 => ?_) (fun h9 => ?_)
  · refine z_iconst dX2_isAmount_18 ?_
    refine z_goto dX2_isAmount_19 (tgt := 23) rfl ?_
    exact z_zret dX2_isAmount_23 rfl rfl (by decide)
  · refine z_iconst dX2_isAmount_22 ?_
    exact z_zret dX2_isAmount_23 rfl rfl (by decide)
set_option maxRecDepth 20000 in
theorem T_X2_halvedParts_4 {ad sc sv : Nat → Nat} (n : Nat) (r4 : Int → Int → ZMem → ZR) (hr4 : ∀ (x2 : Int) (x3 : Int) (m : ZMem), R32 x2 → R32 x3 → zG LX ad sc sv M_X2_halvedParts 4 [(0, .ref (ad 1)), (1, .ref (ad 45)), (2, .int (mI x2)), (3, .int (mI x3))] [] m (r4 x2 x3 m)) : ∀ (x2 : Int) (x3 : Int) (m : ZMem), R32 x2 → R32 x3 → zG LX ad sc sv M_X2_halvedParts 4 [(0, .ref (ad 1)), (1, .ref (ad 45)), (2, .int (mI x2)), (3, .int (mI x3))] [] m (B_X2_halvedParts_4 n r4 x2 x3 m) := by
  intro x2 x3 m hx2 hx3
  unfold B_X2_halvedParts_4
  refine z_iload_n dX2_halvedParts_4 3 rfl ?_
  refine z_aload_n dX2_halvedParts_5 0 rfl ?_
  refine z_getR dX2_halvedParts_6 (k := 4) (j := 2) zc_X3 lx_1 rfl (by decide) k_82 ?_
  refine z_callV1 dX2_halvedParts_9 rfl (ct_X9_size n 2 zt_2 m) zc_X9 lx_2 k_783 k_276 k_277 k_3 k_278 zn_X9_size ⟨rfl, rfl, Nat.le_of_ble_eq_true rfl, Nat.le_of_ble_eq_true rfl⟩ (Nat.le_of_ble_eq_true rfl) rfl (fun v1 m2 h3 ho4 => ?_)
  refine z_icmp_ge dX2_halvedParts_12 hx3 h3 (tgt := 40) rfl (fun h5 => ?_) (fun h5 => ?_)
  · refine z_iload_n dX2_halvedParts_40 2 rfl ?_
    exact z_iret dX2_halvedParts_41 rfl rfl hx2
  · refine z_iload_n dX2_halvedParts_15 2 rfl ?_
    refine z_aload_n dX2_halvedParts_16 0 rfl ?_
    refine z_aload_n dX2_halvedParts_17 1 rfl ?_
    refine z_iload_n dX2_halvedParts_18 3 rfl ?_
    refine z_callS4 dX2_halvedParts_19 rfl (ct_X2_isHalved n x3 m2 hx3) k_792 k_793 k_18 k_794 zn_X2_isHalved ⟨rfl, rfl, Nat.le_of_ble_eq_true rfl, Nat.le_of_ble_eq_true rfl⟩ (Nat.le_of_ble_eq_true rfl) rfl (fun v6 m7 h8 ho9 => ?_)
    refine z_if_eq dX2_halvedParts_22 (zb01 h8) (tgt := 31) rfl (fun h10 => ?_) (fun h10 => ?_)
    · refine z_iconst dX2_halvedParts_31 ?_
      refine z_ior dX2_halvedParts_32 hx2 (by decide) (fun h11 => ?_)
      refine z_istore_n dX2_halvedParts_33 (lv' := [(2, .int (mI (zlor x2 0))), (0, .ref (ad 1)), (1, .ref (ad 45)), (3, .int (mI x3))]) (by decide) rfl ?_
      refine z_iinc dX2_halvedParts_34 (lv' := [(3, .int (mI (x3 + 1))), (2, .int (mI (zlor x2 0))), (0, .ref (ad 1)), (1, .ref (ad 45))]) 3 rfl (by decide) rfl (fun h12 => ?_)
      refine z_goto dX2_halvedParts_37 (tgt := 4) rfl ?_
      exact zG_lvk (hr4 (zlor x2 0) (x3 + 1) m7 h11 h12) [2, 3, 1, 0] rfl
    · refine z_iconst dX2_halvedParts_25 ?_
      refine z_iload_n dX2_halvedParts_26 3 rfl ?_
      refine z_ishl dX2_halvedParts_27 (fun h13 => ?_)
      refine z_goto dX2_halvedParts_28 (tgt := 32) rfl ?_
      refine z_ior dX2_halvedParts_32 hx2 h13 (fun h14 => ?_)
      refine z_istore_n dX2_halvedParts_33 (lv' := [(2, .int (mI (zlor x2 (1 * 2 ^ (x3 : Int).toNat)))), (0, .ref (ad 1)), (1, .ref (ad 45)), (3, .int (mI x3))]) (by decide) rfl ?_
      refine z_iinc dX2_halvedParts_34 (lv' := [(3, .int (mI (x3 + 1))), (2, .int (mI (zlor x2 (1 * 2 ^ (x3 : Int).toNat)))), (0, .ref (ad 1)), (1, .ref (ad 45))]) 3 rfl (by decide) rfl (fun h15 => ?_)
      refine z_goto dX2_halvedParts_37 (tgt := 4) rfl ?_
      exact zG_lvk (hr4 (zlor x2 (1 * 2 ^ (x3 : Int).toNat)) (x3 + 1) m7 h14 h15) [2, 3, 1, 0] rfl
theorem TL_X2_halvedParts_4 {ad sc sv : Nat → Nat} (n : Nat) : ∀ q : Nat, ∀ (x2 : Int) (x3 : Int) (m : ZMem), R32 x2 → R32 x3 → zG LX ad sc sv M_X2_halvedParts 4 [(0, .ref (ad 1)), (1, .ref (ad 45)), (2, .int (mI x2)), (3, .int (mI x3))] [] m (L_X2_halvedParts_4 n q x2 x3 m) := by
  intro q
  induction q with
  | zero => intros; exact zG_none
  | succ q ih => exact T_X2_halvedParts_4 n (L_X2_halvedParts_4 n q) ih
set_option maxRecDepth 20000 in
theorem ct_X2_halvedParts {ad sc sv : Nat → Nat} (n : Nat) (m : ZMem) : zCT LX ad sc sv M_X2_halvedParts yX2_halvedParts [.ref (ad 1), .ref (ad 45)] m (F_X2_halvedParts n m) := by
  refine zCT_of (lv := [(0, .ref (ad 1)), (1, .ref (ad 45))]) (by decide) rfl (Nat.le_of_ble_eq_true rfl) rfl ?_
  unfold F_X2_halvedParts
  refine z_iconst dX2_halvedParts_0 ?_
  refine z_istore_n dX2_halvedParts_1 (lv' := [(2, .int (mI 0)), (0, .ref (ad 1)), (1, .ref (ad 45))]) (by decide) rfl ?_
  refine z_iconst dX2_halvedParts_2 ?_
  refine z_istore_n dX2_halvedParts_3 (lv' := [(3, .int (mI 0)), (2, .int (mI 0)), (0, .ref (ad 1)), (1, .ref (ad 45))]) (by decide) rfl ?_
  exact zG_lvk (TL_X2_halvedParts_4 n n 0 0 m (by decide) (by decide)) [2, 3, 1, 0] rfl
set_option maxRecDepth 20000 in
theorem T_X2_amountParts_4 {ad sc sv : Nat → Nat} (n : Nat) (r4 : Int → Int → ZMem → ZR) (hr4 : ∀ (x2 : Int) (x3 : Int) (m : ZMem), R32 x2 → R32 x3 → zG LX ad sc sv M_X2_amountParts 4 [(0, .ref (ad 1)), (1, .ref (ad 45)), (2, .int (mI x2)), (3, .int (mI x3))] [] m (r4 x2 x3 m)) : ∀ (x2 : Int) (x3 : Int) (m : ZMem), R32 x2 → R32 x3 → zG LX ad sc sv M_X2_amountParts 4 [(0, .ref (ad 1)), (1, .ref (ad 45)), (2, .int (mI x2)), (3, .int (mI x3))] [] m (B_X2_amountParts_4 n r4 x2 x3 m) := by
  intro x2 x3 m hx2 hx3
  unfold B_X2_amountParts_4
  refine z_iload_n dX2_amountParts_4 3 rfl ?_
  refine z_aload_n dX2_amountParts_5 0 rfl ?_
  refine z_getR dX2_amountParts_6 (k := 4) (j := 2) zc_X3 lx_1 rfl (by decide) k_82 ?_
  refine z_callV1 dX2_amountParts_9 rfl (ct_X9_size n 2 zt_2 m) zc_X9 lx_2 k_783 k_276 k_277 k_3 k_278 zn_X9_size ⟨rfl, rfl, Nat.le_of_ble_eq_true rfl, Nat.le_of_ble_eq_true rfl⟩ (Nat.le_of_ble_eq_true rfl) rfl (fun v1 m2 h3 ho4 => ?_)
  refine z_icmp_ge dX2_amountParts_12 hx3 h3 (tgt := 40) rfl (fun h5 => ?_) (fun h5 => ?_)
  · refine z_iload_n dX2_amountParts_40 2 rfl ?_
    exact z_iret dX2_amountParts_41 rfl rfl hx2
  · refine z_iload_n dX2_amountParts_15 2 rfl ?_
    refine z_aload_n dX2_amountParts_16 0 rfl ?_
    refine z_aload_n dX2_amountParts_17 1 rfl ?_
    refine z_iload_n dX2_amountParts_18 3 rfl ?_
    refine z_callS4 dX2_amountParts_19 rfl (ct_X2_isAmount n x3 m2 hx3) k_798 k_799 k_18 k_800 zn_X2_isAmount ⟨rfl, rfl, Nat.le_of_ble_eq_true rfl, Nat.le_of_ble_eq_true rfl⟩ (Nat.le_of_ble_eq_true rfl) rfl (fun v6 m7 h8 ho9 => ?_)
    refine z_if_eq dX2_amountParts_22 (zb01 h8) (tgt := 31) rfl (fun h10 => ?_) (fun h10 => ?_)
    · refine z_iconst dX2_amountParts_31 ?_
      refine z_ior dX2_amountParts_32 hx2 (by decide) (fun h11 => ?_)
      refine z_istore_n dX2_amountParts_33 (lv' := [(2, .int (mI (zlor x2 0))), (0, .ref (ad 1)), (1, .ref (ad 45)), (3, .int (mI x3))]) (by decide) rfl ?_
      refine z_iinc dX2_amountParts_34 (lv' := [(3, .int (mI (x3 + 1))), (2, .int (mI (zlor x2 0))), (0, .ref (ad 1)), (1, .ref (ad 45))]) 3 rfl (by decide) rfl (fun h12 => ?_)
      refine z_goto dX2_amountParts_37 (tgt := 4) rfl ?_
      exact zG_lvk (hr4 (zlor x2 0) (x3 + 1) m7 h11 h12) [2, 3, 1, 0] rfl
    · refine z_iconst dX2_amountParts_25 ?_
      refine z_iload_n dX2_amountParts_26 3 rfl ?_
      refine z_ishl dX2_amountParts_27 (fun h13 => ?_)
      refine z_goto dX2_amountParts_28 (tgt := 32) rfl ?_
      refine z_ior dX2_amountParts_32 hx2 h13 (fun h14 => ?_)
      refine z_istore_n dX2_amountParts_33 (lv' := [(2, .int (mI (zlor x2 (1 * 2 ^ (x3 : Int).toNat)))), (0, .ref (ad 1)), (1, .ref (ad 45)), (3, .int (mI x3))]) (by decide) rfl ?_
      refine z_iinc dX2_amountParts_34 (lv' := [(3, .int (mI (x3 + 1))), (2, .int (mI (zlor x2 (1 * 2 ^ (x3 : Int).toNat)))), (0, .ref (ad 1)), (1, .ref (ad 45))]) 3 rfl (by decide) rfl (fun h15 => ?_)
      refine z_goto dX2_amountParts_37 (tgt := 4) rfl ?_
      exact zG_lvk (hr4 (zlor x2 (1 * 2 ^ (x3 : Int).toNat)) (x3 + 1) m7 h14 h15) [2, 3, 1, 0] rfl
theorem TL_X2_amountParts_4 {ad sc sv : Nat → Nat} (n : Nat) : ∀ q : Nat, ∀ (x2 : Int) (x3 : Int) (m : ZMem), R32 x2 → R32 x3 → zG LX ad sc sv M_X2_amountParts 4 [(0, .ref (ad 1)), (1, .ref (ad 45)), (2, .int (mI x2)), (3, .int (mI x3))] [] m (L_X2_amountParts_4 n q x2 x3 m) := by
  intro q
  induction q with
  | zero => intros; exact zG_none
  | succ q ih => exact T_X2_amountParts_4 n (L_X2_amountParts_4 n q) ih
set_option maxRecDepth 20000 in
theorem ct_X2_amountParts {ad sc sv : Nat → Nat} (n : Nat) (m : ZMem) : zCT LX ad sc sv M_X2_amountParts yX2_amountParts [.ref (ad 1), .ref (ad 45)] m (F_X2_amountParts n m) := by
  refine zCT_of (lv := [(0, .ref (ad 1)), (1, .ref (ad 45))]) (by decide) rfl (Nat.le_of_ble_eq_true rfl) rfl ?_
  unfold F_X2_amountParts
  refine z_iconst dX2_amountParts_0 ?_
  refine z_istore_n dX2_amountParts_1 (lv' := [(2, .int (mI 0)), (0, .ref (ad 1)), (1, .ref (ad 45))]) (by decide) rfl ?_
  refine z_iconst dX2_amountParts_2 ?_
  refine z_istore_n dX2_amountParts_3 (lv' := [(3, .int (mI 0)), (2, .int (mI 0)), (0, .ref (ad 1)), (1, .ref (ad 45))]) (by decide) rfl ?_
  exact zG_lvk (TL_X2_amountParts_4 n n 0 0 m (by decide) (by decide)) [2, 3, 1, 0] rfl
set_option maxRecDepth 20000 in
theorem T_X2_firstNeither_2 {ad sc sv : Nat → Nat} (n : Nat) (r2 : Int → ZMem → ZR) (hr2 : ∀ (x2 : Int) (m : ZMem), R32 x2 → zG LX ad sc sv M_X2_firstNeither 2 [(0, .ref (ad 1)), (1, .ref (ad 45)), (2, .int (mI x2))] [] m (r2 x2 m)) : ∀ (x2 : Int) (m : ZMem), R32 x2 → zG LX ad sc sv M_X2_firstNeither 2 [(0, .ref (ad 1)), (1, .ref (ad 45)), (2, .int (mI x2))] [] m (B_X2_firstNeither_2 n r2 x2 m) := by
  intro x2 m hx2
  unfold B_X2_firstNeither_2
  refine z_iload_n dX2_firstNeither_2 2 rfl ?_
  refine z_aload_n dX2_firstNeither_3 0 rfl ?_
  refine z_getR dX2_firstNeither_4 (k := 4) (j := 2) zc_X3 lx_1 rfl (by decide) k_82 ?_
  refine z_callV1 dX2_firstNeither_7 rfl (ct_X9_size n 2 zt_2 m) zc_X9 lx_2 k_783 k_276 k_277 k_3 k_278 zn_X9_size ⟨rfl, rfl, Nat.le_of_ble_eq_true rfl, Nat.le_of_ble_eq_true rfl⟩ (Nat.le_of_ble_eq_true rfl) rfl (fun v1 m2 h3 ho4 => ?_)
  refine z_icmp_ge dX2_firstNeither_10 hx2 h3 (tgt := 39) rfl (fun h5 => ?_) (fun h5 => ?_)
  · refine z_bipush dX2_firstNeither_39 (x := (-9)) (by decide +kernel) ?_
    exact z_iret dX2_firstNeither_41 rfl rfl (by decide)
  · refine z_aload_n dX2_firstNeither_13 0 rfl ?_
    refine z_aload_n dX2_firstNeither_14 1 rfl ?_
    refine z_iload_n dX2_firstNeither_15 2 rfl ?_
    refine z_callS4 dX2_firstNeither_16 rfl (ct_X2_isHalved n x2 m2 hx2) k_792 k_793 k_18 k_794 zn_X2_isHalved ⟨rfl, rfl, Nat.le_of_ble_eq_true rfl, Nat.le_of_ble_eq_true rfl⟩ (Nat.le_of_ble_eq_true rfl) rfl (fun v6 m7 h8 ho9 => ?_)
    refine z_if_ne dX2_firstNeither_19 (zb01 h8) (tgt := 33) rfl (fun h10 => ?_) (fun h10 => ?_)
    · refine z_aload_n dX2_firstNeither_22 0 rfl ?_
      refine z_aload_n dX2_firstNeither_23 1 rfl ?_
      refine z_iload_n dX2_firstNeither_24 2 rfl ?_
      refine z_callS4 dX2_firstNeither_25 rfl (ct_X2_isAmount n x2 m7 hx2) k_798 k_799 k_18 k_800 zn_X2_isAmount ⟨rfl, rfl, Nat.le_of_ble_eq_true rfl, Nat.le_of_ble_eq_true rfl⟩ (Nat.le_of_ble_eq_true rfl) rfl (fun v11 m12 h13 ho14 => ?_)
      refine z_if_ne dX2_firstNeither_28 (zb01 h13) (tgt := 33) rfl (fun h15 => ?_) (fun h15 => ?_)
      · refine z_iload_n dX2_firstNeither_31 2 rfl ?_
        exact z_iret dX2_firstNeither_32 rfl rfl hx2
      · refine z_iinc dX2_firstNeither_33 (lv' := [(2, .int (mI (x2 + 1))), (0, .ref (ad 1)), (1, .ref (ad 45))]) 2 rfl (by decide) rfl (fun h16 => ?_)
        refine z_goto dX2_firstNeither_36 (tgt := 2) rfl ?_
        exact zG_lvk (hr2 (x2 + 1) m12 h16) [1, 2, 0] rfl
    · refine z_iinc dX2_firstNeither_33 (lv' := [(2, .int (mI (x2 + 1))), (0, .ref (ad 1)), (1, .ref (ad 45))]) 2 rfl (by decide) rfl (fun h17 => ?_)
      refine z_goto dX2_firstNeither_36 (tgt := 2) rfl ?_
      exact zG_lvk (hr2 (x2 + 1) m7 h17) [1, 2, 0] rfl
theorem TL_X2_firstNeither_2 {ad sc sv : Nat → Nat} (n : Nat) : ∀ q : Nat, ∀ (x2 : Int) (m : ZMem), R32 x2 → zG LX ad sc sv M_X2_firstNeither 2 [(0, .ref (ad 1)), (1, .ref (ad 45)), (2, .int (mI x2))] [] m (L_X2_firstNeither_2 n q x2 m) := by
  intro q
  induction q with
  | zero => intros; exact zG_none
  | succ q ih => exact T_X2_firstNeither_2 n (L_X2_firstNeither_2 n q) ih
set_option maxRecDepth 20000 in
theorem ct_X2_firstNeither {ad sc sv : Nat → Nat} (n : Nat) (m : ZMem) : zCT LX ad sc sv M_X2_firstNeither yX2_firstNeither [.ref (ad 1), .ref (ad 45)] m (F_X2_firstNeither n m) := by
  refine zCT_of (lv := [(0, .ref (ad 1)), (1, .ref (ad 45))]) (by decide) rfl (Nat.le_of_ble_eq_true rfl) rfl ?_
  unfold F_X2_firstNeither
  refine z_iconst dX2_firstNeither_0 ?_
  refine z_istore_n dX2_firstNeither_1 (lv' := [(2, .int (mI 0)), (0, .ref (ad 1)), (1, .ref (ad 45))]) (by decide) rfl ?_
  exact zG_lvk (TL_X2_firstNeither_2 n n 0 m (by decide)) [1, 2, 0] rfl
set_option maxRecDepth 20000 in
theorem T_X9_copyFrom_17 {ad sc sv : Nat → Nat} (n : Nat) (t : Nat) (o : Nat) (ht : zTab LX t) (ho : zTab LX o) (r17 : Int → ZMem → ZR) (hr17 : ∀ (x2 : Int) (m : ZMem), R32 x2 → zG LX ad sc sv M_X9_copyFrom 17 [(0, .ref (ad t)), (1, .ref (ad o)), (2, .int (mI x2))] [] m (r17 x2 m)) : ∀ (x2 : Int) (m : ZMem), R32 x2 → zG LX ad sc sv M_X9_copyFrom 17 [(0, .ref (ad t)), (1, .ref (ad o)), (2, .int (mI x2))] [] m (B_X9_copyFrom_17 n t o r17 x2 m) := by
  intro x2 m hx2
  unfold B_X9_copyFrom_17
  refine z_iload_n dX9_copyFrom_17 2 rfl ?_
  refine z_aload_n dX9_copyFrom_18 0 rfl ?_
  refine z_getR dX9_copyFrom_19 (k := 0) (j := (t + 1)) zc_X9 ht.1 rfl (by decide) k_43 ?_
  refine z_alen dX9_copyFrom_22 ht.2.choose_spec.1 ht.2.choose_spec.2 (fun h4 => ?_)
  refine z_icmp_ge dX9_copyFrom_23 hx2 h4 (tgt := 53) rfl (fun h5 => ?_) (fun h5 => ?_)
  · exact z_vret dX9_copyFrom_53 rfl rfl
  · refine z_iload_n dX9_copyFrom_26 2 rfl ?_
    refine z_aload_n dX9_copyFrom_27 1 rfl ?_
    refine z_getR dX9_copyFrom_28 (k := 0) (j := (o + 1)) zc_X9 ho.1 rfl (by decide) k_43 ?_
    refine z_alen dX9_copyFrom_31 ho.2.choose_spec.1 ho.2.choose_spec.2 (fun h6 => ?_)
    refine z_icmp_ge dX9_copyFrom_32 hx2 h6 (tgt := 53) rfl (fun h7 => ?_) (fun h7 => ?_)
    · exact z_vret dX9_copyFrom_53 rfl rfl
    · refine z_aload_n dX9_copyFrom_35 0 rfl ?_
      refine z_getR dX9_copyFrom_36 (k := 0) (j := (t + 1)) zc_X9 ht.1 rfl (by decide) k_43 ?_
      refine z_iload_n dX9_copyFrom_39 2 rfl ?_
      refine z_aload_n dX9_copyFrom_40 1 rfl ?_
      refine z_getR dX9_copyFrom_41 (k := 0) (j := (o + 1)) zc_X9 ho.1 rfl (by decide) k_43 ?_
      refine z_iload_n dX9_copyFrom_44 2 rfl ?_
      refine z_iaload dX9_copyFrom_45 hx2 (fun h8 => ?_)
      refine z_iastore dX9_copyFrom_46 hx2 h8 ?_
      refine z_iinc dX9_copyFrom_47 (lv' := [(2, .int (mI (x2 + 1))), (0, .ref (ad t)), (1, .ref (ad o))]) 2 rfl (by decide) rfl (fun h9 => ?_)
      refine z_goto dX9_copyFrom_50 (tgt := 17) rfl ?_
      exact zG_lvk (hr17 (x2 + 1) (wr m (t + 1) (x2 : Int).toNat (m (o + 1) (x2 : Int).toNat)) h9) [1, 2, 0] rfl
theorem TL_X9_copyFrom_17 {ad sc sv : Nat → Nat} (n : Nat) (t : Nat) (o : Nat) (ht : zTab LX t) (ho : zTab LX o) : ∀ q : Nat, ∀ (x2 : Int) (m : ZMem), R32 x2 → zG LX ad sc sv M_X9_copyFrom 17 [(0, .ref (ad t)), (1, .ref (ad o)), (2, .int (mI x2))] [] m (L_X9_copyFrom_17 n t o q x2 m) := by
  intro q
  induction q with
  | zero => intros; exact zG_none
  | succ q ih => exact T_X9_copyFrom_17 n t o ht ho (L_X9_copyFrom_17 n t o q) ih
set_option maxRecDepth 20000 in
theorem ct_X9_copyFrom {ad sc sv : Nat → Nat} (n : Nat) (t : Nat) (o : Nat) (ht : zTab LX t) (ho : zTab LX o) (m : ZMem) : zCT LX ad sc sv M_X9_copyFrom yX9_copyFrom [.ref (ad t), .ref (ad o)] m (F_X9_copyFrom n t o m) := by
  refine zCT_of (lv := [(0, .ref (ad t)), (1, .ref (ad o))]) (by decide) rfl (Nat.le_of_ble_eq_true rfl) rfl ?_
  unfold F_X9_copyFrom
  refine z_aload_n dX9_copyFrom_0 0 rfl ?_
  refine z_aload_n dX9_copyFrom_1 1 rfl ?_
  refine z_getI dX9_copyFrom_2 (k := 3) zc_X9 ho.1 rfl (by decide) k_46 (fun h1 => ?_)
  refine z_aload_n dX9_copyFrom_5 0 rfl ?_
  refine z_getI dX9_copyFrom_6 (k := 1) zc_X9 ht.1 rfl (by decide) k_44 (fun h2 => ?_)
  refine z_mmin dX9_copyFrom_9 h1 h2 k_61 k_62 k_4 k_63 (Nat.le_of_ble_eq_true rfl) (Nat.le_of_ble_eq_true rfl) (fun h3 => ?_)
  refine z_putI dX9_copyFrom_12 (k := 3) zc_X9 ht.1 rfl (by decide) rfl rfl h3 k_46 ?_
  refine z_iconst dX9_copyFrom_15 ?_
  refine z_istore_n dX9_copyFrom_16 (lv' := [(2, .int (mI 0)), (0, .ref (ad t)), (1, .ref (ad o))]) (by decide) rfl ?_
  exact zG_lvk (TL_X9_copyFrom_17 n t o ht ho n 0 (wr m t 3 (min (m o 3) (m t 1))) (by decide)) [1, 2, 0] rfl
set_option maxRecDepth 20000 in
theorem ct_X3_copyFrom {ad sc sv : Nat → Nat} (n : Nat) (t : Nat) (o : Nat) (ht : zKit LX t) (ho : zKit LX o) (m : ZMem) : zCT LX ad sc sv M_X3_copyFrom yX3_copyFrom [.ref (ad t), .ref (ad o)] m (F_X3_copyFrom n t o m) := by
  refine zCT_of (lv := [(0, .ref (ad t)), (1, .ref (ad o))]) (by decide) rfl (Nat.le_of_ble_eq_true rfl) rfl ?_
  unfold F_X3_copyFrom
  refine z_aload_n dX3_copyFrom_0 0 rfl ?_
  refine z_aload_n dX3_copyFrom_1 1 rfl ?_
  refine z_getI dX3_copyFrom_2 (k := 0) zc_X3 ho.1 rfl (by decide) k_64 (fun h1 => ?_)
  refine z_putI dX3_copyFrom_5 (k := 0) zc_X3 ht.1 rfl (by decide) rfl rfl h1 k_64 ?_
  refine z_aload_n dX3_copyFrom_8 0 rfl ?_
  refine z_aload_n dX3_copyFrom_9 1 rfl ?_
  refine z_getI dX3_copyFrom_10 (k := 1) zc_X3 ho.1 rfl (by decide) k_70 (fun h2 => ?_)
  refine z_putI dX3_copyFrom_13 (k := 1) zc_X3 ht.1 rfl (by decide) rfl rfl h2 k_70 ?_
  refine z_aload_n dX3_copyFrom_16 0 rfl ?_
  refine z_aload_n dX3_copyFrom_17 1 rfl ?_
  refine z_getI dX3_copyFrom_18 (k := 2) zc_X3 ho.1 rfl (by decide) k_75 (fun h3 => ?_)
  refine z_putI dX3_copyFrom_21 (k := 2) zc_X3 ht.1 rfl (by decide) rfl rfl h3 k_75 ?_
  refine z_aload_n dX3_copyFrom_24 0 rfl ?_
  refine z_aload_n dX3_copyFrom_25 1 rfl ?_
  refine z_getI dX3_copyFrom_26 (k := 3) zc_X3 ho.1 rfl (by decide) k_77 (fun h4 => ?_)
  refine z_putI dX3_copyFrom_29 (k := 3) zc_X3 ht.1 rfl (by decide) rfl rfl h4 k_77 ?_
  refine z_aload_n dX3_copyFrom_32 0 rfl ?_
  refine z_getR dX3_copyFrom_33 (k := 4) (j := (t + 1)) zc_X3 ht.1 rfl (by decide) k_80 ?_
  refine z_aload_n dX3_copyFrom_36 1 rfl ?_
  refine z_getR dX3_copyFrom_37 (k := 4) (j := (o + 1)) zc_X3 ho.1 rfl (by decide) k_80 ?_
  refine z_callV0 dX3_copyFrom_40 rfl (ct_X9_copyFrom n (t + 1) (o + 1) ht.2.1 ho.2.1 (wr (wr (wr (wr m t 0 (m o 0)) t 1 ((wr m t 0 (m o 0)) o 1)) t 2 ((wr (wr m t 0 (m o 0)) t 1 ((wr m t 0 (m o 0)) o 1)) o 2)) t 3 ((wr (wr (wr m t 0 (m o 0)) t 1 ((wr m t 0 (m o 0)) o 1)) t 2 ((wr (wr m t 0 (m o 0)) t 1 ((wr m t 0 (m o 0)) o 1)) o 2)) o 3))) zc_X9 ht.2.1.1 k_287 k_288 k_289 k_3 k_290 zn_X9_copyFrom ⟨rfl, rfl, Nat.le_of_ble_eq_true rfl, Nat.le_of_ble_eq_true rfl⟩ (Nat.le_of_ble_eq_true rfl) rfl (fun v5 m6 ho8 => ?_)
  refine z_aload_n dX3_copyFrom_43 0 rfl ?_
  refine z_getR dX3_copyFrom_44 (k := 5) (j := (t + 3)) zc_X3 ht.1 rfl (by decide) k_86 ?_
  refine z_aload_n dX3_copyFrom_47 1 rfl ?_
  refine z_getR dX3_copyFrom_48 (k := 5) (j := (o + 3)) zc_X3 ho.1 rfl (by decide) k_86 ?_
  refine z_callV0 dX3_copyFrom_51 rfl (ct_X9_copyFrom n (t + 3) (o + 3) ht.2.2.1 ho.2.2.1 m6) zc_X9 ht.2.2.1.1 k_287 k_288 k_289 k_3 k_290 zn_X9_copyFrom ⟨rfl, rfl, Nat.le_of_ble_eq_true rfl, Nat.le_of_ble_eq_true rfl⟩ (Nat.le_of_ble_eq_true rfl) rfl (fun v9 m10 ho12 => ?_)
  refine z_aload_n dX3_copyFrom_54 0 rfl ?_
  refine z_getR dX3_copyFrom_55 (k := 6) (j := (t + 5)) zc_X3 ht.1 rfl (by decide) k_90 ?_
  refine z_aload_n dX3_copyFrom_58 1 rfl ?_
  refine z_getR dX3_copyFrom_59 (k := 6) (j := (o + 5)) zc_X3 ho.1 rfl (by decide) k_90 ?_
  refine z_callV0 dX3_copyFrom_62 rfl (ct_X9_copyFrom n (t + 5) (o + 5) ht.2.2.2.1 ho.2.2.2.1 m10) zc_X9 ht.2.2.2.1.1 k_287 k_288 k_289 k_3 k_290 zn_X9_copyFrom ⟨rfl, rfl, Nat.le_of_ble_eq_true rfl, Nat.le_of_ble_eq_true rfl⟩ (Nat.le_of_ble_eq_true rfl) rfl (fun v13 m14 ho16 => ?_)
  refine z_aload_n dX3_copyFrom_65 0 rfl ?_
  refine z_getR dX3_copyFrom_66 (k := 7) (j := (t + 7)) zc_X3 ht.1 rfl (by decide) k_94 ?_
  refine z_aload_n dX3_copyFrom_69 1 rfl ?_
  refine z_getR dX3_copyFrom_70 (k := 7) (j := (o + 7)) zc_X3 ho.1 rfl (by decide) k_94 ?_
  refine z_callV0 dX3_copyFrom_73 rfl (ct_X9_copyFrom n (t + 7) (o + 7) ht.2.2.2.2.1 ho.2.2.2.2.1 m14) zc_X9 ht.2.2.2.2.1.1 k_287 k_288 k_289 k_3 k_290 zn_X9_copyFrom ⟨rfl, rfl, Nat.le_of_ble_eq_true rfl, Nat.le_of_ble_eq_true rfl⟩ (Nat.le_of_ble_eq_true rfl) rfl (fun v17 m18 ho20 => ?_)
  refine z_aload_n dX3_copyFrom_76 0 rfl ?_
  refine z_getR dX3_copyFrom_77 (k := 8) (j := (t + 9)) zc_X3 ht.1 rfl (by decide) k_97 ?_
  refine z_aload_n dX3_copyFrom_80 1 rfl ?_
  refine z_getR dX3_copyFrom_81 (k := 8) (j := (o + 9)) zc_X3 ho.1 rfl (by decide) k_97 ?_
  refine z_callV0 dX3_copyFrom_84 rfl (ct_X9_copyFrom n (t + 9) (o + 9) ht.2.2.2.2.2.1 ho.2.2.2.2.2.1 m18) zc_X9 ht.2.2.2.2.2.1.1 k_287 k_288 k_289 k_3 k_290 zn_X9_copyFrom ⟨rfl, rfl, Nat.le_of_ble_eq_true rfl, Nat.le_of_ble_eq_true rfl⟩ (Nat.le_of_ble_eq_true rfl) rfl (fun v21 m22 ho24 => ?_)
  refine z_aload_n dX3_copyFrom_87 0 rfl ?_
  refine z_getR dX3_copyFrom_88 (k := 9) (j := (t + 11)) zc_X3 ht.1 rfl (by decide) k_99 ?_
  refine z_aload_n dX3_copyFrom_91 1 rfl ?_
  refine z_getR dX3_copyFrom_92 (k := 9) (j := (o + 11)) zc_X3 ho.1 rfl (by decide) k_99 ?_
  refine z_callV0 dX3_copyFrom_95 rfl (ct_X9_copyFrom n (t + 11) (o + 11) ht.2.2.2.2.2.2 ho.2.2.2.2.2.2 m22) zc_X9 ht.2.2.2.2.2.2.1 k_287 k_288 k_289 k_3 k_290 zn_X9_copyFrom ⟨rfl, rfl, Nat.le_of_ble_eq_true rfl, Nat.le_of_ble_eq_true rfl⟩ (Nat.le_of_ble_eq_true rfl) rfl (fun v25 m26 ho28 => ?_)
  exact z_vret dX3_copyFrom_98 rfl rfl
set_option maxRecDepth 20000 in
theorem T_X3_allHouse_4 {ad sc sv : Nat → Nat} (n : Nat) (r4 : Int → Int → ZMem → ZR) (hr4 : ∀ (x1 : Int) (x2 : Int) (m : ZMem), R32 x1 → R32 x2 → zG LX ad sc sv M_X3_allHouse 4 [(0, .ref (ad 1)), (1, .int (mI x1)), (2, .int (mI x2))] [] m (r4 x1 x2 m)) : ∀ (x1 : Int) (x2 : Int) (m : ZMem), R32 x1 → R32 x2 → zG LX ad sc sv M_X3_allHouse 4 [(0, .ref (ad 1)), (1, .int (mI x1)), (2, .int (mI x2))] [] m (B_X3_allHouse_4 n r4 x1 x2 m) := by
  intro x1 x2 m hx1 hx2
  unfold B_X3_allHouse_4
  refine z_iload_n dX3_allHouse_4 2 rfl ?_
  refine z_aload_n dX3_allHouse_5 0 rfl ?_
  refine z_getR dX3_allHouse_6 (k := 4) (j := 2) zc_X3 lx_1 rfl (by decide) k_80 ?_
  refine z_callV1 dX3_allHouse_9 rfl (ct_X9_size n 2 zt_2 m) zc_X9 lx_2 k_532 k_276 k_277 k_3 k_278 zn_X9_size ⟨rfl, rfl, Nat.le_of_ble_eq_true rfl, Nat.le_of_ble_eq_true rfl⟩ (Nat.le_of_ble_eq_true rfl) rfl (fun v1 m2 h3 ho4 => ?_)
  refine z_icmp_ge dX3_allHouse_12 hx2 h3 (tgt := 33) rfl (fun h5 => ?_) (fun h5 => ?_)
  · refine z_iload_n dX3_allHouse_33 1 rfl ?_
    exact z_iret dX3_allHouse_34 rfl rfl hx1
  · refine z_iload_n dX3_allHouse_15 1 rfl ?_
    refine z_aload_n dX3_allHouse_16 0 rfl ?_
    refine z_getR dX3_allHouse_17 (k := 4) (j := 2) zc_X3 lx_1 rfl (by decide) k_80 ?_
    refine z_iload_n dX3_allHouse_20 2 rfl ?_
    refine z_iconst dX3_allHouse_21 ?_
    refine z_callV1 dX3_allHouse_22 rfl (ct_X9_at n 2 zt_2 x2 4 m2 hx2 (by decide)) zc_X9 lx_2 k_457 k_264 k_265 k_3 k_266 zn_X9_at ⟨rfl, rfl, Nat.le_of_ble_eq_true rfl, Nat.le_of_ble_eq_true rfl⟩ (Nat.le_of_ble_eq_true rfl) rfl (fun v6 m7 h8 ho9 => ?_)
    refine z_iadd dX3_allHouse_25 (fun h10 => ?_)
    refine z_istore_n dX3_allHouse_26 (lv' := [(1, .int (mI (x1 + v6))), (0, .ref (ad 1)), (2, .int (mI x2))]) (by decide) rfl ?_
    refine z_iinc dX3_allHouse_27 (lv' := [(2, .int (mI (x2 + 1))), (1, .int (mI (x1 + v6))), (0, .ref (ad 1))]) 2 rfl (by decide) rfl (fun h11 => ?_)
    refine z_goto dX3_allHouse_30 (tgt := 4) rfl ?_
    exact zG_lvk (hr4 (x1 + v6) (x2 + 1) m7 h10 h11) [2, 1, 0] rfl
theorem TL_X3_allHouse_4 {ad sc sv : Nat → Nat} (n : Nat) : ∀ q : Nat, ∀ (x1 : Int) (x2 : Int) (m : ZMem), R32 x1 → R32 x2 → zG LX ad sc sv M_X3_allHouse 4 [(0, .ref (ad 1)), (1, .int (mI x1)), (2, .int (mI x2))] [] m (L_X3_allHouse_4 n q x1 x2 m) := by
  intro q
  induction q with
  | zero => intros; exact zG_none
  | succ q ih => exact T_X3_allHouse_4 n (L_X3_allHouse_4 n q) ih
set_option maxRecDepth 20000 in
theorem ct_X3_allHouse {ad sc sv : Nat → Nat} (n : Nat) (m : ZMem) : zCT LX ad sc sv M_X3_allHouse yX3_allHouse [.ref (ad 1)] m (F_X3_allHouse n m) := by
  refine zCT_of (lv := [(0, .ref (ad 1))]) (by decide) rfl (Nat.le_of_ble_eq_true rfl) rfl ?_
  unfold F_X3_allHouse
  refine z_iconst dX3_allHouse_0 ?_
  refine z_istore_n dX3_allHouse_1 (lv' := [(1, .int (mI 0)), (0, .ref (ad 1))]) (by decide) rfl ?_
  refine z_iconst dX3_allHouse_2 ?_
  refine z_istore_n dX3_allHouse_3 (lv' := [(2, .int (mI 0)), (1, .int (mI 0)), (0, .ref (ad 1))]) (by decide) rfl ?_
  exact zG_lvk (TL_X3_allHouse_4 n n 0 0 m (by decide) (by decide)) [2, 1, 0] rfl
set_option maxRecDepth 20000 in
theorem ct_X3_takenNow {ad sc sv : Nat → Nat} (n : Nat) (a0 : Int) (m : ZMem) (ha0 : R32 a0) : zCT LX ad sc sv M_X3_takenNow yX3_takenNow [.ref (ad 1), .int (mI a0)] m (F_X3_takenNow n a0 m) := by
  refine zCT_of (lv := [(0, .ref (ad 1)), (1, .int (mI a0))]) (by decide) rfl (Nat.le_of_ble_eq_true rfl) rfl ?_
  unfold F_X3_takenNow
  refine z_aload_n dX3_takenNow_0 0 rfl ?_
  refine z_iload_n dX3_takenNow_1 1 rfl ?_
  refine z_aload_n dX3_takenNow_2 0 rfl ?_
  refine z_getI dX3_takenNow_3 (k := 1) zc_X3 lx_1 rfl (by decide) k_70 (fun h1 => ?_)
  refine z_aload_n dX3_takenNow_6 0 rfl ?_
  refine z_getI dX3_takenNow_7 (k := 0) zc_X3 lx_1 rfl (by decide) k_64 (fun h2 => ?_)
  refine z_callV1 dX3_takenNow_10 rfl (ct_X3_taken n a0 (m 1 1) (m 1 0) m ha0 h1 h2) zc_X3 lx_1 k_453 k_454 k_455 k_2 k_456 zn_X3_taken ⟨rfl, rfl, Nat.le_of_ble_eq_true rfl, Nat.le_of_ble_eq_true rfl⟩ (Nat.le_of_ble_eq_true rfl) rfl (fun v3 m4 h5 ho6 => ?_)
  exact z_iret dX3_takenNow_13 rfl rfl h5
set_option maxRecDepth 20000 in
theorem ct_X3_offBy {ad sc sv : Nat → Nat} (n : Nat) (a0 : Int) (a1 : Int) (a2 : Int) (m : ZMem) (ha0 : R32 a0) (ha1 : R32 a1) (ha2 : R32 a2) : zCT LX ad sc sv M_X3_offBy yX3_offBy [.ref (ad 1), .int (mI a0), .int (mI a1), .int (mI a2)] m (F_X3_offBy n a0 a1 a2 m) := by
  refine zCT_of (lv := [(0, .ref (ad 1)), (1, .int (mI a0)), (2, .int (mI a1)), (3, .int (mI a2))]) (by decide) rfl (Nat.le_of_ble_eq_true rfl) rfl ?_
  unfold F_X3_offBy
  refine z_bipush dX3_offBy_0 (x := 12) (by decide +kernel) ?_
  refine z_aload_n dX3_offBy_2 0 rfl ?_
  refine z_getR dX3_offBy_3 (k := 4) (j := 2) zc_X3 lx_1 rfl (by decide) k_80 ?_
  refine z_iload_n dX3_offBy_6 1 rfl ?_
  refine z_iconst dX3_offBy_7 ?_
  refine z_callV1 dX3_offBy_8 rfl (ct_X9_at n 2 zt_2 a0 3 m ha0 (by decide)) zc_X9 lx_2 k_457 k_264 k_265 k_3 k_266 zn_X9_at ⟨rfl, rfl, Nat.le_of_ble_eq_true rfl, Nat.le_of_ble_eq_true rfl⟩ (Nat.le_of_ble_eq_true rfl) rfl (fun v1 m2 h3 ho4 => ?_)
  refine z_imul dX3_offBy_11 (fun h5 => ?_)
  refine z_iload_n dX3_offBy_12 2 rfl ?_
  refine z_imul dX3_offBy_13 (fun h6 => ?_)
  refine z_istore dX3_offBy_14 (lv' := [(4, .int (mI ((12 * v1) * a1))), (0, .ref (ad 1)), (1, .int (mI a0)), (2, .int (mI a1)), (3, .int (mI a2))]) (by decide) rfl ?_
  refine z_aload_n dX3_offBy_16 1 rfl ?_
  refine z_iload_n dX3_offBy_17 2 rfl ?_
  refine z_iload_n dX3_offBy_18 3 rfl ?_
  refine z_iload_n dX3_offBy_19 4 rfl ?_
  refine z_callV1 dX3_offBy_20 rfl (ct_X3_taken n a0 a1 a2 m2 ha0 ha1 ha2) zc_X3 lx_1 k_453 k_454 k_455 k_2 k_456 zn_X3_taken ⟨rfl, rfl, Nat.le_of_ble_eq_true rfl, Nat.le_of_ble_eq_true rfl⟩ (Nat.le_of_ble_eq_true rfl) rfl (fun v7 m8 h9 ho10 => ?_)
  refine z_iload_n dX3_offBy_23 4 rfl ?_
  refine z_imul dX3_offBy_24 (fun h11 => ?_)
  refine z_iload dX3_offBy_25 0 rfl ?_
  refine z_isub dX3_offBy_27 (fun h12 => ?_)
  refine z_mabs dX3_offBy_28 h12 k_465 k_466 k_4 k_467 (Nat.le_of_ble_eq_true rfl) (Nat.le_of_ble_eq_true rfl) (fun h13 => ?_)
  exact z_iret dX3_offBy_31 rfl rfl h13
set_option maxRecDepth 20000 in
theorem ct_X3_offAtCost {ad sc sv : Nat → Nat} (n : Nat) (a0 : Int) (a1 : Int) (a2 : Int) (m : ZMem) (ha0 : R32 a0) (ha1 : R32 a1) (ha2 : R32 a2) : zCT LX ad sc sv M_X3_offAtCost yX3_offAtCost [.ref (ad 1), .int (mI a0), .int (mI a1), .int (mI a2)] m (F_X3_offAtCost n a0 a1 a2 m) := by
  refine zCT_of (lv := [(0, .ref (ad 1)), (1, .int (mI a0)), (2, .int (mI a1)), (3, .int (mI a2))]) (by decide) rfl (Nat.le_of_ble_eq_true rfl) rfl ?_
  unfold F_X3_offAtCost
  refine z_aload_n dX3_offAtCost_0 0 rfl ?_
  refine z_iload_n dX3_offAtCost_1 1 rfl ?_
  refine z_iload_n dX3_offAtCost_2 2 rfl ?_
  refine z_iload_n dX3_offAtCost_3 3 rfl ?_
  refine z_callV1 dX3_offAtCost_4 rfl (ct_X3_offBy n a0 a1 a2 m ha0 ha1 ha2) zc_X3 lx_1 k_537 k_538 k_539 k_2 k_540 zn_X3_offBy ⟨rfl, rfl, Nat.le_of_ble_eq_true rfl, Nat.le_of_ble_eq_true rfl⟩ (Nat.le_of_ble_eq_true rfl) rfl (fun v1 m2 h3 ho4 => ?_)
  refine z_aload_n dX3_offAtCost_7 0 rfl ?_
  refine z_getR dX3_offAtCost_8 (k := 4) (j := 2) zc_X3 lx_1 rfl (by decide) k_80 ?_
  refine z_iload_n dX3_offAtCost_11 1 rfl ?_
  refine z_iconst dX3_offAtCost_12 ?_
  refine z_callV1 dX3_offAtCost_13 rfl (ct_X9_at n 2 zt_2 a0 2 m2 ha0 (by decide)) zc_X9 lx_2 k_457 k_264 k_265 k_3 k_266 zn_X9_at ⟨rfl, rfl, Nat.le_of_ble_eq_true rfl, Nat.le_of_ble_eq_true rfl⟩ (Nat.le_of_ble_eq_true rfl) rfl (fun v5 m6 h7 ho8 => ?_)
  refine z_imul dX3_offAtCost_16 (fun h9 => ?_)
  exact z_iret dX3_offAtCost_17 rfl rfl h9
