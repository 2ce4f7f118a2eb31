set_option maxRecDepth 20000 in
theorem T_X12_readStatement_100 {ad sc sv : Nat → Nat} (n : Nat) : ∀ (x2 : Int) (x3 : Int) (s0 : Int) (s1 : Int) (m : ZMem), R32 x2 → R32 x3 → R32 s0 → R32 s1 → zG LM ad sc sv M_X12_readStatement 100 [(0, .ref (ad 0)), (2, .int (mI x2)), (3, .int (mI x3))] [.int (mI s0), .int (mI s1), .ref (ad 0)] m (B_X12_readStatement_100 n x2 x3 s0 s1 m) := by
  intro x2 x3 s0 s1 m hx2 hx3 hs0 hs1
  unfold B_X12_readStatement_100
  refine z_iadd dX12_readStatement_100 (fun h40 => ?_)
  refine z_putI dX12_readStatement_101 (k := 20) zc_X12 lm_0 rfl (by decide) rfl rfl h40 k_1058 ?_
  refine z_iload_n dX12_readStatement_104 1 rfl ?_
  refine z_case (fun hc41 => ?_) (fun hc41 => ?_)
  · refine z_tsIn dX12_readStatement_105 (cst := 102) hc41 (by decide) (by decide) rfl (tgt := 180) rfl ?_
    refine z_aload_n dX12_readStatement_180 0 rfl ?_
    refine z_getR dX12_readStatement_181 (k := 25) (j := 14) zc_X12 lm_0 rfl (by decide) k_1063 ?_
    refine z_iload_n dX12_readStatement_184 2 rfl ?_
    refine z_aload_n dX12_readStatement_185 0 rfl ?_
    refine z_callV1 dX12_readStatement_186 rfl (ct_X12_readOneOrTwo n (wr m 0 20 (s1 + s0))) zc_X12 lm_0 k_1210 k_1212 kp_40 k_10 k_1213 zn_X12_readOneOrTwo ⟨rfl, rfl, Nat.le_of_ble_eq_true rfl, Nat.le_of_ble_eq_true rfl⟩ (Nat.le_of_ble_eq_true rfl) rfl (fun v42 m43 h44 ho45 => ?_)
    refine z_iastore dX12_readStatement_189 hx3 h44 ?_
    refine z_goto dX12_readStatement_190 (tgt := 313) rfl ?_
    refine z_aload_n dX12_readStatement_313 0 rfl ?_
    refine z_bipush dX12_readStatement_314 (x := 59) (by decide +kernel) ?_
    refine z_callV0 dX12_readStatement_316 rfl (ct_X12_take n 59 (wr m43 14 (x3 : Int).toNat v42) (by decide)) zc_X12 lm_0 k_1227 k_1229 kp_43 k_10 k_1230 zn_X12_take ⟨rfl, rfl, Nat.le_of_ble_eq_true rfl, Nat.le_of_ble_eq_true rfl⟩ (Nat.le_of_ble_eq_true rfl) rfl (fun v46 m47 ho49 => ?_)
    refine z_aload_n dX12_readStatement_319 0 rfl ?_
    refine z_dup dX12_readStatement_320 rfl ?_
    refine z_getI dX12_readStatement_321 (k := 22) zc_X12 lm_0 rfl (by decide) k_1060 (fun h50 => ?_)
    refine z_iconst dX12_readStatement_324 ?_
    refine z_iadd dX12_readStatement_325 (fun h51 => ?_)
    refine z_putI dX12_readStatement_326 (k := 22) zc_X12 lm_0 rfl (by decide) rfl rfl h51 k_1060 ?_
    exact z_vret dX12_readStatement_329 rfl rfl
  · refine z_case (fun hc52 => ?_) (fun hc52 => ?_)
    · refine z_tsIn dX12_readStatement_105 (cst := 103) hc52 (by decide) (by decide) rfl (tgt := 279) rfl ?_
      refine z_aload_n dX12_readStatement_279 0 rfl ?_
      refine z_getR dX12_readStatement_280 (k := 25) (j := 14) zc_X12 lm_0 rfl (by decide) k_1063 ?_
      refine z_iload_n dX12_readStatement_283 2 rfl ?_
      refine z_aload_n dX12_readStatement_284 0 rfl ?_
      refine z_callV1 dX12_readStatement_285 rfl (ct_X12_readTwo n (wr m 0 20 (s1 + s0))) zc_X12 lm_0 k_1235 k_1237 kp_45 k_10 k_1238 zn_X12_readTwo ⟨rfl, rfl, Nat.le_of_ble_eq_true rfl, Nat.le_of_ble_eq_true rfl⟩ (Nat.le_of_ble_eq_true rfl) rfl (fun v53 m54 h55 ho56 => ?_)
      refine z_iastore dX12_readStatement_288 hx3 h55 ?_
      refine z_aload_n dX12_readStatement_289 0 rfl ?_
      refine z_getR dX12_readStatement_290 (k := 25) (j := 14) zc_X12 lm_0 rfl (by decide) k_1063 ?_
      refine z_iload_n dX12_readStatement_293 2 rfl ?_
      refine z_iconst dX12_readStatement_294 ?_
      refine z_iadd dX12_readStatement_295 (fun h57 => ?_)
      refine z_aload_n dX12_readStatement_296 0 rfl ?_
      refine z_callV1 dX12_readStatement_297 rfl (ct_X12_readTwo n (wr m54 14 (x3 : Int).toNat v53)) zc_X12 lm_0 k_1235 k_1237 kp_45 k_10 k_1238 zn_X12_readTwo ⟨rfl, rfl, Nat.le_of_ble_eq_true rfl, Nat.le_of_ble_eq_true rfl⟩ (Nat.le_of_ble_eq_true rfl) rfl (fun v58 m59 h60 ho61 => ?_)
      refine z_iastore dX12_readStatement_300 h57 h60 ?_
      refine z_aload_n dX12_readStatement_301 0 rfl ?_
      refine z_getR dX12_readStatement_302 (k := 25) (j := 14) zc_X12 lm_0 rfl (by decide) k_1063 ?_
      refine z_iload_n dX12_readStatement_305 2 rfl ?_
      refine z_iconst dX12_readStatement_306 ?_
      refine z_iadd dX12_readStatement_307 (fun h62 => ?_)
      refine z_aload_n dX12_readStatement_308 0 rfl ?_
      refine z_callV1 dX12_readStatement_309 rfl (ct_X12_readTwo n (wr m59 14 ((x3 + 1) : Int).toNat v58)) zc_X12 lm_0 k_1235 k_1237 kp_45 k_10 k_1238 zn_X12_readTwo ⟨rfl, rfl, Nat.le_of_ble_eq_true rfl, Nat.le_of_ble_eq_true rfl⟩ (Nat.le_of_ble_eq_true rfl) rfl (fun v63 m64 h65 ho66 => ?_)
      refine z_iastore dX12_readStatement_312 h62 h65 ?_
      refine z_aload_n dX12_readStatement_313 0 rfl ?_
      refine z_bipush dX12_readStatement_314 (x := 59) (by decide +kernel) ?_
      refine z_callV0 dX12_readStatement_316 rfl (ct_X12_take n 59 (wr m64 14 ((x3 + 2) : Int).toNat v63) (by decide)) zc_X12 lm_0 k_1227 k_1229 kp_43 k_10 k_1230 zn_X12_take ⟨rfl, rfl, Nat.le_of_ble_eq_true rfl, Nat.le_of_ble_eq_true rfl⟩ (Nat.le_of_ble_eq_true rfl) rfl (fun v67 m68 ho70 => ?_)
      refine z_aload_n dX12_readStatement_319 0 rfl ?_
      refine z_dup dX12_readStatement_320 rfl ?_
      refine z_getI dX12_readStatement_321 (k := 22) zc_X12 lm_0 rfl (by decide) k_1060 (fun h71 => ?_)
      refine z_iconst dX12_readStatement_324 ?_
      refine z_iadd dX12_readStatement_325 (fun h72 => ?_)
      refine z_putI dX12_readStatement_326 (k := 22) zc_X12 lm_0 rfl (by decide) rfl rfl h72 k_1060 ?_
      exact z_vret dX12_readStatement_329 rfl rfl
    · refine z_case (fun hc73 => ?_) (fun hc73 => ?_)
      · refine z_tsIn dX12_readStatement_105 (cst := 104) hc73 (by decide) (by decide) rfl (tgt := 214) rfl ?_
        refine z_aload_n dX12_readStatement_214 0 rfl ?_
        refine z_getR dX12_readStatement_215 (k := 25) (j := 14) zc_X12 lm_0 rfl (by decide) k_1063 ?_
        refine z_iload_n dX12_readStatement_218 2 rfl ?_
        refine z_aload_n dX12_readStatement_219 0 rfl ?_
        refine z_callV1 dX12_readStatement_220 rfl (ct_X12_readDigit n (wr m 0 20 (s1 + s0))) zc_X12 lm_0 k_1214 k_1216 kp_41 k_10 k_1217 zn_X12_readDigit ⟨rfl, rfl, Nat.le_of_ble_eq_true rfl, Nat.le_of_ble_eq_true rfl⟩ (Nat.le_of_ble_eq_true rfl) rfl (fun v74 m75 h76 ho77 => ?_)
        refine z_iastore dX12_readStatement_223 hx3 h76 ?_
        refine z_aload_n dX12_readStatement_224 0 rfl ?_
        refine z_bipush dX12_readStatement_225 (x := 61) (by decide +kernel) ?_
        refine z_callV0 dX12_readStatement_227 rfl (ct_X12_take n 61 (wr m75 14 (x3 : Int).toNat v74) (by decide)) zc_X12 lm_0 k_1227 k_1229 kp_43 k_10 k_1230 zn_X12_take ⟨rfl, rfl, Nat.le_of_ble_eq_true rfl, Nat.le_of_ble_eq_true rfl⟩ (Nat.le_of_ble_eq_true rfl) rfl (fun v78 m79 ho81 => ?_)
        refine z_aload_n dX12_readStatement_230 0 rfl ?_
        refine z_getR dX12_readStatement_231 (k := 25) (j := 14) zc_X12 lm_0 rfl (by decide) k_1063 ?_
        refine z_iload_n dX12_readStatement_234 2 rfl ?_
        refine z_iconst dX12_readStatement_235 ?_
        refine z_iadd dX12_readStatement_236 (fun h82 => ?_)
        refine z_aload_n dX12_readStatement_237 0 rfl ?_
        refine z_callV1 dX12_readStatement_238 rfl (ct_X12_readOneOrTwo n m79) zc_X12 lm_0 k_1210 k_1212 kp_40 k_10 k_1213 zn_X12_readOneOrTwo ⟨rfl, rfl, Nat.le_of_ble_eq_true rfl, Nat.le_of_ble_eq_true rfl⟩ (Nat.le_of_ble_eq_true rfl) rfl (fun v83 m84 h85 ho86 => ?_)
        refine z_iastore dX12_readStatement_241 h82 h85 ?_
        refine z_goto dX12_readStatement_242 (tgt := 313) rfl ?_
        refine z_aload_n dX12_readStatement_313 0 rfl ?_
        refine z_bipush dX12_readStatement_314 (x := 59) (by decide +kernel) ?_
        refine z_callV0 dX12_readStatement_316 rfl (ct_X12_take n 59 (wr m84 14 ((x3 + 1) : Int).toNat v83) (by decide)) zc_X12 lm_0 k_1227 k_1229 kp_43 k_10 k_1230 zn_X12_take ⟨rfl, rfl, Nat.le_of_ble_eq_true rfl, Nat.le_of_ble_eq_true rfl⟩ (Nat.le_of_ble_eq_true rfl) rfl (fun v87 m88 ho90 => ?_)
        refine z_aload_n dX12_readStatement_319 0 rfl ?_
        refine z_dup dX12_readStatement_320 rfl ?_
        refine z_getI dX12_readStatement_321 (k := 22) zc_X12 lm_0 rfl (by decide) k_1060 (fun h91 => ?_)
        refine z_iconst dX12_readStatement_324 ?_
        refine z_iadd dX12_readStatement_325 (fun h92 => ?_)
        refine z_putI dX12_readStatement_326 (k := 22) zc_X12 lm_0 rfl (by decide) rfl rfl h92 k_1060 ?_
        exact z_vret dX12_readStatement_329 rfl rfl
      · refine z_case (fun hc93 => ?_) (fun hc93 => ?_)
        · refine z_tsIn dX12_readStatement_105 (cst := 105) hc93 (by decide) (by decide) rfl (tgt := 279) rfl ?_
          refine z_aload_n dX12_readStatement_279 0 rfl ?_
          refine z_getR dX12_readStatement_280 (k := 25) (j := 14) zc_X12 lm_0 rfl (by decide) k_1063 ?_
          refine z_iload_n dX12_readStatement_283 2 rfl ?_
          refine z_aload_n dX12_readStatement_284 0 rfl ?_
          refine z_callV1 dX12_readStatement_285 rfl (ct_X12_readTwo n (wr m 0 20 (s1 + s0))) zc_X12 lm_0 k_1235 k_1237 kp_45 k_10 k_1238 zn_X12_readTwo ⟨rfl, rfl, Nat.le_of_ble_eq_true rfl, Nat.le_of_ble_eq_true rfl⟩ (Nat.le_of_ble_eq_true rfl) rfl (fun v94 m95 h96 ho97 => ?_)
          refine z_iastore dX12_readStatement_288 hx3 h96 ?_
          refine z_aload_n dX12_readStatement_289 0 rfl ?_
          refine z_getR dX12_readStatement_290 (k := 25) (j := 14) zc_X12 lm_0 rfl (by decide) k_1063 ?_
          refine z_iload_n dX12_readStatement_293 2 rfl ?_
          refine z_iconst dX12_readStatement_294 ?_
          refine z_iadd dX12_readStatement_295 (fun h98 => ?_)
          refine z_aload_n dX12_readStatement_296 0 rfl ?_
          refine z_callV1 dX12_readStatement_297 rfl (ct_X12_readTwo n (wr m95 14 (x3 : Int).toNat v94)) zc_X12 lm_0 k_1235 k_1237 kp_45 k_10 k_1238 zn_X12_readTwo ⟨rfl, rfl, Nat.le_of_ble_eq_true rfl, Nat.le_of_ble_eq_true rfl⟩ (Nat.le_of_ble_eq_true rfl) rfl (fun v99 m100 h101 ho102 => ?_)
          refine z_iastore dX12_readStatement_300 h98 h101 ?_
          refine z_aload_n dX12_readStatement_301 0 rfl ?_
          refine z_getR dX12_readStatement_302 (k := 25) (j := 14) zc_X12 lm_0 rfl (by decide) k_1063 ?_
          refine z_iload_n dX12_readStatement_305 2 rfl ?_
          refine z_iconst dX12_readStatement_306 ?_
          refine z_iadd dX12_readStatement_307 (fun h103 => ?_)
          refine z_aload_n dX12_readStatement_308 0 rfl ?_
          refine z_callV1 dX12_readStatement_309 rfl (ct_X12_readTwo n (wr m100 14 ((x3 + 1) : Int).toNat v99)) zc_X12 lm_0 k_1235 k_1237 kp_45 k_10 k_1238 zn_X12_readTwo ⟨rfl, rfl, Nat.le_of_ble_eq_true rfl, Nat.le_of_ble_eq_true rfl⟩ (Nat.le_of_ble_eq_true rfl) rfl (fun v104 m105 h106 ho107 => ?_)
          refine z_iastore dX12_readStatement_312 h103 h106 ?_
          refine z_aload_n dX12_readStatement_313 0 rfl ?_
          refine z_bipush dX12_readStatement_314 (x := 59) (by decide +kernel) ?_
          refine z_callV0 dX12_readStatement_316 rfl (ct_X12_take n 59 (wr m105 14 ((x3 + 2) : Int).toNat v104) (by decide)) zc_X12 lm_0 k_1227 k_1229 kp_43 k_10 k_1230 zn_X12_take ⟨rfl, rfl, Nat.le_of_ble_eq_true rfl, Nat.le_of_ble_eq_true rfl⟩ (Nat.le_of_ble_eq_true rfl) rfl (fun v108 m109 ho111 => ?_)
          refine z_aload_n dX12_readStatement_319 0 rfl ?_
          refine z_dup dX12_readStatement_320 rfl ?_
          refine z_getI dX12_readStatement_321 (k := 22) zc_X12 lm_0 rfl (by decide) k_1060 (fun h112 => ?_)
          refine z_iconst dX12_readStatement_324 ?_
          refine z_iadd dX12_readStatement_325 (fun h113 => ?_)
          refine z_putI dX12_readStatement_326 (k := 22) zc_X12 lm_0 rfl (by decide) rfl rfl h113 k_1060 ?_
          exact z_vret dX12_readStatement_329 rfl rfl
        · refine z_case (fun hc114 => ?_) (fun hc114 => ?_)
          · refine z_tsIn dX12_readStatement_105 (cst := 106) hc114 (by decide) (by decide) rfl (tgt := 279) rfl ?_
            refine z_aload_n dX12_readStatement_279 0 rfl ?_
            refine z_getR dX12_readStatement_280 (k := 25) (j := 14) zc_X12 lm_0 rfl (by decide) k_1063 ?_
            refine z_iload_n dX12_readStatement_283 2 rfl ?_
            refine z_aload_n dX12_readStatement_284 0 rfl ?_
            refine z_callV1 dX12_readStatement_285 rfl (ct_X12_readTwo n (wr m 0 20 (s1 + s0))) zc_X12 lm_0 k_1235 k_1237 kp_45 k_10 k_1238 zn_X12_readTwo ⟨rfl, rfl, Nat.le_of_ble_eq_true rfl, Nat.le_of_ble_eq_true rfl⟩ (Nat.le_of_ble_eq_true rfl) rfl (fun v115 m116 h117 ho118 => ?_)
            refine z_iastore dX12_readStatement_288 hx3 h117 ?_
            refine z_aload_n dX12_readStatement_289 0 rfl ?_
            refine z_getR dX12_readStatement_290 (k := 25) (j := 14) zc_X12 lm_0 rfl (by decide) k_1063 ?_
            refine z_iload_n dX12_readStatement_293 2 rfl ?_
            refine z_iconst dX12_readStatement_294 ?_
            refine z_iadd dX12_readStatement_295 (fun h119 => ?_)
            refine z_aload_n dX12_readStatement_296 0 rfl ?_
            refine z_callV1 dX12_readStatement_297 rfl (ct_X12_readTwo n (wr m116 14 (x3 : Int).toNat v115)) zc_X12 lm_0 k_1235 k_1237 kp_45 k_10 k_1238 zn_X12_readTwo ⟨rfl, rfl, Nat.le_of_ble_eq_true rfl, Nat.le_of_ble_eq_true rfl⟩ (Nat.le_of_ble_eq_true rfl) rfl (fun v120 m121 h122 ho123 => ?_)
            refine z_iastore dX12_readStatement_300 h119 h122 ?_
            refine z_aload_n dX12_readStatement_301 0 rfl ?_
            refine z_getR dX12_readStatement_302 (k := 25) (j := 14) zc_X12 lm_0 rfl (by decide) k_1063 ?_
            refine z_iload_n dX12_readStatement_305 2 rfl ?_
            refine z_iconst dX12_readStatement_306 ?_
            refine z_iadd dX12_readStatement_307 (fun h124 => ?_)
            refine z_aload_n dX12_readStatement_308 0 rfl ?_
            refine z_callV1 dX12_readStatement_309 rfl (ct_X12_readTwo n (wr m121 14 ((x3 + 1) : Int).toNat v120)) zc_X12 lm_0 k_1235 k_1237 kp_45 k_10 k_1238 zn_X12_readTwo ⟨rfl, rfl, Nat.le_of_ble_eq_true rfl, Nat.le_of_ble_eq_true rfl⟩ (Nat.le_of_ble_eq_true rfl) rfl (fun v125 m126 h127 ho128 => ?_)
            refine z_iastore dX12_readStatement_312 h124 h127 ?_
            refine z_aload_n dX12_readStatement_313 0 rfl ?_
            refine z_bipush dX12_readStatement_314 (x := 59) (by decide +kernel) ?_
            refine z_callV0 dX12_readStatement_316 rfl (ct_X12_take n 59 (wr m126 14 ((x3 + 2) : Int).toNat v125) (by decide)) zc_X12 lm_0 k_1227 k_1229 kp_43 k_10 k_1230 zn_X12_take ⟨rfl, rfl, Nat.le_of_ble_eq_true rfl, Nat.le_of_ble_eq_true rfl⟩ (Nat.le_of_ble_eq_true rfl) rfl (fun v129 m130 ho132 => ?_)
            refine z_aload_n dX12_readStatement_319 0 rfl ?_
            refine z_dup dX12_readStatement_320 rfl ?_
            refine z_getI dX12_readStatement_321 (k := 22) zc_X12 lm_0 rfl (by decide) k_1060 (fun h133 => ?_)
            refine z_iconst dX12_readStatement_324 ?_
            refine z_iadd dX12_readStatement_325 (fun h134 => ?_)
            refine z_putI dX12_readStatement_326 (k := 22) zc_X12 lm_0 rfl (by decide) rfl rfl h134 k_1060 ?_
            exact z_vret dX12_readStatement_329 rfl rfl
          · refine z_case (fun hc135 => ?_) (fun hc135 => ?_)
            · refine z_tsIn dX12_readStatement_105 (cst := 107) hc135 (by decide) (by decide) rfl (tgt := 279) rfl ?_
              refine z_aload_n dX12_readStatement_279 0 rfl ?_
              refine z_getR dX12_readStatement_280 (k := 25) (j := 14) zc_X12 lm_0 rfl (by decide) k_1063 ?_
              refine z_iload_n dX12_readStatement_283 2 rfl ?_
              refine z_aload_n dX12_readStatement_284 0 rfl ?_
              refine z_callV1 dX12_readStatement_285 rfl (ct_X12_readTwo n (wr m 0 20 (s1 + s0))) zc_X12 lm_0 k_1235 k_1237 kp_45 k_10 k_1238 zn_X12_readTwo ⟨rfl, rfl, Nat.le_of_ble_eq_true rfl, Nat.le_of_ble_eq_true rfl⟩ (Nat.le_of_ble_eq_true rfl) rfl (fun v136 m137 h138 ho139 => ?_)
              refine z_iastore dX12_readStatement_288 hx3 h138 ?_
              refine z_aload_n dX12_readStatement_289 0 rfl ?_
              refine z_getR dX12_readStatement_290 (k := 25) (j := 14) zc_X12 lm_0 rfl (by decide) k_1063 ?_
              refine z_iload_n dX12_readStatement_293 2 rfl ?_
              refine z_iconst dX12_readStatement_294 ?_
              refine z_iadd dX12_readStatement_295 (fun h140 => ?_)
              refine z_aload_n dX12_readStatement_296 0 rfl ?_
              refine z_callV1 dX12_readStatement_297 rfl (ct_X12_readTwo n (wr m137 14 (x3 : Int).toNat v136)) zc_X12 lm_0 k_1235 k_1237 kp_45 k_10 k_1238 zn_X12_readTwo ⟨rfl, rfl, Nat.le_of_ble_eq_true rfl, Nat.le_of_ble_eq_true rfl⟩ (Nat.le_of_ble_eq_true rfl) rfl (fun v141 m142 h143 ho144 => ?_)
              refine z_iastore dX12_readStatement_300 h140 h143 ?_
              refine z_aload_n dX12_readStatement_301 0 rfl ?_
              refine z_getR dX12_readStatement_302 (k := 25) (j := 14) zc_X12 lm_0 rfl (by decide) k_1063 ?_
              refine z_iload_n dX12_readStatement_305 2 rfl ?_
              refine z_iconst dX12_readStatement_306 ?_
              refine z_iadd dX12_readStatement_307 (fun h145 => ?_)
              refine z_aload_n dX12_readStatement_308 0 rfl ?_
              refine z_callV1 dX12_readStatement_309 rfl (ct_X12_readTwo n (wr m142 14 ((x3 + 1) : Int).toNat v141)) zc_X12 lm_0 k_1235 k_1237 kp_45 k_10 k_1238 zn_X12_readTwo ⟨rfl, rfl, Nat.le_of_ble_eq_true rfl, Nat.le_of_ble_eq_true rfl⟩ (Nat.le_of_ble_eq_true rfl) rfl (fun v146 m147 h148 ho149 => ?_)
              refine z_iastore dX12_readStatement_312 h145 h148 ?_
              refine z_aload_n dX12_readStatement_313 0 rfl ?_
              refine z_bipush dX12_readStatement_314 (x := 59) (by decide +kernel) ?_
              refine z_callV0 dX12_readStatement_316 rfl (ct_X12_take n 59 (wr m147 14 ((x3 + 2) : Int).toNat v146) (by decide)) zc_X12 lm_0 k_1227 k_1229 kp_43 k_10 k_1230 zn_X12_take ⟨rfl, rfl, Nat.le_of_ble_eq_true rfl, Nat.le_of_ble_eq_true rfl⟩ (Nat.le_of_ble_eq_true rfl) rfl (fun v150 m151 ho153 => ?_)
              refine z_aload_n dX12_readStatement_319 0 rfl ?_
              refine z_dup dX12_readStatement_320 rfl ?_
              refine z_getI dX12_readStatement_321 (k := 22) zc_X12 lm_0 rfl (by decide) k_1060 (fun h154 => ?_)
              refine z_iconst dX12_readStatement_324 ?_
              refine z_iadd dX12_readStatement_325 (fun h155 => ?_)
              refine z_putI dX12_readStatement_326 (k := 22) zc_X12 lm_0 rfl (by decide) rfl rfl h155 k_1060 ?_
              exact z_vret dX12_readStatement_329 rfl rfl
            · refine z_case (fun hc156 => ?_) (fun hc156 => ?_)
              · refine z_tsIn dX12_readStatement_105 (cst := 108) hc156 (by decide) (by decide) rfl (tgt := 279) rfl ?_
                refine z_aload_n dX12_readStatement_279 0 rfl ?_
                refine z_getR dX12_readStatement_280 (k := 25) (j := 14) zc_X12 lm_0 rfl (by decide) k_1063 ?_
                refine z_iload_n dX12_readStatement_283 2 rfl ?_
                refine z_aload_n dX12_readStatement_284 0 rfl ?_
                refine z_callV1 dX12_readStatement_285 rfl (ct_X12_readTwo n (wr m 0 20 (s1 + s0))) zc_X12 lm_0 k_1235 k_1237 kp_45 k_10 k_1238 zn_X12_readTwo ⟨rfl, rfl, Nat.le_of_ble_eq_true rfl, Nat.le_of_ble_eq_true rfl⟩ (Nat.le_of_ble_eq_true rfl) rfl (fun v157 m158 h159 ho160 => ?_)
                refine z_iastore dX12_readStatement_288 hx3 h159 ?_
                refine z_aload_n dX12_readStatement_289 0 rfl ?_
                refine z_getR dX12_readStatement_290 (k := 25) (j := 14) zc_X12 lm_0 rfl (by decide) k_1063 ?_
                refine z_iload_n dX12_readStatement_293 2 rfl ?_
                refine z_iconst dX12_readStatement_294 ?_
                refine z_iadd dX12_readStatement_295 (fun h161 => ?_)
                refine z_aload_n dX12_readStatement_296 0 rfl ?_
                refine z_callV1 dX12_readStatement_297 rfl (ct_X12_readTwo n (wr m158 14 (x3 : Int).toNat v157)) zc_X12 lm_0 k_1235 k_1237 kp_45 k_10 k_1238 zn_X12_readTwo ⟨rfl, rfl, Nat.le_of_ble_eq_true rfl, Nat.le_of_ble_eq_true rfl⟩ (Nat.le_of_ble_eq_true rfl) rfl (fun v162 m163 h164 ho165 => ?_)
                refine z_iastore dX12_readStatement_300 h161 h164 ?_
                refine z_aload_n dX12_readStatement_301 0 rfl ?_
                refine z_getR dX12_readStatement_302 (k := 25) (j := 14) zc_X12 lm_0 rfl (by decide) k_1063 ?_
                refine z_iload_n dX12_readStatement_305 2 rfl ?_
                refine z_iconst dX12_readStatement_306 ?_
                refine z_iadd dX12_readStatement_307 (fun h166 => ?_)
                refine z_aload_n dX12_readStatement_308 0 rfl ?_
                refine z_callV1 dX12_readStatement_309 rfl (ct_X12_readTwo n (wr m163 14 ((x3 + 1) : Int).toNat v162)) zc_X12 lm_0 k_1235 k_1237 kp_45 k_10 k_1238 zn_X12_readTwo ⟨rfl, rfl, Nat.le_of_ble_eq_true rfl, Nat.le_of_ble_eq_true rfl⟩ (Nat.le_of_ble_eq_true rfl) rfl (fun v167 m168 h169 ho170 => ?_)
                refine z_iastore dX12_readStatement_312 h166 h169 ?_
                refine z_aload_n dX12_readStatement_313 0 rfl ?_
                refine z_bipush dX12_readStatement_314 (x := 59) (by decide +kernel) ?_
                refine z_callV0 dX12_readStatement_316 rfl (ct_X12_take n 59 (wr m168 14 ((x3 + 2) : Int).toNat v167) (by decide)) zc_X12 lm_0 k_1227 k_1229 kp_43 k_10 k_1230 zn_X12_take ⟨rfl, rfl, Nat.le_of_ble_eq_true rfl, Nat.le_of_ble_eq_true rfl⟩ (Nat.le_of_ble_eq_true rfl) rfl (fun v171 m172 ho174 => ?_)
                refine z_aload_n dX12_readStatement_319 0 rfl ?_
                refine z_dup dX12_readStatement_320 rfl ?_
                refine z_getI dX12_readStatement_321 (k := 22) zc_X12 lm_0 rfl (by decide) k_1060 (fun h175 => ?_)
                refine z_iconst dX12_readStatement_324 ?_
                refine z_iadd dX12_readStatement_325 (fun h176 => ?_)
                refine z_putI dX12_readStatement_326 (k := 22) zc_X12 lm_0 rfl (by decide) rfl rfl h176 k_1060 ?_
                exact z_vret dX12_readStatement_329 rfl rfl
              · refine z_case (fun hc177 => ?_) (fun hc177 => ?_)
                · refine z_tsIn dX12_readStatement_105 (cst := 109) hc177 (by decide) (by decide) rfl (tgt := 279) rfl ?_
                  refine z_aload_n dX12_readStatement_279 0 rfl ?_
                  refine z_getR dX12_readStatement_280 (k := 25) (j := 14) zc_X12 lm_0 rfl (by decide) k_1063 ?_
                  refine z_iload_n dX12_readStatement_283 2 rfl ?_
                  refine z_aload_n dX12_readStatement_284 0 rfl ?_
                  refine z_callV1 dX12_readStatement_285 rfl (ct_X12_readTwo n (wr m 0 20 (s1 + s0))) zc_X12 lm_0 k_1235 k_1237 kp_45 k_10 k_1238 zn_X12_readTwo ⟨rfl, rfl, Nat.le_of_ble_eq_true rfl, Nat.le_of_ble_eq_true rfl⟩ (Nat.le_of_ble_eq_true rfl) rfl (fun v178 m179 h180 ho181 => ?_)
                  refine z_iastore dX12_readStatement_288 hx3 h180 ?_
                  refine z_aload_n dX12_readStatement_289 0 rfl ?_
                  refine z_getR dX12_readStatement_290 (k := 25) (j := 14) zc_X12 lm_0 rfl (by decide) k_1063 ?_
                  refine z_iload_n dX12_readStatement_293 2 rfl ?_
                  refine z_iconst dX12_readStatement_294 ?_
                  refine z_iadd dX12_readStatement_295 (fun h182 => ?_)
                  refine z_aload_n dX12_readStatement_296 0 rfl ?_
                  refine z_callV1 dX12_readStatement_297 rfl (ct_X12_readTwo n (wr m179 14 (x3 : Int).toNat v178)) zc_X12 lm_0 k_1235 k_1237 kp_45 k_10 k_1238 zn_X12_readTwo ⟨rfl, rfl, Nat.le_of_ble_eq_true rfl, Nat.le_of_ble_eq_true rfl⟩ (Nat.le_of_ble_eq_true rfl) rfl (fun v183 m184 h185 ho186 => ?_)
                  refine z_iastore dX12_readStatement_300 h182 h185 ?_
                  refine z_aload_n dX12_readStatement_301 0 rfl ?_
                  refine z_getR dX12_readStatement_302 (k := 25) (j := 14) zc_X12 lm_0 rfl (by decide) k_1063 ?_
                  refine z_iload_n dX12_readStatement_305 2 rfl ?_
                  refine z_iconst dX12_readStatement_306 ?_
                  refine z_iadd dX12_readStatement_307 (fun h187 => ?_)
                  refine z_aload_n dX12_readStatement_308 0 rfl ?_
                  refine z_callV1 dX12_readStatement_309 rfl (ct_X12_readTwo n (wr m184 14 ((x3 + 1) : Int).toNat v183)) zc_X12 lm_0 k_1235 k_1237 kp_45 k_10 k_1238 zn_X12_readTwo ⟨rfl, rfl, Nat.le_of_ble_eq_true rfl, Nat.le_of_ble_eq_true rfl⟩ (Nat.le_of_ble_eq_true rfl) rfl (fun v188 m189 h190 ho191 => ?_)
                  refine z_iastore dX12_readStatement_312 h187 h190 ?_
                  refine z_aload_n dX12_readStatement_313 0 rfl ?_
                  refine z_bipush dX12_readStatement_314 (x := 59) (by decide +kernel) ?_
                  refine z_callV0 dX12_readStatement_316 rfl (ct_X12_take n 59 (wr m189 14 ((x3 + 2) : Int).toNat v188) (by decide)) zc_X12 lm_0 k_1227 k_1229 kp_43 k_10 k_1230 zn_X12_take ⟨rfl, rfl, Nat.le_of_ble_eq_true rfl, Nat.le_of_ble_eq_true rfl⟩ (Nat.le_of_ble_eq_true rfl) rfl (fun v192 m193 ho195 => ?_)
                  refine z_aload_n dX12_readStatement_319 0 rfl ?_
                  refine z_dup dX12_readStatement_320 rfl ?_
                  refine z_getI dX12_readStatement_321 (k := 22) zc_X12 lm_0 rfl (by decide) k_1060 (fun h196 => ?_)
                  refine z_iconst dX12_readStatement_324 ?_
                  refine z_iadd dX12_readStatement_325 (fun h197 => ?_)
                  refine z_putI dX12_readStatement_326 (k := 22) zc_X12 lm_0 rfl (by decide) rfl rfl h197 k_1060 ?_
                  exact z_vret dX12_readStatement_329 rfl rfl
                · refine z_case (fun hc198 => ?_) (fun hc198 => ?_)
                  · refine z_tsIn dX12_readStatement_105 (cst := 110) hc198 (by decide) (by decide) rfl (tgt := 279) rfl ?_
                    refine z_aload_n dX12_readStatement_279 0 rfl ?_
                    refine z_getR dX12_readStatement_280 (k := 25) (j := 14) zc_X12 lm_0 rfl (by decide) k_1063 ?_
                    refine z_iload_n dX12_readStatement_283 2 rfl ?_
                    refine z_aload_n dX12_readStatement_284 0 rfl ?_
                    refine z_callV1 dX12_readStatement_285 rfl (ct_X12_readTwo n (wr m 0 20 (s1 + s0))) zc_X12 lm_0 k_1235 k_1237 kp_45 k_10 k_1238 zn_X12_readTwo ⟨rfl, rfl, Nat.le_of_ble_eq_true rfl, Nat.le_of_ble_eq_true rfl⟩ (Nat.le_of_ble_eq_true rfl) rfl (fun v199 m200 h201 ho202 => ?_)
                    refine z_iastore dX12_readStatement_288 hx3 h201 ?_
                    refine z_aload_n dX12_readStatement_289 0 rfl ?_
                    refine z_getR dX12_readStatement_290 (k := 25) (j := 14) zc_X12 lm_0 rfl (by decide) k_1063 ?_
                    refine z_iload_n dX12_readStatement_293 2 rfl ?_
                    refine z_iconst dX12_readStatement_294 ?_
                    refine z_iadd dX12_readStatement_295 (fun h203 => ?_)
                    refine z_aload_n dX12_readStatement_296 0 rfl ?_
                    refine z_callV1 dX12_readStatement_297 rfl (ct_X12_readTwo n (wr m200 14 (x3 : Int).toNat v199)) zc_X12 lm_0 k_1235 k_1237 kp_45 k_10 k_1238 zn_X12_readTwo ⟨rfl, rfl, Nat.le_of_ble_eq_true rfl, Nat.le_of_ble_eq_true rfl⟩ (Nat.le_of_ble_eq_true rfl) rfl (fun v204 m205 h206 ho207 => ?_)
                    refine z_iastore dX12_readStatement_300 h203 h206 ?_
                    refine z_aload_n dX12_readStatement_301 0 rfl ?_
                    refine z_getR dX12_readStatement_302 (k := 25) (j := 14) zc_X12 lm_0 rfl (by decide) k_1063 ?_
                    refine z_iload_n dX12_readStatement_305 2 rfl ?_
                    refine z_iconst dX12_readStatement_306 ?_
                    refine z_iadd dX12_readStatement_307 (fun h208 => ?_)
                    refine z_aload_n dX12_readStatement_308 0 rfl ?_
                    refine z_callV1 dX12_readStatement_309 rfl (ct_X12_readTwo n (wr m205 14 ((x3 + 1) : Int).toNat v204)) zc_X12 lm_0 k_1235 k_1237 kp_45 k_10 k_1238 zn_X12_readTwo ⟨rfl, rfl, Nat.le_of_ble_eq_true rfl, Nat.le_of_ble_eq_true rfl⟩ (Nat.le_of_ble_eq_true rfl) rfl (fun v209 m210 h211 ho212 => ?_)
                    refine z_iastore dX12_readStatement_312 h208 h211 ?_
                    refine z_aload_n dX12_readStatement_313 0 rfl ?_
                    refine z_bipush dX12_readStatement_314 (x := 59) (by decide +kernel) ?_
                    refine z_callV0 dX12_readStatement_316 rfl (ct_X12_take n 59 (wr m210 14 ((x3 + 2) : Int).toNat v209) (by decide)) zc_X12 lm_0 k_1227 k_1229 kp_43 k_10 k_1230 zn_X12_take ⟨rfl, rfl, Nat.le_of_ble_eq_true rfl, Nat.le_of_ble_eq_true rfl⟩ (Nat.le_of_ble_eq_true rfl) rfl (fun v213 m214 ho216 => ?_)
                    refine z_aload_n dX12_readStatement_319 0 rfl ?_
                    refine z_dup dX12_readStatement_320 rfl ?_
                    refine z_getI dX12_readStatement_321 (k := 22) zc_X12 lm_0 rfl (by decide) k_1060 (fun h217 => ?_)
                    refine z_iconst dX12_readStatement_324 ?_
                    refine z_iadd dX12_readStatement_325 (fun h218 => ?_)
                    refine z_putI dX12_readStatement_326 (k := 22) zc_X12 lm_0 rfl (by decide) rfl rfl h218 k_1060 ?_
                    exact z_vret dX12_readStatement_329 rfl rfl
                  · refine z_case (fun hc219 => ?_) (fun hc219 => ?_)
                    · refine z_tsIn dX12_readStatement_105 (cst := 111) hc219 (by decide) (by decide) rfl (tgt := 279) rfl ?_
                      refine z_aload_n dX12_readStatement_279 0 rfl ?_
                      refine z_getR dX12_readStatement_280 (k := 25) (j := 14) zc_X12 lm_0 rfl (by decide) k_1063 ?_
                      refine z_iload_n dX12_readStatement_283 2 rfl ?_
                      refine z_aload_n dX12_readStatement_284 0 rfl ?_
                      refine z_callV1 dX12_readStatement_285 rfl (ct_X12_readTwo n (wr m 0 20 (s1 + s0))) zc_X12 lm_0 k_1235 k_1237 kp_45 k_10 k_1238 zn_X12_readTwo ⟨rfl, rfl, Nat.le_of_ble_eq_true rfl, Nat.le_of_ble_eq_true rfl⟩ (Nat.le_of_ble_eq_true rfl) rfl (fun v220 m221 h222 ho223 => ?_)
                      refine z_iastore dX12_readStatement_288 hx3 h222 ?_
                      refine z_aload_n dX12_readStatement_289 0 rfl ?_
                      refine z_getR dX12_readStatement_290 (k := 25) (j := 14) zc_X12 lm_0 rfl (by decide) k_1063 ?_
                      refine z_iload_n dX12_readStatement_293 2 rfl ?_
                      refine z_iconst dX12_readStatement_294 ?_
                      refine z_iadd dX12_readStatement_295 (fun h224 => ?_)
                      refine z_aload_n dX12_readStatement_296 0 rfl ?_
                      refine z_callV1 dX12_readStatement_297 rfl (ct_X12_readTwo n (wr m221 14 (x3 : Int).toNat v220)) zc_X12 lm_0 k_1235 k_1237 kp_45 k_10 k_1238 zn_X12_readTwo ⟨rfl, rfl, Nat.le_of_ble_eq_true rfl, Nat.le_of_ble_eq_true rfl⟩ (Nat.le_of_ble_eq_true rfl) rfl (fun v225 m226 h227 ho228 => ?_)
                      refine z_iastore dX12_readStatement_300 h224 h227 ?_
                      refine z_aload_n dX12_readStatement_301 0 rfl ?_
                      refine z_getR dX12_readStatement_302 (k := 25) (j := 14) zc_X12 lm_0 rfl (by decide) k_1063 ?_
                      refine z_iload_n dX12_readStatement_305 2 rfl ?_
                      refine z_iconst dX12_readStatement_306 ?_
                      refine z_iadd dX12_readStatement_307 (fun h229 => ?_)
                      refine z_aload_n dX12_readStatement_308 0 rfl ?_
                      refine z_callV1 dX12_readStatement_309 rfl (ct_X12_readTwo n (wr m226 14 ((x3 + 1) : Int).toNat v225)) zc_X12 lm_0 k_1235 k_1237 kp_45 k_10 k_1238 zn_X12_readTwo ⟨rfl, rfl, Nat.le_of_ble_eq_true rfl, Nat.le_of_ble_eq_true rfl⟩ (Nat.le_of_ble_eq_true rfl) rfl (fun v230 m231 h232 ho233 => ?_)
                      refine z_iastore dX12_readStatement_312 h229 h232 ?_
                      refine z_aload_n dX12_readStatement_313 0 rfl ?_
                      refine z_bipush dX12_readStatement_314 (x := 59) (by decide +kernel) ?_
                      refine z_callV0 dX12_readStatement_316 rfl (ct_X12_take n 59 (wr m231 14 ((x3 + 2) : Int).toNat v230) (by decide)) zc_X12 lm_0 k_1227 k_1229 kp_43 k_10 k_1230 zn_X12_take ⟨rfl, rfl, Nat.le_of_ble_eq_true rfl, Nat.le_of_ble_eq_true rfl⟩ (Nat.le_of_ble_eq_true rfl) rfl (fun v234 m235 ho237 => ?_)
                      refine z_aload_n dX12_readStatement_319 0 rfl ?_
                      refine z_dup dX12_readStatement_320 rfl ?_
                      refine z_getI dX12_readStatement_321 (k := 22) zc_X12 lm_0 rfl (by decide) k_1060 (fun h238 => ?_)
                      refine z_iconst dX12_readStatement_324 ?_
                      refine z_iadd dX12_readStatement_325 (fun h239 => ?_)
                      refine z_putI dX12_readStatement_326 (k := 22) zc_X12 lm_0 rfl (by decide) rfl rfl h239 k_1060 ?_
                      exact z_vret dX12_readStatement_329 rfl rfl
                    · refine z_case (fun hc240 => ?_) (fun hc240 => ?_)
                      · refine z_tsIn dX12_readStatement_105 (cst := 112) hc240 (by decide) (by decide) rfl (tgt := 193) rfl ?_
                        refine z_aload_n dX12_readStatement_193 0 rfl ?_
                        refine z_iload_n dX12_readStatement_194 2 rfl ?_
                        refine z_iconst dX12_readStatement_195 ?_
                        refine z_callV0 dX12_readStatement_196 rfl (ct_X12_readMany n x3 3 (wr m 0 20 (s1 + s0)) hx3 (by decide)) zc_X12 lm_0 k_1223 k_1225 kp_42 k_10 k_1226 zn_X12_readMany ⟨rfl, rfl, Nat.le_of_ble_eq_true rfl, Nat.le_of_ble_eq_true rfl⟩ (Nat.le_of_ble_eq_true rfl) rfl (fun v241 m242 ho244 => ?_)
                        refine z_aload_n dX12_readStatement_199 0 rfl ?_
                        refine z_getR dX12_readStatement_200 (k := 25) (j := 14) zc_X12 lm_0 rfl (by decide) k_1063 ?_
                        refine z_iload_n dX12_readStatement_203 2 rfl ?_
                        refine z_iconst dX12_readStatement_204 ?_
                        refine z_iadd dX12_readStatement_205 (fun h245 => ?_)
                        refine z_aload_n dX12_readStatement_206 0 rfl ?_
                        refine z_callV1 dX12_readStatement_207 rfl (ct_X12_readOneOrTwo n m242) zc_X12 lm_0 k_1210 k_1212 kp_40 k_10 k_1213 zn_X12_readOneOrTwo ⟨rfl, rfl, Nat.le_of_ble_eq_true rfl, Nat.le_of_ble_eq_true rfl⟩ (Nat.le_of_ble_eq_true rfl) rfl (fun v246 m247 h248 ho249 => ?_)
                        refine z_iastore dX12_readStatement_210 h245 h248 ?_
                        refine z_goto dX12_readStatement_211 (tgt := 313) rfl ?_
                        refine z_aload_n dX12_readStatement_313 0 rfl ?_
                        refine z_bipush dX12_readStatement_314 (x := 59) (by decide +kernel) ?_
                        refine z_callV0 dX12_readStatement_316 rfl (ct_X12_take n 59 (wr m247 14 ((x3 + 3) : Int).toNat v246) (by decide)) zc_X12 lm_0 k_1227 k_1229 kp_43 k_10 k_1230 zn_X12_take ⟨rfl, rfl, Nat.le_of_ble_eq_true rfl, Nat.le_of_ble_eq_true rfl⟩ (Nat.le_of_ble_eq_true rfl) rfl (fun v250 m251 ho253 => ?_)
                        refine z_aload_n dX12_readStatement_319 0 rfl ?_
                        refine z_dup dX12_readStatement_320 rfl ?_
                        refine z_getI dX12_readStatement_321 (k := 22) zc_X12 lm_0 rfl (by decide) k_1060 (fun h254 => ?_)
                        refine z_iconst dX12_readStatement_324 ?_
                        refine z_iadd dX12_readStatement_325 (fun h255 => ?_)
                        refine z_putI dX12_readStatement_326 (k := 22) zc_X12 lm_0 rfl (by decide) rfl rfl h255 k_1060 ?_
                        exact z_vret dX12_readStatement_329 rfl rfl
                      · refine z_case (fun hc256 => ?_) (fun hc256 => ?_)
                        · refine z_tsIn dX12_readStatement_105 (cst := 113) hc256 (by decide) (by decide) rfl (tgt := 279) rfl ?_
                          refine z_aload_n dX12_readStatement_279 0 rfl ?_
                          refine z_getR dX12_readStatement_280 (k := 25) (j := 14) zc_X12 lm_0 rfl (by decide) k_1063 ?_
                          refine z_iload_n dX12_readStatement_283 2 rfl ?_
                          refine z_aload_n dX12_readStatement_284 0 rfl ?_
                          refine z_callV1 dX12_readStatement_285 rfl (ct_X12_readTwo n (wr m 0 20 (s1 + s0))) zc_X12 lm_0 k_1235 k_1237 kp_45 k_10 k_1238 zn_X12_readTwo ⟨rfl, rfl, Nat.le_of_ble_eq_true rfl, Nat.le_of_ble_eq_true rfl⟩ (Nat.le_of_ble_eq_true rfl) rfl (fun v257 m258 h259 ho260 => ?_)
                          refine z_iastore dX12_readStatement_288 hx3 h259 ?_
                          refine z_aload_n dX12_readStatement_289 0 rfl ?_
                          refine z_getR dX12_readStatement_290 (k := 25) (j := 14) zc_X12 lm_0 rfl (by decide) k_1063 ?_
                          refine z_iload_n dX12_readStatement_293 2 rfl ?_
                          refine z_iconst dX12_readStatement_294 ?_
                          refine z_iadd dX12_readStatement_295 (fun h261 => ?_)
                          refine z_aload_n dX12_readStatement_296 0 rfl ?_
                          refine z_callV1 dX12_readStatement_297 rfl (ct_X12_readTwo n (wr m258 14 (x3 : Int).toNat v257)) zc_X12 lm_0 k_1235 k_1237 kp_45 k_10 k_1238 zn_X12_readTwo ⟨rfl, rfl, Nat.le_of_ble_eq_true rfl, Nat.le_of_ble_eq_true rfl⟩ (Nat.le_of_ble_eq_true rfl) rfl (fun v262 m263 h264 ho265 => ?_)
                          refine z_iastore dX12_readStatement_300 h261 h264 ?_
                          refine z_aload_n dX12_readStatement_301 0 rfl ?_
                          refine z_getR dX12_readStatement_302 (k := 25) (j := 14) zc_X12 lm_0 rfl (by decide) k_1063 ?_
                          refine z_iload_n dX12_readStatement_305 2 rfl ?_
                          refine z_iconst dX12_readStatement_306 ?_
                          refine z_iadd dX12_readStatement_307 (fun h266 => ?_)
                          refine z_aload_n dX12_readStatement_308 0 rfl ?_
                          refine z_callV1 dX12_readStatement_309 rfl (ct_X12_readTwo n (wr m263 14 ((x3 + 1) : Int).toNat v262)) zc_X12 lm_0 k_1235 k_1237 kp_45 k_10 k_1238 zn_X12_readTwo ⟨rfl, rfl, Nat.le_of_ble_eq_true rfl, Nat.le_of_ble_eq_true rfl⟩ (Nat.le_of_ble_eq_true rfl) rfl (fun v267 m268 h269 ho270 => ?_)
                          refine z_iastore dX12_readStatement_312 h266 h269 ?_
                          refine z_aload_n dX12_readStatement_313 0 rfl ?_
                          refine z_bipush dX12_readStatement_314 (x := 59) (by decide +kernel) ?_
                          refine z_callV0 dX12_readStatement_316 rfl (ct_X12_take n 59 (wr m268 14 ((x3 + 2) : Int).toNat v267) (by decide)) zc_X12 lm_0 k_1227 k_1229 kp_43 k_10 k_1230 zn_X12_take ⟨rfl, rfl, Nat.le_of_ble_eq_true rfl, Nat.le_of_ble_eq_true rfl⟩ (Nat.le_of_ble_eq_true rfl) rfl (fun v271 m272 ho274 => ?_)
                          refine z_aload_n dX12_readStatement_319 0 rfl ?_
                          refine z_dup dX12_readStatement_320 rfl ?_
                          refine z_getI dX12_readStatement_321 (k := 22) zc_X12 lm_0 rfl (by decide) k_1060 (fun h275 => ?_)
                          refine z_iconst dX12_readStatement_324 ?_
                          refine z_iadd dX12_readStatement_325 (fun h276 => ?_)
                          refine z_putI dX12_readStatement_326 (k := 22) zc_X12 lm_0 rfl (by decide) rfl rfl h276 k_1060 ?_
                          exact z_vret dX12_readStatement_329 rfl rfl
                        · refine z_case (fun hc277 => ?_) (fun hc277 => ?_)
                          · refine z_tsIn dX12_readStatement_105 (cst := 114) hc277 (by decide) (by decide) rfl (tgt := 279) rfl ?_
                            refine z_aload_n dX12_readStatement_279 0 rfl ?_
                            refine z_getR dX12_readStatement_280 (k := 25) (j := 14) zc_X12 lm_0 rfl (by decide) k_1063 ?_
                            refine z_iload_n dX12_readStatement_283 2 rfl ?_
                            refine z_aload_n dX12_readStatement_284 0 rfl ?_
                            refine z_callV1 dX12_readStatement_285 rfl (ct_X12_readTwo n (wr m 0 20 (s1 + s0))) zc_X12 lm_0 k_1235 k_1237 kp_45 k_10 k_1238 zn_X12_readTwo ⟨rfl, rfl, Nat.le_of_ble_eq_true rfl, Nat.le_of_ble_eq_true rfl⟩ (Nat.le_of_ble_eq_true rfl) rfl (fun v278 m279 h280 ho281 => ?_)
                            refine z_iastore dX12_readStatement_288 hx3 h280 ?_
                            refine z_aload_n dX12_readStatement_289 0 rfl ?_
                            refine z_getR dX12_readStatement_290 (k := 25) (j := 14) zc_X12 lm_0 rfl (by decide) k_1063 ?_
                            refine z_iload_n dX12_readStatement_293 2 rfl ?_
                            refine z_iconst dX12_readStatement_294 ?_
                            refine z_iadd dX12_readStatement_295 (fun h282 => ?_)
                            refine z_aload_n dX12_readStatement_296 0 rfl ?_
                            refine z_callV1 dX12_readStatement_297 rfl (ct_X12_readTwo n (wr m279 14 (x3 : Int).toNat v278)) zc_X12 lm_0 k_1235 k_1237 kp_45 k_10 k_1238 zn_X12_readTwo ⟨rfl, rfl, Nat.le_of_ble_eq_true rfl, Nat.le_of_ble_eq_true rfl⟩ (Nat.le_of_ble_eq_true rfl) rfl (fun v283 m284 h285 ho286 => ?_)
                            refine z_iastore dX12_readStatement_300 h282 h285 ?_
                            refine z_aload_n dX12_readStatement_301 0 rfl ?_
                            refine z_getR dX12_readStatement_302 (k := 25) (j := 14) zc_X12 lm_0 rfl (by decide) k_1063 ?_
                            refine z_iload_n dX12_readStatement_305 2 rfl ?_
                            refine z_iconst dX12_readStatement_306 ?_
                            refine z_iadd dX12_readStatement_307 (fun h287 => ?_)
                            refine z_aload_n dX12_readStatement_308 0 rfl ?_
                            refine z_callV1 dX12_readStatement_309 rfl (ct_X12_readTwo n (wr m284 14 ((x3 + 1) : Int).toNat v283)) zc_X12 lm_0 k_1235 k_1237 kp_45 k_10 k_1238 zn_X12_readTwo ⟨rfl, rfl, Nat.le_of_ble_eq_true rfl, Nat.le_of_ble_eq_true rfl⟩ (Nat.le_of_ble_eq_true rfl) rfl (fun v288 m289 h290 ho291 => ?_)
                            refine z_iastore dX12_readStatement_312 h287 h290 ?_
                            refine z_aload_n dX12_readStatement_313 0 rfl ?_
                            refine z_bipush dX12_readStatement_314 (x := 59) (by decide +kernel) ?_
                            refine z_callV0 dX12_readStatement_316 rfl (ct_X12_take n 59 (wr m289 14 ((x3 + 2) : Int).toNat v288) (by decide)) zc_X12 lm_0 k_1227 k_1229 kp_43 k_10 k_1230 zn_X12_take ⟨rfl, rfl, Nat.le_of_ble_eq_true rfl, Nat.le_of_ble_eq_true rfl⟩ (Nat.le_of_ble_eq_true rfl) rfl (fun v292 m293 ho295 => ?_)
                            refine z_aload_n dX12_readStatement_319 0 rfl ?_
                            refine z_dup dX12_readStatement_320 rfl ?_
                            refine z_getI dX12_readStatement_321 (k := 22) zc_X12 lm_0 rfl (by decide) k_1060 (fun h296 => ?_)
                            refine z_iconst dX12_readStatement_324 ?_
                            refine z_iadd dX12_readStatement_325 (fun h297 => ?_)
                            refine z_putI dX12_readStatement_326 (k := 22) zc_X12 lm_0 rfl (by decide) rfl rfl h297 k_1060 ?_
                            exact z_vret dX12_readStatement_329 rfl rfl
                          · refine z_case (fun hc298 => ?_) (fun hc298 => ?_)
                            · refine z_tsIn dX12_readStatement_105 (cst := 115) hc298 (by decide) (by decide) rfl (tgt := 270) rfl ?_
                              refine z_aload_n dX12_readStatement_270 0 rfl ?_
                              refine z_iload_n dX12_readStatement_271 2 rfl ?_
                              refine z_iconst dX12_readStatement_272 ?_
                              refine z_callV0 dX12_readStatement_273 rfl (ct_X12_readMany n x3 5 (wr m 0 20 (s1 + s0)) hx3 (by decide)) zc_X12 lm_0 k_1223 k_1225 kp_42 k_10 k_1226 zn_X12_readMany ⟨rfl, rfl, Nat.le_of_ble_eq_true rfl, Nat.le_of_ble_eq_true rfl⟩ (Nat.le_of_ble_eq_true rfl) rfl (fun v299 m300 ho302 => ?_)
                              refine z_goto dX12_readStatement_276 (tgt := 313) rfl ?_
                              refine z_aload_n dX12_readStatement_313 0 rfl ?_
                              refine z_bipush dX12_readStatement_314 (x := 59) (by decide +kernel) ?_
                              refine z_callV0 dX12_readStatement_316 rfl (ct_X12_take n 59 m300 (by decide)) zc_X12 lm_0 k_1227 k_1229 kp_43 k_10 k_1230 zn_X12_take ⟨rfl, rfl, Nat.le_of_ble_eq_true rfl, Nat.le_of_ble_eq_true rfl⟩ (Nat.le_of_ble_eq_true rfl) rfl (fun v303 m304 ho306 => ?_)
                              refine z_aload_n dX12_readStatement_319 0 rfl ?_
                              refine z_dup dX12_readStatement_320 rfl ?_
                              refine z_getI dX12_readStatement_321 (k := 22) zc_X12 lm_0 rfl (by decide) k_1060 (fun h307 => ?_)
                              refine z_iconst dX12_readStatement_324 ?_
                              refine z_iadd dX12_readStatement_325 (fun h308 => ?_)
                              refine z_putI dX12_readStatement_326 (k := 22) zc_X12 lm_0 rfl (by decide) rfl rfl h308 k_1060 ?_
                              exact z_vret dX12_readStatement_329 rfl rfl
                            · refine z_case (fun hc309 => ?_) (fun hc309 => ?_)
                              · refine z_tsIn dX12_readStatement_105 (cst := 116) hc309 (by decide) (by decide) rfl (tgt := 245) rfl ?_
                                refine z_aload_n dX12_readStatement_245 0 rfl ?_
                                refine z_getR dX12_readStatement_246 (k := 25) (j := 14) zc_X12 lm_0 rfl (by decide) k_1063 ?_
                                refine z_iload_n dX12_readStatement_249 2 rfl ?_
                                refine z_aload_n dX12_readStatement_250 0 rfl ?_
                                refine z_callV1 dX12_readStatement_251 rfl (ct_X12_readShape n (wr m 0 20 (s1 + s0))) zc_X12 lm_0 k_1231 k_1233 kp_44 k_10 k_1234 zn_X12_readShape ⟨rfl, rfl, Nat.le_of_ble_eq_true rfl, Nat.le_of_ble_eq_true rfl⟩ (Nat.le_of_ble_eq_true rfl) rfl (fun v310 m311 h312 ho313 => ?_)
                                refine z_iastore dX12_readStatement_254 hx3 h312 ?_
                                refine z_aload_n dX12_readStatement_255 0 rfl ?_
                                refine z_getR dX12_readStatement_256 (k := 25) (j := 14) zc_X12 lm_0 rfl (by decide) k_1063 ?_
                                refine z_iload_n dX12_readStatement_259 2 rfl ?_
                                refine z_iconst dX12_readStatement_260 ?_
                                refine z_iadd dX12_readStatement_261 (fun h314 => ?_)
                                refine z_aload_n dX12_readStatement_262 0 rfl ?_
                                refine z_callV1 dX12_readStatement_263 rfl (ct_X12_readOneOrTwo n (wr m311 14 (x3 : Int).toNat v310)) zc_X12 lm_0 k_1210 k_1212 kp_40 k_10 k_1213 zn_X12_readOneOrTwo ⟨rfl, rfl, Nat.le_of_ble_eq_true rfl, Nat.le_of_ble_eq_true rfl⟩ (Nat.le_of_ble_eq_true rfl) rfl (fun v315 m316 h317 ho318 => ?_)
                                refine z_iastore dX12_readStatement_266 h314 h317 ?_
                                refine z_goto dX12_readStatement_267 (tgt := 313) rfl ?_
                                refine z_aload_n dX12_readStatement_313 0 rfl ?_
                                refine z_bipush dX12_readStatement_314 (x := 59) (by decide +kernel) ?_
                                refine z_callV0 dX12_readStatement_316 rfl (ct_X12_take n 59 (wr m316 14 ((x3 + 1) : Int).toNat v315) (by decide)) zc_X12 lm_0 k_1227 k_1229 kp_43 k_10 k_1230 zn_X12_take ⟨rfl, rfl, Nat.le_of_ble_eq_true rfl, Nat.le_of_ble_eq_true rfl⟩ (Nat.le_of_ble_eq_true rfl) rfl (fun v319 m320 ho322 => ?_)
                                refine z_aload_n dX12_readStatement_319 0 rfl ?_
                                refine z_dup dX12_readStatement_320 rfl ?_
                                refine z_getI dX12_readStatement_321 (k := 22) zc_X12 lm_0 rfl (by decide) k_1060 (fun h323 => ?_)
                                refine z_iconst dX12_readStatement_324 ?_
                                refine z_iadd dX12_readStatement_325 (fun h324 => ?_)
                                refine z_putI dX12_readStatement_326 (k := 22) zc_X12 lm_0 rfl (by decide) rfl rfl h324 k_1060 ?_
                                exact z_vret dX12_readStatement_329 rfl rfl
                              · refine z_tsOut dX12_readStatement_105 hx2 (by omega) (tgt := 279) rfl ?_
                                refine z_aload_n dX12_readStatement_279 0 rfl ?_
                                refine z_getR dX12_readStatement_280 (k := 25) (j := 14) zc_X12 lm_0 rfl (by decide) k_1063 ?_
                                refine z_iload_n dX12_readStatement_283 2 rfl ?_
                                refine z_aload_n dX12_readStatement_284 0 rfl ?_
                                refine z_callV1 dX12_readStatement_285 rfl (ct_X12_readTwo n (wr m 0 20 (s1 + s0))) zc_X12 lm_0 k_1235 k_1237 kp_45 k_10 k_1238 zn_X12_readTwo ⟨rfl, rfl, Nat.le_of_ble_eq_true rfl, Nat.le_of_ble_eq_true rfl⟩ (Nat.le_of_ble_eq_true rfl) rfl (fun v325 m326 h327 ho328 => ?_)
                                refine z_iastore dX12_readStatement_288 hx3 h327 ?_
                                refine z_aload_n dX12_readStatement_289 0 rfl ?_
                                refine z_getR dX12_readStatement_290 (k := 25) (j := 14) zc_X12 lm_0 rfl (by decide) k_1063 ?_
                                refine z_iload_n dX12_readStatement_293 2 rfl ?_
                                refine z_iconst dX12_readStatement_294 ?_
                                refine z_iadd dX12_readStatement_295 (fun h329 => ?_)
                                refine z_aload_n dX12_readStatement_296 0 rfl ?_
                                refine z_callV1 dX12_readStatement_297 rfl (ct_X12_readTwo n (wr m326 14 (x3 : Int).toNat v325)) zc_X12 lm_0 k_1235 k_1237 kp_45 k_10 k_1238 zn_X12_readTwo ⟨rfl, rfl, Nat.le_of_ble_eq_true rfl, Nat.le_of_ble_eq_true rfl⟩ (Nat.le_of_ble_eq_true rfl) rfl (fun v330 m331 h332 ho333 => ?_)
                                refine z_iastore dX12_readStatement_300 h329 h332 ?_
                                refine z_aload_n dX12_readStatement_301 0 rfl ?_
                                refine z_getR dX12_readStatement_302 (k := 25) (j := 14) zc_X12 lm_0 rfl (by decide) k_1063 ?_
                                refine z_iload_n dX12_readStatement_305 2 rfl ?_
                                refine z_iconst dX12_readStatement_306 ?_
                                refine z_iadd dX12_readStatement_307 (fun h334 => ?_)
                                refine z_aload_n dX12_readStatement_308 0 rfl ?_
                                refine z_callV1 dX12_readStatement_309 rfl (ct_X12_readTwo n (wr m331 14 ((x3 + 1) : Int).toNat v330)) zc_X12 lm_0 k_1235 k_1237 kp_45 k_10 k_1238 zn_X12_readTwo ⟨rfl, rfl, Nat.le_of_ble_eq_true rfl, Nat.le_of_ble_eq_true rfl⟩ (Nat.le_of_ble_eq_true rfl) rfl (fun v335 m336 h337 ho338 => ?_)
                                refine z_iastore dX12_readStatement_312 h334 h337 ?_
                                refine z_aload_n dX12_readStatement_313 0 rfl ?_
                                refine z_bipush dX12_readStatement_314 (x := 59) (by decide +kernel) ?_
                                refine z_callV0 dX12_readStatement_316 rfl (ct_X12_take n 59 (wr m336 14 ((x3 + 2) : Int).toNat v335) (by decide)) zc_X12 lm_0 k_1227 k_1229 kp_43 k_10 k_1230 zn_X12_take ⟨rfl, rfl, Nat.le_of_ble_eq_true rfl, Nat.le_of_ble_eq_true rfl⟩ (Nat.le_of_ble_eq_true rfl) rfl (fun v339 m340 ho342 => ?_)
                                refine z_aload_n dX12_readStatement_319 0 rfl ?_
                                refine z_dup dX12_readStatement_320 rfl ?_
                                refine z_getI dX12_readStatement_321 (k := 22) zc_X12 lm_0 rfl (by decide) k_1060 (fun h343 => ?_)
                                refine z_iconst dX12_readStatement_324 ?_
                                refine z_iadd dX12_readStatement_325 (fun h344 => ?_)
                                refine z_putI dX12_readStatement_326 (k := 22) zc_X12 lm_0 rfl (by decide) rfl rfl h344 k_1060 ?_
                                exact z_vret dX12_readStatement_329 rfl rfl
set_option maxRecDepth 20000 in
theorem ct_X12_readStatement {ad sc sv : Nat → Nat} (n : Nat) (m : ZMem) : zCT LM ad sc sv M_X12_readStatement yX12_readStatement [.ref (ad 0)] m (F_X12_readStatement n m) := by
  refine zCT_of (lv := [(0, .ref (ad 0))]) (by decide) rfl (Nat.le_of_ble_eq_true rfl) rfl ?_
  unfold F_X12_readStatement
  refine z_aload_n dX12_readStatement_0 0 rfl ?_
  refine z_getI dX12_readStatement_1 (k := 22) zc_X12 lm_0 rfl (by decide) k_1060 (fun h1 => ?_)
  refine z_istore_n dX12_readStatement_4 (lv' := [(1, .int (mI (m 0 22))), (0, .ref (ad 0))]) (by decide) rfl ?_
  refine z_aload_n dX12_readStatement_5 1 rfl ?_
  refine z_callV1 dX12_readStatement_6 rfl (ct_X12_here n m) zc_X12 lm_0 k_1206 k_1208 kp_39 k_10 k_1209 zn_X12_here ⟨rfl, rfl, Nat.le_of_ble_eq_true rfl, Nat.le_of_ble_eq_true rfl⟩ (Nat.le_of_ble_eq_true rfl) rfl (fun v2 m3 h4 ho5 => ?_)
  refine z_istore_n dX12_readStatement_9 (lv' := [(2, .int (mI v2)), (1, .int (mI (m 0 22))), (0, .ref (ad 0))]) (by decide) rfl ?_
  refine z_iconst dX12_readStatement_10 ?_
  refine z_iload_n dX12_readStatement_11 1 rfl ?_
  refine z_imul dX12_readStatement_12 (fun h6 => ?_)
  refine z_istore_n dX12_readStatement_13 (lv' := [(3, .int (mI (5 * (m 0 22)))), (2, .int (mI v2)), (1, .int (mI (m 0 22))), (0, .ref (ad 0))]) (by decide) rfl ?_
  refine z_aload_n dX12_readStatement_14 3 rfl ?_
  refine z_getR dX12_readStatement_15 (k := 23) (j := 12) zc_X12 lm_0 rfl (by decide) k_1061 ?_
  refine z_iload_n dX12_readStatement_18 2 rfl ?_
  refine z_aload_n dX12_readStatement_19 3 rfl ?_
  refine z_getI dX12_readStatement_20 (k := 20) zc_X12 lm_0 rfl (by decide) k_1058 (fun h7 => ?_)
  refine z_iastore dX12_readStatement_23 h1 h7 ?_
  refine z_aload_n dX12_readStatement_24 3 rfl ?_
  refine z_getR dX12_readStatement_25 (k := 24) (j := 13) zc_X12 lm_0 rfl (by decide) k_1062 ?_
  refine z_iload_n dX12_readStatement_28 2 rfl ?_
  refine z_iload_n dX12_readStatement_29 1 rfl ?_
  refine z_iastore dX12_readStatement_30 h1 h4 ?_
  refine z_aload_n dX12_readStatement_31 3 rfl ?_
  refine z_aload_n dX12_readStatement_32 3 rfl ?_
  refine z_getI dX12_readStatement_33 (k := 21) zc_X12 lm_0 rfl (by decide) k_1059 (fun h8 => ?_)
  refine z_if_ne dX12_readStatement_36 h8 (tgt := 75) rfl (fun h9 => ?_) (fun h9 => ?_)
  · refine z_iload_n dX12_readStatement_39 1 rfl ?_
    refine z_bipush dX12_readStatement_40 (x := 102) (by decide +kernel) ?_
    refine z_icmp_eq dX12_readStatement_42 h4 (by decide) (tgt := 79) rfl (fun h10 => ?_) (fun h10 => ?_)
    · refine z_iconst dX12_readStatement_79 ?_
      refine z_putZ dX12_readStatement_80 (k := 21) zc_X12 lm_0 rfl (by decide) rfl rfl (by decide) k_1059 ?_
      refine z_aload_n dX12_readStatement_83 3 rfl ?_
      refine z_dup dX12_readStatement_84 rfl ?_
      refine z_getI dX12_readStatement_85 (k := 20) zc_X12 lm_0 rfl (by decide) k_1058 (fun h11 => ?_)
      refine z_aload_n dX12_readStatement_88 3 rfl ?_
      refine z_getI dX12_readStatement_89 (k := 21) zc_X12 lm_0 rfl (by decide) k_1059 (fun h12 => ?_)
      refine z_if_eq dX12_readStatement_92 h12 (tgt := 99) rfl (fun h13 => ?_) (fun h13 => ?_)
      · refine z_iconst dX12_readStatement_99 ?_
        exact zG_lvk (T_X12_readStatement_100 n v2 (5 * (m 0 22)) 1 ((wr (wr (wr m3 12 ((m 0 22) : Int).toNat (m3 0 20)) 13 ((m 0 22) : Int).toNat v2) 0 21 0) 0 20) (wr (wr (wr m3 12 ((m 0 22) : Int).toNat (m3 0 20)) 13 ((m 0 22) : Int).toNat v2) 0 21 0) h4 h6 (by decide) h11) [3, 1, 0] rfl
      · refine z_iconst dX12_readStatement_95 ?_
        refine z_goto dX12_readStatement_96 (tgt := 100) rfl ?_
        exact zG_lvk (T_X12_readStatement_100 n v2 (5 * (m 0 22)) 0 ((wr (wr (wr m3 12 ((m 0 22) : Int).toNat (m3 0 20)) 13 ((m 0 22) : Int).toNat v2) 0 21 0) 0 20) (wr (wr (wr m3 12 ((m 0 22) : Int).toNat (m3 0 20)) 13 ((m 0 22) : Int).toNat v2) 0 21 0) h4 h6 (by decide) h11) [3, 1, 0] rfl
    · refine z_iload_n dX12_readStatement_45 1 rfl ?_
      refine z_bipush dX12_readStatement_46 (x := 112) (by decide +kernel) ?_
      refine z_icmp_eq dX12_readStatement_48 h4 (by decide) (tgt := 79) rfl (fun h14 => ?_) (fun h14 => ?_)
      · refine z_iconst dX12_readStatement_79 ?_
        refine z_putZ dX12_readStatement_80 (k := 21) zc_X12 lm_0 rfl (by decide) rfl rfl (by decide) k_1059 ?_
        refine z_aload_n dX12_readStatement_83 3 rfl ?_
        refine z_dup dX12_readStatement_84 rfl ?_
        refine z_getI dX12_readStatement_85 (k := 20) zc_X12 lm_0 rfl (by decide) k_1058 (fun h15 => ?_)
        refine z_aload_n dX12_readStatement_88 3 rfl ?_
        refine z_getI dX12_readStatement_89 (k := 21) zc_X12 lm_0 rfl (by decide) k_1059 (fun h16 => ?_)
        refine z_if_eq dX12_readStatement_92 h16 (tgt := 99) rfl (fun h17 => ?_) (fun h17 => ?_)
        · refine z_iconst dX12_readStatement_99 ?_
          exact zG_lvk (T_X12_readStatement_100 n v2 (5 * (m 0 22)) 1 ((wr (wr (wr m3 12 ((m 0 22) : Int).toNat (m3 0 20)) 13 ((m 0 22) : Int).toNat v2) 0 21 0) 0 20) (wr (wr (wr m3 12 ((m 0 22) : Int).toNat (m3 0 20)) 13 ((m 0 22) : Int).toNat v2) 0 21 0) h4 h6 (by decide) h15) [3, 1, 0] rfl
        · refine z_iconst dX12_readStatement_95 ?_
          refine z_goto dX12_readStatement_96 (tgt := 100) rfl ?_
          exact zG_lvk (T_X12_readStatement_100 n v2 (5 * (m 0 22)) 0 ((wr (wr (wr m3 12 ((m 0 22) : Int).toNat (m3 0 20)) 13 ((m 0 22) : Int).toNat v2) 0 21 0) 0 20) (wr (wr (wr m3 12 ((m 0 22) : Int).toNat (m3 0 20)) 13 ((m 0 22) : Int).toNat v2) 0 21 0) h4 h6 (by decide) h15) [3, 1, 0] rfl
      · refine z_iload_n dX12_readStatement_51 1 rfl ?_
        refine z_bipush dX12_readStatement_52 (x := 104) (by decide +kernel) ?_
        refine z_icmp_eq dX12_readStatement_54 h4 (by decide) (tgt := 79) rfl (fun h18 => ?_) (fun h18 => ?_)
        · refine z_iconst dX12_readStatement_79 ?_
          refine z_putZ dX12_readStatement_80 (k := 21) zc_X12 lm_0 rfl (by decide) rfl rfl (by decide) k_1059 ?_
          refine z_aload_n dX12_readStatement_83 3 rfl ?_
          refine z_dup dX12_readStatement_84 rfl ?_
          refine z_getI dX12_readStatement_85 (k := 20) zc_X12 lm_0 rfl (by decide) k_1058 (fun h19 => ?_)
          refine z_aload_n dX12_readStatement_88 3 rfl ?_
          refine z_getI dX12_readStatement_89 (k := 21) zc_X12 lm_0 rfl (by decide) k_1059 (fun h20 => ?_)
          refine z_if_eq dX12_readStatement_92 h20 (tgt := 99) rfl (fun h21 => ?_) (fun h21 => ?_)
          · refine z_iconst dX12_readStatement_99 ?_
            exact zG_lvk (T_X12_readStatement_100 n v2 (5 * (m 0 22)) 1 ((wr (wr (wr m3 12 ((m 0 22) : Int).toNat (m3 0 20)) 13 ((m 0 22) : Int).toNat v2) 0 21 0) 0 20) (wr (wr (wr m3 12 ((m 0 22) : Int).toNat (m3 0 20)) 13 ((m 0 22) : Int).toNat v2) 0 21 0) h4 h6 (by decide) h19) [3, 1, 0] rfl
          · refine z_iconst dX12_readStatement_95 ?_
            refine z_goto dX12_readStatement_96 (tgt := 100) rfl ?_
            exact zG_lvk (T_X12_readStatement_100 n v2 (5 * (m 0 22)) 0 ((wr (wr (wr m3 12 ((m 0 22) : Int).toNat (m3 0 20)) 13 ((m 0 22) : Int).toNat v2) 0 21 0) 0 20) (wr (wr (wr m3 12 ((m 0 22) : Int).toNat (m3 0 20)) 13 ((m 0 22) : Int).toNat v2) 0 21 0) h4 h6 (by decide) h19) [3, 1, 0] rfl
        · refine z_iload_n dX12_readStatement_57 1 rfl ?_
          refine z_bipush dX12_readStatement_58 (x := 116) (by decide +kernel) ?_
          refine z_icmp_eq dX12_readStatement_60 h4 (by decide) (tgt := 79) rfl (fun h22 => ?_) (fun h22 => ?_)
          · refine z_iconst dX12_readStatement_79 ?_
            refine z_putZ dX12_readStatement_80 (k := 21) zc_X12 lm_0 rfl (by decide) rfl rfl (by decide) k_1059 ?_
            refine z_aload_n dX12_readStatement_83 3 rfl ?_
            refine z_dup dX12_readStatement_84 rfl ?_
            refine z_getI dX12_readStatement_85 (k := 20) zc_X12 lm_0 rfl (by decide) k_1058 (fun h23 => ?_)
            refine z_aload_n dX12_readStatement_88 3 rfl ?_
            refine z_getI dX12_readStatement_89 (k := 21) zc_X12 lm_0 rfl (by decide) k_1059 (fun h24 => ?_)
            refine z_if_eq dX12_readStatement_92 h24 (tgt := 99) rfl (fun h25 => ?_) (fun h25 => ?_)
            · refine z_iconst dX12_readStatement_99 ?_
              exact zG_lvk (T_X12_readStatement_100 n v2 (5 * (m 0 22)) 1 ((wr (wr (wr m3 12 ((m 0 22) : Int).toNat (m3 0 20)) 13 ((m 0 22) : Int).toNat v2) 0 21 0) 0 20) (wr (wr (wr m3 12 ((m 0 22) : Int).toNat (m3 0 20)) 13 ((m 0 22) : Int).toNat v2) 0 21 0) h4 h6 (by decide) h23) [3, 1, 0] rfl
            · refine z_iconst dX12_readStatement_95 ?_
              refine z_goto dX12_readStatement_96 (tgt := 100) rfl ?_
              exact zG_lvk (T_X12_readStatement_100 n v2 (5 * (m 0 22)) 0 ((wr (wr (wr m3 12 ((m 0 22) : Int).toNat (m3 0 20)) 13 ((m 0 22) : Int).toNat v2) 0 21 0) 0 20) (wr (wr (wr m3 12 ((m 0 22) : Int).toNat (m3 0 20)) 13 ((m 0 22) : Int).toNat v2) 0 21 0) h4 h6 (by decide) h23) [3, 1, 0] rfl
          · refine z_iload_n dX12_readStatement_63 1 rfl ?_
            refine z_bipush dX12_readStatement_64 (x := 115) (by decide +kernel) ?_
            refine z_icmp_eq dX12_readStatement_66 h4 (by decide) (tgt := 79) rfl (fun h26 => ?_) (fun h26 => ?_)
            · refine z_iconst dX12_readStatement_79 ?_
              refine z_putZ dX12_readStatement_80 (k := 21) zc_X12 lm_0 rfl (by decide) rfl rfl (by decide) k_1059 ?_
              refine z_aload_n dX12_readStatement_83 3 rfl ?_
              refine z_dup dX12_readStatement_84 rfl ?_
              refine z_getI dX12_readStatement_85 (k := 20) zc_X12 lm_0 rfl (by decide) k_1058 (fun h27 => ?_)
              refine z_aload_n dX12_readStatement_88 3 rfl ?_
              refine z_getI dX12_readStatement_89 (k := 21) zc_X12 lm_0 rfl (by decide) k_1059 (fun h28 => ?_)
              refine z_if_eq dX12_readStatement_92 h28 (tgt := 99) rfl (fun h29 => ?_) (fun h29 => ?_)
              · refine z_iconst dX12_readStatement_99 ?_
                exact zG_lvk (T_X12_readStatement_100 n v2 (5 * (m 0 22)) 1 ((wr (wr (wr m3 12 ((m 0 22) : Int).toNat (m3 0 20)) 13 ((m 0 22) : Int).toNat v2) 0 21 0) 0 20) (wr (wr (wr m3 12 ((m 0 22) : Int).toNat (m3 0 20)) 13 ((m 0 22) : Int).toNat v2) 0 21 0) h4 h6 (by decide) h27) [3, 1, 0] rfl
              · refine z_iconst dX12_readStatement_95 ?_
                refine z_goto dX12_readStatement_96 (tgt := 100) rfl ?_
                exact zG_lvk (T_X12_readStatement_100 n v2 (5 * (m 0 22)) 0 ((wr (wr (wr m3 12 ((m 0 22) : Int).toNat (m3 0 20)) 13 ((m 0 22) : Int).toNat v2) 0 21 0) 0 20) (wr (wr (wr m3 12 ((m 0 22) : Int).toNat (m3 0 20)) 13 ((m 0 22) : Int).toNat v2) 0 21 0) h4 h6 (by decide) h27) [3, 1, 0] rfl
            · refine z_iload_n dX12_readStatement_69 1 rfl ?_
              refine z_bipush dX12_readStatement_70 (x := 99) (by decide +kernel) ?_
              refine z_icmp_eq dX12_readStatement_72 h4 (by decide) (tgt := 79) rfl (fun h30 => ?_) (fun h30 => ?_)
              · refine z_iconst dX12_readStatement_79 ?_
                refine z_putZ dX12_readStatement_80 (k := 21) zc_X12 lm_0 rfl (by decide) rfl rfl (by decide) k_1059 ?_
                refine z_aload_n dX12_readStatement_83 3 rfl ?_
                refine z_dup dX12_readStatement_84 rfl ?_
                refine z_getI dX12_readStatement_85 (k := 20) zc_X12 lm_0 rfl (by decide) k_1058 (fun h31 => ?_)
                refine z_aload_n dX12_readStatement_88 3 rfl ?_
                refine z_getI dX12_readStatement_89 (k := 21) zc_X12 lm_0 rfl (by decide) k_1059 (fun h32 => ?_)
                refine z_if_eq dX12_readStatement_92 h32 (tgt := 99) rfl (fun h33 => ?_) (fun h33 => ?_)
                · refine z_iconst dX12_readStatement_99 ?_
                  exact zG_lvk (T_X12_readStatement_100 n v2 (5 * (m 0 22)) 1 ((wr (wr (wr m3 12 ((m 0 22) : Int).toNat (m3 0 20)) 13 ((m 0 22) : Int).toNat v2) 0 21 0) 0 20) (wr (wr (wr m3 12 ((m 0 22) : Int).toNat (m3 0 20)) 13 ((m 0 22) : Int).toNat v2) 0 21 0) h4 h6 (by decide) h31) [3, 1, 0] rfl
                · refine z_iconst dX12_readStatement_95 ?_
                  refine z_goto dX12_readStatement_96 (tgt := 100) rfl ?_
                  exact zG_lvk (T_X12_readStatement_100 n v2 (5 * (m 0 22)) 0 ((wr (wr (wr m3 12 ((m 0 22) : Int).toNat (m3 0 20)) 13 ((m 0 22) : Int).toNat v2) 0 21 0) 0 20) (wr (wr (wr m3 12 ((m 0 22) : Int).toNat (m3 0 20)) 13 ((m 0 22) : Int).toNat v2) 0 21 0) h4 h6 (by decide) h31) [3, 1, 0] rfl
              · refine z_iconst dX12_readStatement_75 ?_
                refine z_goto dX12_readStatement_76 (tgt := 80) rfl ?_
                refine z_putZ dX12_readStatement_80 (k := 21) zc_X12 lm_0 rfl (by decide) rfl rfl (by decide) k_1059 ?_
                refine z_aload_n dX12_readStatement_83 3 rfl ?_
                refine z_dup dX12_readStatement_84 rfl ?_
                refine z_getI dX12_readStatement_85 (k := 20) zc_X12 lm_0 rfl (by decide) k_1058 (fun h34 => ?_)
                refine z_aload_n dX12_readStatement_88 3 rfl ?_
                refine z_getI dX12_readStatement_89 (k := 21) zc_X12 lm_0 rfl (by decide) k_1059 (fun h35 => ?_)
                refine z_if_eq dX12_readStatement_92 h35 (tgt := 99) rfl (fun h36 => ?_) (fun h36 => ?_)
                · refine z_iconst dX12_readStatement_99 ?_
                  exact zG_lvk (T_X12_readStatement_100 n v2 (5 * (m 0 22)) 1 ((wr (wr (wr m3 12 ((m 0 22) : Int).toNat (m3 0 20)) 13 ((m 0 22) : Int).toNat v2) 0 21 1) 0 20) (wr (wr (wr m3 12 ((m 0 22) : Int).toNat (m3 0 20)) 13 ((m 0 22) : Int).toNat v2) 0 21 1) h4 h6 (by decide) h34) [3, 1, 0] rfl
                · refine z_iconst dX12_readStatement_95 ?_
                  refine z_goto dX12_readStatement_96 (tgt := 100) rfl ?_
                  exact zG_lvk (T_X12_readStatement_100 n v2 (5 * (m 0 22)) 0 ((wr (wr (wr m3 12 ((m 0 22) : Int).toNat (m3 0 20)) 13 ((m 0 22) : Int).toNat v2) 0 21 1) 0 20) (wr (wr (wr m3 12 ((m 0 22) : Int).toNat (m3 0 20)) 13 ((m 0 22) : Int).toNat v2) 0 21 1) h4 h6 (by decide) h34) [3, 1, 0] rfl
  · refine z_iconst dX12_readStatement_75 ?_
    refine z_goto dX12_readStatement_76 (tgt := 80) rfl ?_
    refine z_putZ dX12_readStatement_80 (k := 21) zc_X12 lm_0 rfl (by decide) rfl rfl (by decide) k_1059 ?_
    refine z_aload_n dX12_readStatement_83 3 rfl ?_
    refine z_dup dX12_readStatement_84 rfl ?_
    refine z_getI dX12_readStatement_85 (k := 20) zc_X12 lm_0 rfl (by decide) k_1058 (fun h37 => ?_)
    refine z_aload_n dX12_readStatement_88 3 rfl ?_
    refine z_getI dX12_readStatement_89 (k := 21) zc_X12 lm_0 rfl (by decide) k_1059 (fun h38 => ?_)
    refine z_if_eq dX12_readStatement_92 h38 (tgt := 99) rfl (fun h39 => ?_) (fun h39 => ?_)
    · refine z_iconst dX12_readStatement_99 ?_
      exact zG_lvk (T_X12_readStatement_100 n v2 (5 * (m 0 22)) 1 ((wr (wr (wr m3 12 ((m 0 22) : Int).toNat (m3 0 20)) 13 ((m 0 22) : Int).toNat v2) 0 21 1) 0 20) (wr (wr (wr m3 12 ((m 0 22) : Int).toNat (m3 0 20)) 13 ((m 0 22) : Int).toNat v2) 0 21 1) h4 h6 (by decide) h37) [3, 1, 0] rfl
    · refine z_iconst dX12_readStatement_95 ?_
      refine z_goto dX12_readStatement_96 (tgt := 100) rfl ?_
      exact zG_lvk (T_X12_readStatement_100 n v2 (5 * (m 0 22)) 0 ((wr (wr (wr m3 12 ((m 0 22) : Int).toNat (m3 0 20)) 13 ((m 0 22) : Int).toNat v2) 0 21 1) 0 20) (wr (wr (wr m3 12 ((m 0 22) : Int).toNat (m3 0 20)) 13 ((m 0 22) : Int).toNat v2) 0 21 1) h4 h6 (by decide) h37) [3, 1, 0] rfl
set_option maxRecDepth 20000 in
theorem T_X12_partComes_47 {ad sc sv : Nat → Nat} (n : Nat) : ∀ (x1 : Int) (s0 : Int) (m : ZMem), R32 x1 → R32 s0 → zG LM ad sc sv M_X12_partComes 47 [(0, .ref (ad 0)), (1, .int (mI x1))] [.int (mI s0)] m (B_X12_partComes_47 n x1 s0 m) := by
  intro x1 s0 m hx1 hs0
  unfold B_X12_partComes_47
  refine z_istore_n dX12_partComes_47 (lv' := [(2, .int (mI s0)), (0, .ref (ad 0)), (1, .int (mI x1))]) (by decide) rfl ?_
  refine z_iload_n dX12_partComes_48 0 rfl ?_
  refine z_if_eq dX12_partComes_49 hs0 (tgt := 158) rfl (fun h11 => ?_) (fun h11 => ?_)
  · refine z_iload_n dX12_partComes_158 0 rfl ?_
    refine zG_chk (fun h12 => ?_)
    exact z_zret dX12_partComes_159 rfl rfl h12
  · refine z_aload_n dX12_partComes_52 1 rfl ?_
    refine z_getR dX12_partComes_53 (k := 7) (j := 1) zc_X12 lm_0 rfl (by decide) k_1045 ?_
    refine z_aload_n dX12_partComes_56 1 rfl ?_
    refine z_getI dX12_partComes_57 (k := 2) zc_X12 lm_0 rfl (by decide) k_1040 (fun h13 => ?_)
    refine z_aload_n dX12_partComes_60 1 rfl ?_
    refine z_getR dX12_partComes_61 (k := 25) (j := 14) zc_X12 lm_0 rfl (by decide) k_1063 ?_
    refine z_iload_n dX12_partComes_64 2 rfl ?_
    refine z_iaload dX12_partComes_65 hx1 (fun h14 => ?_)
    refine z_iastore dX12_partComes_66 h13 h14 ?_
    refine z_aload_n dX12_partComes_67 1 rfl ?_
    refine z_getR dX12_partComes_68 (k := 8) (j := 2) zc_X12 lm_0 rfl (by decide) k_1046 ?_
    refine z_aload_n dX12_partComes_71 1 rfl ?_
    refine z_getI dX12_partComes_72 (k := 2) zc_X12 lm_0 rfl (by decide) k_1040 (fun h15 => ?_)
    refine z_aload_n dX12_partComes_75 1 rfl ?_
    refine z_getR dX12_partComes_76 (k := 25) (j := 14) zc_X12 lm_0 rfl (by decide) k_1063 ?_
    refine z_iload_n dX12_partComes_79 2 rfl ?_
    refine z_iconst dX12_partComes_80 ?_
    refine z_iadd dX12_partComes_81 (fun h16 => ?_)
    refine z_iaload dX12_partComes_82 h16 (fun h17 => ?_)
    refine z_iastore dX12_partComes_83 h15 h17 ?_
    refine z_aload_n dX12_partComes_84 1 rfl ?_
    refine z_getR dX12_partComes_85 (k := 9) (j := 3) zc_X12 lm_0 rfl (by decide) k_1047 ?_
    refine z_aload_n dX12_partComes_88 1 rfl ?_
    refine z_getI dX12_partComes_89 (k := 2) zc_X12 lm_0 rfl (by decide) k_1040 (fun h18 => ?_)
    refine z_aload_n dX12_partComes_92 1 rfl ?_
    refine z_getR dX12_partComes_93 (k := 25) (j := 14) zc_X12 lm_0 rfl (by decide) k_1063 ?_
    refine z_iload_n dX12_partComes_96 2 rfl ?_
    refine z_iconst dX12_partComes_97 ?_
    refine z_iadd dX12_partComes_98 (fun h19 => ?_)
    refine z_iaload dX12_partComes_99 h19 (fun h20 => ?_)
    refine z_iastore dX12_partComes_100 h18 h20 ?_
    refine z_aload_n dX12_partComes_101 1 rfl ?_
    refine z_getR dX12_partComes_102 (k := 10) (j := 4) zc_X12 lm_0 rfl (by decide) k_1048 ?_
    refine z_aload_n dX12_partComes_105 1 rfl ?_
    refine z_getI dX12_partComes_106 (k := 2) zc_X12 lm_0 rfl (by decide) k_1040 (fun h21 => ?_)
    refine z_aload_n dX12_partComes_109 1 rfl ?_
    refine z_getR dX12_partComes_110 (k := 25) (j := 14) zc_X12 lm_0 rfl (by decide) k_1063 ?_
    refine z_iload_n dX12_partComes_113 2 rfl ?_
    refine z_iconst dX12_partComes_114 ?_
    refine z_iadd dX12_partComes_115 (fun h22 => ?_)
    refine z_iaload dX12_partComes_116 h22 (fun h23 => ?_)
    refine z_iastore dX12_partComes_117 h21 h23 ?_
    refine z_aload_n dX12_partComes_118 1 rfl ?_
    refine z_getR dX12_partComes_119 (k := 11) (j := 5) zc_X12 lm_0 rfl (by decide) k_1049 ?_
    refine z_aload_n dX12_partComes_122 1 rfl ?_
    refine z_getI dX12_partComes_123 (k := 2) zc_X12 lm_0 rfl (by decide) k_1040 (fun h24 => ?_)
    refine z_iconst dX12_partComes_126 ?_
    refine z_iastore dX12_partComes_127 h24 (by decide) ?_
    refine z_aload_n dX12_partComes_128 1 rfl ?_
    refine z_getR dX12_partComes_129 (k := 38) (j := 21) zc_X12 lm_0 rfl (by decide) k_1076 ?_
    refine z_aload_n dX12_partComes_132 1 rfl ?_
    refine z_getI dX12_partComes_133 (k := 2) zc_X12 lm_0 rfl (by decide) k_1040 (fun h25 => ?_)
    refine z_iconst dX12_partComes_136 ?_
    refine z_iastore dX12_partComes_137 h25 (by decide) ?_
    refine z_aload_n dX12_partComes_138 1 rfl ?_
    refine z_getR dX12_partComes_139 (k := 39) (j := 22) zc_X12 lm_0 rfl (by decide) k_1077 ?_
    refine z_aload_n dX12_partComes_142 1 rfl ?_
    refine z_getI dX12_partComes_143 (k := 2) zc_X12 lm_0 rfl (by decide) k_1040 (fun h26 => ?_)
    refine z_iconst dX12_partComes_146 ?_
    refine z_iastore dX12_partComes_147 h26 (by decide) ?_
    refine z_aload_n dX12_partComes_148 1 rfl ?_
    refine z_dup dX12_partComes_149 rfl ?_
    refine z_getI dX12_partComes_150 (k := 2) zc_X12 lm_0 rfl (by decide) k_1040 (fun h27 => ?_)
    refine z_iconst dX12_partComes_153 ?_
    refine z_iadd dX12_partComes_154 (fun h28 => ?_)
    refine z_putI dX12_partComes_155 (k := 2) zc_X12 lm_0 rfl (by decide) rfl rfl h28 k_1040 ?_
    refine z_iload_n dX12_partComes_158 0 rfl ?_
    refine zG_chk (fun h29 => ?_)
    exact z_zret dX12_partComes_159 rfl rfl h29
set_option maxRecDepth 20000 in
theorem ct_X12_partComes {ad sc sv : Nat → Nat} (n : Nat) (a0 : Int) (m : ZMem) (ha0 : R32 a0) : zCT LM ad sc sv M_X12_partComes yX12_partComes [.ref (ad 0), .int (mI a0)] m (F_X12_partComes n a0 m) := by
  refine zCT_of (lv := [(0, .ref (ad 0)), (1, .int (mI a0))]) (by decide) rfl (Nat.le_of_ble_eq_true rfl) rfl ?_
  unfold F_X12_partComes
  refine z_aload_n dX12_partComes_0 0 rfl ?_
  refine z_getR dX12_partComes_1 (k := 25) (j := 14) zc_X12 lm_0 rfl (by decide) k_1063 ?_
  refine z_iload_n dX12_partComes_4 1 rfl ?_
  refine z_iaload dX12_partComes_5 ha0 (fun h1 => ?_)
  refine z_bipush dX12_partComes_6 (x := 6) (by decide +kernel) ?_
  refine z_icmp_ge dX12_partComes_8 h1 (by decide) (tgt := 46) rfl (fun h2 => ?_) (fun h2 => ?_)
  · refine z_iconst dX12_partComes_46 ?_
    exact zG_lvk (T_X12_partComes_47 n a0 0 m ha0 (by decide)) [0, 1] rfl
  · refine z_aload_n dX12_partComes_11 0 rfl ?_
    refine z_getR dX12_partComes_12 (k := 25) (j := 14) zc_X12 lm_0 rfl (by decide) k_1063 ?_
    refine z_iload_n dX12_partComes_15 1 rfl ?_
    refine z_iconst dX12_partComes_16 ?_
    refine z_iadd dX12_partComes_17 (fun h3 => ?_)
    refine z_iaload dX12_partComes_18 h3 (fun h4 => ?_)
    refine z_if_le dX12_partComes_19 h4 (tgt := 46) rfl (fun h5 => ?_) (fun h5 => ?_)
    · refine z_iconst dX12_partComes_46 ?_
      exact zG_lvk (T_X12_partComes_47 n a0 0 m ha0 (by decide)) [0, 1] rfl
    · refine z_aload_n dX12_partComes_22 0 rfl ?_
      refine z_getR dX12_partComes_23 (k := 25) (j := 14) zc_X12 lm_0 rfl (by decide) k_1063 ?_
      refine z_iload_n dX12_partComes_26 1 rfl ?_
      refine z_iconst dX12_partComes_27 ?_
      refine z_iadd dX12_partComes_28 (fun h6 => ?_)
      refine z_iaload dX12_partComes_29 h6 (fun h7 => ?_)
      refine z_if_le dX12_partComes_30 h7 (tgt := 46) rfl (fun h8 => ?_) (fun h8 => ?_)
      · refine z_iconst dX12_partComes_46 ?_
        exact zG_lvk (T_X12_partComes_47 n a0 0 m ha0 (by decide)) [0, 1] rfl
      · refine z_aload_n dX12_partComes_33 0 rfl ?_
        refine z_getI dX12_partComes_34 (k := 2) zc_X12 lm_0 rfl (by decide) k_1040 (fun h9 => ?_)
        refine z_bipush dX12_partComes_37 (x := 8) (by decide +kernel) ?_
        refine z_icmp_ge dX12_partComes_39 h9 (by decide) (tgt := 46) rfl (fun h10 => ?_) (fun h10 => ?_)
        · refine z_iconst dX12_partComes_46 ?_
          exact zG_lvk (T_X12_partComes_47 n a0 0 m ha0 (by decide)) [0, 1] rfl
        · refine z_iconst dX12_partComes_42 ?_
          refine z_goto dX12_partComes_43 (tgt := 47) rfl ?_
          exact zG_lvk (T_X12_partComes_47 n a0 1 m ha0 (by decide)) [0, 1] rfl
set_option maxRecDepth 20000 in
theorem ct_X12_tinComes {ad sc sv : Nat → Nat} (n : Nat) (a0 : Int) (a1 : Int) (m : ZMem) (ha0 : R32 a0) (ha1 : R32 a1) : zCT LM ad sc sv M_X12_tinComes yX12_tinComes [.ref (ad 0), .int (mI a0), .int (mI a1)] m (F_X12_tinComes n a0 a1 m) := by
  refine zCT_of (lv := [(0, .ref (ad 0)), (1, .int (mI a0)), (2, .int (mI a1))]) (by decide) rfl (Nat.le_of_ble_eq_true rfl) rfl ?_
  unfold F_X12_tinComes
  refine z_iload_n dX12_tinComes_0 2 rfl ?_
  refine z_i2l dX12_tinComes_1 ha1 (fun h1 => ?_)
  refine z_lconst dX12_tinComes_2 (x := 1) (by decide +kernel) ?_
  refine z_ldc2 dX12_tinComes_3 (x := 30) k_1264 ?_
  refine z_callS4 dX12_tinComes_6 rfl (ct_X12_in n a1 1 30 m h1 (by decide) (by decide)) k_1220 k_1221 k_10 k_1222 zn_X12_in ⟨rfl, rfl, Nat.le_of_ble_eq_true rfl, Nat.le_of_ble_eq_true rfl⟩ (Nat.le_of_ble_eq_true rfl) rfl (fun v2 m3 h4 ho5 => ?_)
  refine z_if_eq dX12_tinComes_9 (zb01 h4) (tgt := 24) rfl (fun h6 => ?_) (fun h6 => ?_)
  · refine z_iconst dX12_tinComes_24 ?_
    refine z_istore_n dX12_tinComes_25 (lv' := [(3, .int (mI 0)), (0, .ref (ad 0)), (1, .int (mI a0)), (2, .int (mI a1))]) (by decide) rfl ?_
    refine z_iload_n dX12_tinComes_26 0 rfl ?_
    refine z_if_eq_t dX12_tinComes_27 (by decide) (by decide) (tgt := 60) rfl ?_
    refine z_iload_n dX12_tinComes_60 0 rfl ?_
    exact z_zret dX12_tinComes_61 rfl rfl (by decide)
  · refine z_aload_n dX12_tinComes_12 0 rfl ?_
    refine z_getI dX12_tinComes_13 (k := 3) zc_X12 lm_0 rfl (by decide) k_1041 (fun h7 => ?_)
    refine z_iconst dX12_tinComes_16 ?_
    refine z_icmp_ge dX12_tinComes_17 h7 (by decide) (tgt := 24) rfl (fun h8 => ?_) (fun h8 => ?_)
    · refine z_iconst dX12_tinComes_24 ?_
      refine z_istore_n dX12_tinComes_25 (lv' := [(3, .int (mI 0)), (0, .ref (ad 0)), (1, .int (mI a0)), (2, .int (mI a1))]) (by decide) rfl ?_
      refine z_iload_n dX12_tinComes_26 0 rfl ?_
      refine z_if_eq_t dX12_tinComes_27 (by decide) (by decide) (tgt := 60) rfl ?_
      refine z_iload_n dX12_tinComes_60 0 rfl ?_
      exact z_zret dX12_tinComes_61 rfl rfl (by decide)
    · refine z_iconst dX12_tinComes_20 ?_
      refine z_goto dX12_tinComes_21 (tgt := 25) rfl ?_
      refine z_istore_n dX12_tinComes_25 (lv' := [(3, .int (mI 1)), (0, .ref (ad 0)), (1, .int (mI a0)), (2, .int (mI a1))]) (by decide) rfl ?_
      refine z_iload_n dX12_tinComes_26 0 rfl ?_
      refine z_if_eq_f dX12_tinComes_27 (by decide) (by decide) (tgt := 60) rfl ?_
      refine z_aload_n dX12_tinComes_30 1 rfl ?_
      refine z_getR dX12_tinComes_31 (k := 12) (j := 6) zc_X12 lm_0 rfl (by decide) k_1050 ?_
      refine z_aload_n dX12_tinComes_34 1 rfl ?_
      refine z_getI dX12_tinComes_35 (k := 3) zc_X12 lm_0 rfl (by decide) k_1041 (fun h9 => ?_)
      refine z_iload_n dX12_tinComes_38 2 rfl ?_
      refine z_iastore dX12_tinComes_39 h9 ha0 ?_
      refine z_aload_n dX12_tinComes_40 1 rfl ?_
      refine z_getR dX12_tinComes_41 (k := 13) (j := 7) zc_X12 lm_0 rfl (by decide) k_1051 ?_
      refine z_aload_n dX12_tinComes_44 1 rfl ?_
      refine z_getI dX12_tinComes_45 (k := 3) zc_X12 lm_0 rfl (by decide) k_1041 (fun h10 => ?_)
      refine z_iload_n dX12_tinComes_48 3 rfl ?_
      refine z_iastore dX12_tinComes_49 h10 ha1 ?_
      refine z_aload_n dX12_tinComes_50 1 rfl ?_
      refine z_dup dX12_tinComes_51 rfl ?_
      refine z_getI dX12_tinComes_52 (k := 3) zc_X12 lm_0 rfl (by decide) k_1041 (fun h11 => ?_)
      refine z_iconst dX12_tinComes_55 ?_
      refine z_iadd dX12_tinComes_56 (fun h12 => ?_)
      refine z_putI dX12_tinComes_57 (k := 3) zc_X12 lm_0 rfl (by decide) rfl rfl h12 k_1041 ?_
      refine z_iload_n dX12_tinComes_60 0 rfl ?_
      exact z_zret dX12_tinComes_61 rfl rfl (by decide)
set_option maxRecDepth 20000 in
theorem T_X12_hasStandIn_5 {ad sc sv : Nat → Nat} (n : Nat) (r5 : Int → Int → Int → Int → ZMem → ZR) (hr5 : ∀ (x1 : Int) (x2 : Int) (x3 : Int) (x4 : Int) (m : ZMem), R32 x1 → R32 x2 → R32 x3 → R32 x4 → zG LM ad sc sv M_X12_hasStandIn 5 [(0, .ref (ad 0)), (1, .int (mI x1)), (2, .int (mI x2)), (3, .int (mI x3)), (4, .int (mI x4))] [] m (r5 x1 x2 x3 x4 m)) : ∀ (x1 : Int) (x2 : Int) (x3 : Int) (x4 : Int) (m : ZMem), R32 x1 → R32 x2 → R32 x3 → R32 x4 → zG LM ad sc sv M_X12_hasStandIn 5 [(0, .ref (ad 0)), (1, .int (mI x1)), (2, .int (mI x2)), (3, .int (mI x3)), (4, .int (mI x4))] [] m (B_X12_hasStandIn_5 n r5 x1 x2 x3 x4 m) := by
  intro x1 x2 x3 x4 m hx1 hx2 hx3 hx4
  unfold B_X12_hasStandIn_5
  refine z_iload dX12_hasStandIn_5 4 rfl ?_
  refine z_aload_n dX12_hasStandIn_7 0 rfl ?_
  refine z_getI dX12_hasStandIn_8 (k := 4) zc_X12 lm_0 rfl (by decide) k_1042 (fun h1 => ?_)
  refine z_icmp_ge dX12_hasStandIn_11 hx4 h1 (tgt := 58) rfl (fun h2 => ?_) (fun h2 => ?_)
  · refine z_iload_n dX12_hasStandIn_58 3 rfl ?_
    refine zG_chk (fun h3 => ?_)
    exact z_zret dX12_hasStandIn_59 rfl rfl h3
  · refine z_iload_n dX12_hasStandIn_14 3 rfl ?_
    refine z_if_ne dX12_hasStandIn_15 hx3 (tgt := 46) rfl (fun h4 => ?_) (fun h4 => ?_)
    · refine z_aload_n dX12_hasStandIn_18 0 rfl ?_
      refine z_getR dX12_hasStandIn_19 (k := 14) (j := 8) zc_X12 lm_0 rfl (by decide) k_1052 ?_
      refine z_iconst dX12_hasStandIn_22 ?_
      refine z_iload dX12_hasStandIn_23 4 rfl ?_
      refine z_imul dX12_hasStandIn_25 (fun h5 => ?_)
      refine z_iaload dX12_hasStandIn_26 h5 (fun h6 => ?_)
      refine z_iload_n dX12_hasStandIn_27 1 rfl ?_
      refine z_icmp_ne dX12_hasStandIn_28 h6 hx1 (tgt := 50) rfl (fun h7 => ?_) (fun h7 => ?_)
      · refine z_aload_n dX12_hasStandIn_31 0 rfl ?_
        refine z_getR dX12_hasStandIn_32 (k := 14) (j := 8) zc_X12 lm_0 rfl (by decide) k_1052 ?_
        refine z_iconst dX12_hasStandIn_35 ?_
        refine z_iload dX12_hasStandIn_36 4 rfl ?_
        refine z_imul dX12_hasStandIn_38 (fun h8 => ?_)
        refine z_iconst dX12_hasStandIn_39 ?_
        refine z_iadd dX12_hasStandIn_40 (fun h9 => ?_)
        refine z_iaload dX12_hasStandIn_41 h9 (fun h10 => ?_)
        refine z_iload_n dX12_hasStandIn_42 2 rfl ?_
        refine z_icmp_ne dX12_hasStandIn_43 h10 hx2 (tgt := 50) rfl (fun h11 => ?_) (fun h11 => ?_)
        · refine z_iconst dX12_hasStandIn_46 ?_
          refine z_goto dX12_hasStandIn_47 (tgt := 51) rfl ?_
          refine z_istore_n dX12_hasStandIn_51 (lv' := [(3, .int (mI 1)), (0, .ref (ad 0)), (1, .int (mI x1)), (2, .int (mI x2)), (4, .int (mI x4))]) (by decide) rfl ?_
          refine z_iinc dX12_hasStandIn_52 (lv' := [(4, .int (mI (x4 + 1))), (3, .int (mI 1)), (0, .ref (ad 0)), (1, .int (mI x1)), (2, .int (mI x2))]) 4 rfl (by decide) rfl (fun h12 => ?_)
          refine z_goto dX12_hasStandIn_55 (tgt := 5) rfl ?_
          exact zG_lvk (hr5 x1 x2 1 (x4 + 1) m hx1 hx2 (by decide) h12) [2, 3, 4, 1, 0] rfl
        · refine z_iconst dX12_hasStandIn_50 ?_
          refine z_istore_n dX12_hasStandIn_51 (lv' := [(3, .int (mI 0)), (0, .ref (ad 0)), (1, .int (mI x1)), (2, .int (mI x2)), (4, .int (mI x4))]) (by decide) rfl ?_
          refine z_iinc dX12_hasStandIn_52 (lv' := [(4, .int (mI (x4 + 1))), (3, .int (mI 0)), (0, .ref (ad 0)), (1, .int (mI x1)), (2, .int (mI x2))]) 4 rfl (by decide) rfl (fun h13 => ?_)
          refine z_goto dX12_hasStandIn_55 (tgt := 5) rfl ?_
          exact zG_lvk (hr5 x1 x2 0 (x4 + 1) m hx1 hx2 (by decide) h13) [2, 3, 4, 1, 0] rfl
      · refine z_iconst dX12_hasStandIn_50 ?_
        refine z_istore_n dX12_hasStandIn_51 (lv' := [(3, .int (mI 0)), (0, .ref (ad 0)), (1, .int (mI x1)), (2, .int (mI x2)), (4, .int (mI x4))]) (by decide) rfl ?_
        refine z_iinc dX12_hasStandIn_52 (lv' := [(4, .int (mI (x4 + 1))), (3, .int (mI 0)), (0, .ref (ad 0)), (1, .int (mI x1)), (2, .int (mI x2))]) 4 rfl (by decide) rfl (fun h14 => ?_)
        refine z_goto dX12_hasStandIn_55 (tgt := 5) rfl ?_
        exact zG_lvk (hr5 x1 x2 0 (x4 + 1) m hx1 hx2 (by decide) h14) [2, 3, 4, 1, 0] rfl
    · refine z_iconst dX12_hasStandIn_46 ?_
      refine z_goto dX12_hasStandIn_47 (tgt := 51) rfl ?_
      refine z_istore_n dX12_hasStandIn_51 (lv' := [(3, .int (mI 1)), (0, .ref (ad 0)), (1, .int (mI x1)), (2, .int (mI x2)), (4, .int (mI x4))]) (by decide) rfl ?_
      refine z_iinc dX12_hasStandIn_52 (lv' := [(4, .int (mI (x4 + 1))), (3, .int (mI 1)), (0, .ref (ad 0)), (1, .int (mI x1)), (2, .int (mI x2))]) 4 rfl (by decide) rfl (fun h15 => ?_)
      refine z_goto dX12_hasStandIn_55 (tgt := 5) rfl ?_
      exact zG_lvk (hr5 x1 x2 1 (x4 + 1) m hx1 hx2 (by decide) h15) [2, 3, 4, 1, 0] rfl
theorem TL_X12_hasStandIn_5 {ad sc sv : Nat → Nat} (n : Nat) : ∀ q : Nat, ∀ (x1 : Int) (x2 : Int) (x3 : Int) (x4 : Int) (m : ZMem), R32 x1 → R32 x2 → R32 x3 → R32 x4 → zG LM ad sc sv M_X12_hasStandIn 5 [(0, .ref (ad 0)), (1, .int (mI x1)), (2, .int (mI x2)), (3, .int (mI x3)), (4, .int (mI x4))] [] m (L_X12_hasStandIn_5 n q x1 x2 x3 x4 m) := by
  intro q
  induction q with
  | zero => intros; exact zG_none
  | succ q ih => exact T_X12_hasStandIn_5 n (L_X12_hasStandIn_5 n q) ih
set_option maxRecDepth 20000 in
theorem ct_X12_hasStandIn {ad sc sv : Nat → Nat} (n : Nat) (a0 : Int) (a1 : Int) (m : ZMem) (ha0 : R32 a0) (ha1 : R32 a1) : zCT LM ad sc sv M_X12_hasStandIn yX12_hasStandIn [.ref (ad 0), .int (mI a0), .int (mI a1)] m (F_X12_hasStandIn n a0 a1 m) := by
  refine zCT_of (lv := [(0, .ref (ad 0)), (1, .int (mI a0)), (2, .int (mI a1))]) (by decide) rfl (Nat.le_of_ble_eq_true rfl) rfl ?_
  unfold F_X12_hasStandIn
  refine z_iconst dX12_hasStandIn_0 ?_
  refine z_istore_n dX12_hasStandIn_1 (lv' := [(3, .int (mI 0)), (0, .ref (ad 0)), (1, .int (mI a0)), (2, .int (mI a1))]) (by decide) rfl ?_
  refine z_iconst dX12_hasStandIn_2 ?_
  refine z_istore dX12_hasStandIn_3 (lv' := [(4, .int (mI 0)), (3, .int (mI 0)), (0, .ref (ad 0)), (1, .int (mI a0)), (2, .int (mI a1))]) (by decide) rfl ?_
  exact zG_lvk (TL_X12_hasStandIn_5 n n a0 a1 0 0 m ha0 ha1 (by decide) (by decide)) [2, 3, 4, 1, 0] rfl
set_option maxRecDepth 20000 in
theorem T_X12_standInComes_82 {ad sc sv : Nat → Nat} (n : Nat) (r82 : Int → Int → ZMem → ZR) (hr82 : ∀ (x1 : Int) (x4 : Int) (m : ZMem), R32 x1 → R32 x4 → zG LM ad sc sv M_X12_standInComes 82 [(0, .ref (ad 0)), (1, .int (mI x1)), (4, .int (mI x4))] [] m (r82 x1 x4 m)) : ∀ (x1 : Int) (x4 : Int) (m : ZMem), R32 x1 → R32 x4 → zG LM ad sc sv M_X12_standInComes 82 [(0, .ref (ad 0)), (1, .int (mI x1)), (4, .int (mI x4))] [] m (B_X12_standInComes_82 n r82 x1 x4 m) := by
  intro x1 x4 m hx1 hx4
  unfold B_X12_standInComes_82
  refine z_iload dX12_standInComes_82 2 rfl ?_
  refine z_iconst dX12_standInComes_84 ?_
  refine z_icmp_ge dX12_standInComes_85 hx4 (by decide) (tgt := 117) rfl (fun h28 => ?_) (fun h28 => ?_)
  · refine z_aload_n dX12_standInComes_117 0 rfl ?_
    refine z_dup dX12_standInComes_118 rfl ?_
    refine z_getI dX12_standInComes_119 (k := 4) zc_X12 lm_0 rfl (by decide) k_1042 (fun h29 => ?_)
    refine z_iconst dX12_standInComes_122 ?_
    refine z_iadd dX12_standInComes_123 (fun h30 => ?_)
    refine z_putI dX12_standInComes_124 (k := 4) zc_X12 lm_0 rfl (by decide) rfl rfl h30 k_1042 ?_
    refine z_iconst dX12_standInComes_127 ?_
    exact z_zret dX12_standInComes_128 rfl rfl (by decide)
  · refine z_aload_n dX12_standInComes_88 0 rfl ?_
    refine z_getR dX12_standInComes_89 (k := 14) (j := 8) zc_X12 lm_0 rfl (by decide) k_1052 ?_
    refine z_iconst dX12_standInComes_92 ?_
    refine z_aload_n dX12_standInComes_93 0 rfl ?_
    refine z_getI dX12_standInComes_94 (k := 4) zc_X12 lm_0 rfl (by decide) k_1042 (fun h31 => ?_)
    refine z_imul dX12_standInComes_97 (fun h32 => ?_)
    refine z_iload dX12_standInComes_98 2 rfl ?_
    refine z_iadd dX12_standInComes_100 (fun h33 => ?_)
    refine z_aload_n dX12_standInComes_101 0 rfl ?_
    refine z_getR dX12_standInComes_102 (k := 25) (j := 14) zc_X12 lm_0 rfl (by decide) k_1063 ?_
    refine z_iload_n dX12_standInComes_105 1 rfl ?_
    refine z_iload dX12_standInComes_106 2 rfl ?_
    refine z_iadd dX12_standInComes_108 (fun h34 => ?_)
    refine z_iaload dX12_standInComes_109 h34 (fun h35 => ?_)
    refine z_iastore dX12_standInComes_110 h33 h35 ?_
    refine z_iinc dX12_standInComes_111 (lv' := [(4, .int (mI (x4 + 1))), (0, .ref (ad 0)), (1, .int (mI x1))]) 2 rfl (by decide) rfl (fun h36 => ?_)
    refine z_goto dX12_standInComes_114 (tgt := 82) rfl ?_
    exact zG_lvk (hr82 x1 (x4 + 1) (wr m 8 (((5 * (m 0 4)) + x4) : Int).toNat (m 14 ((x1 + x4) : Int).toNat)) hx1 h36) [1, 2, 0] rfl
theorem TL_X12_standInComes_82 {ad sc sv : Nat → Nat} (n : Nat) : ∀ q : Nat, ∀ (x1 : Int) (x4 : Int) (m : ZMem), R32 x1 → R32 x4 → zG LM ad sc sv M_X12_standInComes 82 [(0, .ref (ad 0)), (1, .int (mI x1)), (4, .int (mI x4))] [] m (L_X12_standInComes_82 n q x1 x4 m) := by
  intro q
  induction q with
  | zero => intros; exact zG_none
  | succ q ih => exact T_X12_standInComes_82 n (L_X12_standInComes_82 n q) ih
set_option maxRecDepth 20000 in
theorem ct_X12_standInComes {ad sc sv : Nat → Nat} (n : Nat) (a0 : Int) (m : ZMem) (ha0 : R32 a0) : zCT LM ad sc sv M_X12_standInComes yX12_standInComes [.ref (ad 0), .int (mI a0)] m (F_X12_standInComes n a0 m) := by
  refine zCT_of (lv := [(0, .ref (ad 0)), (1, .int (mI a0))]) (by decide) rfl (Nat.le_of_ble_eq_true rfl) rfl ?_
  unfold F_X12_standInComes
  refine z_aload_n dX12_standInComes_0 0 rfl ?_
  refine z_getR dX12_standInComes_1 (k := 25) (j := 14) zc_X12 lm_0 rfl (by decide) k_1063 ?_
  refine z_iload_n dX12_standInComes_4 1 rfl ?_
  refine z_iaload dX12_standInComes_5 ha0 (fun h1 => ?_)
  refine z_istore_n dX12_standInComes_6 (lv' := [(2, .int (mI (m 14 (a0 : Int).toNat))), (0, .ref (ad 0)), (1, .int (mI a0))]) (by decide) rfl ?_
  refine z_aload_n dX12_standInComes_7 1 rfl ?_
  refine z_getR dX12_standInComes_8 (k := 25) (j := 14) zc_X12 lm_0 rfl (by decide) k_1063 ?_
  refine z_iload_n dX12_standInComes_11 2 rfl ?_
  refine z_iconst dX12_standInComes_12 ?_
  refine z_iadd dX12_standInComes_13 (fun h2 => ?_)
  refine z_iaload dX12_standInComes_14 h2 (fun h3 => ?_)
  refine z_istore_n dX12_standInComes_15 (lv' := [(3, .int (mI (m 14 ((a0 + 1) : Int).toNat))), (2, .int (mI (m 14 (a0 : Int).toNat))), (0, .ref (ad 0)), (1, .int (mI a0))]) (by decide) rfl ?_
  refine z_aload_n dX12_standInComes_16 2 rfl ?_
  refine z_iload_n dX12_standInComes_17 1 rfl ?_
  refine z_callV4 dX12_standInComes_18 rfl (ct_X12_isPart n (m 14 (a0 : Int).toNat) m h1) zc_X12 lm_0 k_1256 k_1258 kp_50 k_10 k_1259 zn_X12_isPart ⟨rfl, rfl, Nat.le_of_ble_eq_true rfl, Nat.le_of_ble_eq_true rfl⟩ (Nat.le_of_ble_eq_true rfl) rfl (fun v4 m5 h6 ho7 => ?_)
  refine z_if_eq dX12_standInComes_21 (zb01 h6) (tgt := 77) rfl (fun h8 => ?_) (fun h8 => ?_)
  · refine z_iconst dX12_standInComes_77 ?_
    exact z_zret dX12_standInComes_78 rfl rfl (by decide)
  · refine z_aload_n dX12_standInComes_24 2 rfl ?_
    refine z_iload_n dX12_standInComes_25 0 rfl ?_
    refine z_callV4 dX12_standInComes_26 rfl (ct_X12_isPart n (m 14 ((a0 + 1) : Int).toNat) m5 h3) zc_X12 lm_0 k_1256 k_1258 kp_50 k_10 k_1259 zn_X12_isPart ⟨rfl, rfl, Nat.le_of_ble_eq_true rfl, Nat.le_of_ble_eq_true rfl⟩ (Nat.le_of_ble_eq_true rfl) rfl (fun v9 m10 h11 ho12 => ?_)
    refine z_if_eq dX12_standInComes_29 (zb01 h11) (tgt := 77) rfl (fun h13 => ?_) (fun h13 => ?_)
    · refine z_iconst dX12_standInComes_77 ?_
      exact z_zret dX12_standInComes_78 rfl rfl (by decide)
    · refine z_iload_n dX12_standInComes_32 1 rfl ?_
      refine z_iload_n dX12_standInComes_33 0 rfl ?_
      refine z_icmp_eq dX12_standInComes_34 h1 h3 (tgt := 77) rfl (fun h14 => ?_) (fun h14 => ?_)
      · refine z_iconst dX12_standInComes_77 ?_
        exact z_zret dX12_standInComes_78 rfl rfl (by decide)
      · refine z_aload_n dX12_standInComes_37 2 rfl ?_
        refine z_getR dX12_standInComes_38 (k := 25) (j := 14) zc_X12 lm_0 rfl (by decide) k_1063 ?_
        refine z_iload_n dX12_standInComes_41 3 rfl ?_
        refine z_iconst dX12_standInComes_42 ?_
        refine z_iadd dX12_standInComes_43 (fun h15 => ?_)
        refine z_iaload dX12_standInComes_44 h15 (fun h16 => ?_)
        refine z_if_eq dX12_standInComes_45 h16 (tgt := 77) rfl (fun h17 => ?_) (fun h17 => ?_)
        · refine z_iconst dX12_standInComes_77 ?_
          exact z_zret dX12_standInComes_78 rfl rfl (by decide)
        · refine z_aload_n dX12_standInComes_48 2 rfl ?_
          refine z_getR dX12_standInComes_49 (k := 25) (j := 14) zc_X12 lm_0 rfl (by decide) k_1063 ?_
          refine z_iload_n dX12_standInComes_52 3 rfl ?_
          refine z_iconst dX12_standInComes_53 ?_
          refine z_iadd dX12_standInComes_54 (fun h18 => ?_)
          refine z_iaload dX12_standInComes_55 h18 (fun h19 => ?_)
          refine z_if_eq dX12_standInComes_56 h19 (tgt := 77) rfl (fun h20 => ?_) (fun h20 => ?_)
          · refine z_iconst dX12_standInComes_77 ?_
            exact z_zret dX12_standInComes_78 rfl rfl (by decide)
          · refine z_aload_n dX12_standInComes_59 2 rfl ?_
            refine z_getI dX12_standInComes_60 (k := 4) zc_X12 lm_0 rfl (by decide) k_1042 (fun h21 => ?_)
            refine z_bipush dX12_standInComes_63 (x := 6) (by decide +kernel) ?_
            refine z_icmp_eq dX12_standInComes_65 h21 (by decide) (tgt := 77) rfl (fun h22 => ?_) (fun h22 => ?_)
            · refine z_iconst dX12_standInComes_77 ?_
              exact z_zret dX12_standInComes_78 rfl rfl (by decide)
            · refine z_aload_n dX12_standInComes_68 2 rfl ?_
              refine z_iload_n dX12_standInComes_69 1 rfl ?_
              refine z_iload_n dX12_standInComes_70 0 rfl ?_
              refine z_callV4 dX12_standInComes_71 rfl (ct_X12_hasStandIn n (m 14 (a0 : Int).toNat) (m 14 ((a0 + 1) : Int).toNat) m10 h1 h3) zc_X12 lm_0 k_1269 k_1271 kp_53 k_10 k_1272 zn_X12_hasStandIn ⟨rfl, rfl, Nat.le_of_ble_eq_true rfl, Nat.le_of_ble_eq_true rfl⟩ (Nat.le_of_ble_eq_true rfl) rfl (fun v23 m24 h25 ho26 => ?_)
              refine z_if_eq dX12_standInComes_74 (zb01 h25) (tgt := 79) rfl (fun h27 => ?_) (fun h27 => ?_)
              · refine z_iconst dX12_standInComes_79 ?_
                refine z_istore dX12_standInComes_80 (lv' := [(4, .int (mI 0)), (3, .int (mI (m 14 ((a0 + 1) : Int).toNat))), (2, .int (mI (m 14 (a0 : Int).toNat))), (0, .ref (ad 0)), (1, .int (mI a0))]) (by decide) rfl ?_
                exact zG_lvk (TL_X12_standInComes_82 n n a0 0 m24 ha0 (by decide)) [3, 4, 0] rfl
              · refine z_iconst dX12_standInComes_77 ?_
                exact z_zret dX12_standInComes_78 rfl rfl (by decide)
set_option maxRecDepth 20000 in
theorem ct_X12_cupsCome {ad sc sv : Nat → Nat} (n : Nat) (a0 : Int) (a1 : Int) (a2 : Int) (m : ZMem) (ha0 : R32 a0) (ha1 : R32 a1) (ha2 : R32 a2) : zCT LM ad sc sv M_X12_cupsCome yX12_cupsCome [.ref (ad 0), .int (mI a0), .int (mI a1), .int (mI a2)] m (F_X12_cupsCome n a0 a1 a2 m) := by
  refine zCT_of (lv := [(0, .ref (ad 0)), (1, .int (mI a0)), (2, .int (mI a1)), (3, .int (mI a2))]) (by decide) rfl (Nat.le_of_ble_eq_true rfl) rfl ?_
  unfold F_X12_cupsCome
  refine z_aload_n dX12_cupsCome_0 0 rfl ?_
  refine z_getR dX12_cupsCome_1 (k := 15) (j := 9) zc_X12 lm_0 rfl (by decide) k_1053 ?_
  refine z_iconst dX12_cupsCome_4 ?_
  refine z_iload_n dX12_cupsCome_5 1 rfl ?_
  refine z_iastore dX12_cupsCome_6 (by decide) ha0 ?_
  refine z_aload_n dX12_cupsCome_7 0 rfl ?_
  refine z_getR dX12_cupsCome_8 (k := 15) (j := 9) zc_X12 lm_0 rfl (by decide) k_1053 ?_
  refine z_iconst dX12_cupsCome_11 ?_
  refine z_iload_n dX12_cupsCome_12 2 rfl ?_
  refine z_iastore dX12_cupsCome_13 (by decide) ha1 ?_
  refine z_aload_n dX12_cupsCome_14 0 rfl ?_
  refine z_getR dX12_cupsCome_15 (k := 15) (j := 9) zc_X12 lm_0 rfl (by decide) k_1053 ?_
  refine z_iconst dX12_cupsCome_18 ?_
  refine z_iload_n dX12_cupsCome_19 3 rfl ?_
  refine z_iastore dX12_cupsCome_20 (by decide) ha2 ?_
  refine z_iload_n dX12_cupsCome_21 1 rfl ?_
  refine z_bipush dX12_cupsCome_22 (x := 12) (by decide +kernel) ?_
  refine z_icmp_gt dX12_cupsCome_24 ha0 (by decide) (tgt := 43) rfl (fun h1 => ?_) (fun h1 => ?_)
  · refine z_iconst dX12_cupsCome_43 ?_
    exact z_zret dX12_cupsCome_44 rfl rfl (by decide)
  · refine z_iload_n dX12_cupsCome_27 2 rfl ?_
    refine z_bipush dX12_cupsCome_28 (x := 12) (by decide +kernel) ?_
    refine z_icmp_gt dX12_cupsCome_30 ha1 (by decide) (tgt := 43) rfl (fun h2 => ?_) (fun h2 => ?_)
    · refine z_iconst dX12_cupsCome_43 ?_
      exact z_zret dX12_cupsCome_44 rfl rfl (by decide)
    · refine z_iload_n dX12_cupsCome_33 3 rfl ?_
      refine z_bipush dX12_cupsCome_34 (x := 12) (by decide +kernel) ?_
      refine z_icmp_gt dX12_cupsCome_36 ha2 (by decide) (tgt := 43) rfl (fun h3 => ?_) (fun h3 => ?_)
      · refine z_iconst dX12_cupsCome_43 ?_
        exact z_zret dX12_cupsCome_44 rfl rfl (by decide)
      · refine z_iconst dX12_cupsCome_39 ?_
        refine z_goto dX12_cupsCome_40 (tgt := 44) rfl ?_
        exact z_zret dX12_cupsCome_44 rfl rfl (by decide)
set_option maxRecDepth 20000 in
theorem ct_X12_comes {ad sc sv : Nat → Nat} (n : Nat) (a0 : Int) (m : ZMem) (ha0 : R32 a0) : zCT LM ad sc sv M_X12_comes yX12_comes [.ref (ad 0), .int (mI a0)] m (F_X12_comes n a0 m) := by
  refine zCT_of (lv := [(0, .ref (ad 0)), (1, .int (mI a0))]) (by decide) rfl (Nat.le_of_ble_eq_true rfl) rfl ?_
  unfold F_X12_comes
  refine z_iconst dX12_comes_0 ?_
  refine z_iload_n dX12_comes_1 1 rfl ?_
  refine z_imul dX12_comes_2 (fun h1 => ?_)
  refine z_istore_n dX12_comes_3 (lv' := [(2, .int (mI (5 * a0))), (0, .ref (ad 0)), (1, .int (mI a0))]) (by decide) rfl ?_
  refine z_aload_n dX12_comes_4 1 rfl ?_
  refine z_getR dX12_comes_5 (k := 24) (j := 13) zc_X12 lm_0 rfl (by decide) k_1062 ?_
  refine z_iload_n dX12_comes_8 2 rfl ?_
  refine z_iaload dX12_comes_9 ha0 (fun h2 => ?_)
  refine z_case (fun hc3 => ?_) (fun hc3 => ?_)
  · refine z_tsIn dX12_comes_10 (cst := 102) hc3 (by decide) (by decide) rfl (tgt := 84) rfl ?_
    refine z_aload_n dX12_comes_84 1 rfl ?_
    refine z_aload_n dX12_comes_85 1 rfl ?_
    refine z_getR dX12_comes_86 (k := 25) (j := 14) zc_X12 lm_0 rfl (by decide) k_1063 ?_
    refine z_iload_n dX12_comes_89 0 rfl ?_
    refine z_iaload dX12_comes_90 h1 (fun h4 => ?_)
    refine z_putI dX12_comes_91 (k := 0) zc_X12 lm_0 rfl (by decide) rfl rfl h4 k_1038 ?_
    refine z_aload_n dX12_comes_94 1 rfl ?_
    refine z_getR dX12_comes_95 (k := 25) (j := 14) zc_X12 lm_0 rfl (by decide) k_1063 ?_
    refine z_iload_n dX12_comes_98 0 rfl ?_
    refine z_iaload dX12_comes_99 h1 (fun h5 => ?_)
    refine z_i2l dX12_comes_100 h5 (fun h6 => ?_)
    refine z_lconst dX12_comes_101 (x := 1) (by decide +kernel) ?_
    refine z_ldc2 dX12_comes_102 (x := 24) k_1251 ?_
    refine z_callS4 dX12_comes_105 rfl (ct_X12_in n ((wr m 0 0 (m 14 ((5 * a0) : Int).toNat)) 14 ((5 * a0) : Int).toNat) 1 24 (wr m 0 0 (m 14 ((5 * a0) : Int).toNat)) h6 (by decide) (by decide)) k_1220 k_1221 k_10 k_1222 zn_X12_in ⟨rfl, rfl, Nat.le_of_ble_eq_true rfl, Nat.le_of_ble_eq_true rfl⟩ (Nat.le_of_ble_eq_true rfl) rfl (fun v7 m8 h9 ho10 => ?_)
    exact z_zret dX12_comes_108 rfl rfl h9
  · refine z_case (fun hc11 => ?_) (fun hc11 => ?_)
    · refine z_tsIn dX12_comes_10 (cst := 103) hc11 (by decide) (by decide) rfl (tgt := 183) rfl ?_
      refine z_aload_n dX12_comes_183 1 rfl ?_
      refine z_aload_n dX12_comes_184 1 rfl ?_
      refine z_getR dX12_comes_185 (k := 25) (j := 14) zc_X12 lm_0 rfl (by decide) k_1063 ?_
      refine z_iload_n dX12_comes_188 0 rfl ?_
      refine z_iaload dX12_comes_189 h1 (fun h12 => ?_)
      refine z_aload_n dX12_comes_190 1 rfl ?_
      refine z_getR dX12_comes_191 (k := 25) (j := 14) zc_X12 lm_0 rfl (by decide) k_1063 ?_
      refine z_iload_n dX12_comes_194 0 rfl ?_
      refine z_iconst dX12_comes_195 ?_
      refine z_iadd dX12_comes_196 (fun h13 => ?_)
      refine z_iaload dX12_comes_197 h13 (fun h14 => ?_)
      refine z_aload_n dX12_comes_198 1 rfl ?_
      refine z_getR dX12_comes_199 (k := 25) (j := 14) zc_X12 lm_0 rfl (by decide) k_1063 ?_
      refine z_iload_n dX12_comes_202 0 rfl ?_
      refine z_iconst dX12_comes_203 ?_
      refine z_iadd dX12_comes_204 (fun h15 => ?_)
      refine z_iaload dX12_comes_205 h15 (fun h16 => ?_)
      refine z_callV4 dX12_comes_206 rfl (ct_X12_cupsCome n (m 14 ((5 * a0) : Int).toNat) (m 14 (((5 * a0) + 1) : Int).toNat) (m 14 (((5 * a0) + 2) : Int).toNat) m h12 h14 h16) zc_X12 lm_0 k_1273 k_1275 kp_54 k_10 k_1276 zn_X12_cupsCome ⟨rfl, rfl, Nat.le_of_ble_eq_true rfl, Nat.le_of_ble_eq_true rfl⟩ (Nat.le_of_ble_eq_true rfl) rfl (fun v17 m18 h19 ho20 => ?_)
      exact z_zret dX12_comes_209 rfl rfl h19
    · refine z_case (fun hc21 => ?_) (fun hc21 => ?_)
      · refine z_tsIn dX12_comes_10 (cst := 104) hc21 (by decide) (by decide) rfl (tgt := 115) rfl ?_
        refine z_aload_n dX12_comes_115 1 rfl ?_
        refine z_aload_n dX12_comes_116 1 rfl ?_
        refine z_getR dX12_comes_117 (k := 25) (j := 14) zc_X12 lm_0 rfl (by decide) k_1063 ?_
        refine z_iload_n dX12_comes_120 0 rfl ?_
        refine z_iaload dX12_comes_121 h1 (fun h22 => ?_)
        refine z_callV4 dX12_comes_122 rfl (ct_X12_isPart n (m 14 ((5 * a0) : Int).toNat) m h22) zc_X12 lm_0 k_1256 k_1258 kp_50 k_10 k_1259 zn_X12_isPart ⟨rfl, rfl, Nat.le_of_ble_eq_true rfl, Nat.le_of_ble_eq_true rfl⟩ (Nat.le_of_ble_eq_true rfl) rfl (fun v23 m24 h25 ho26 => ?_)
        refine z_if_eq dX12_comes_125 (zb01 h25) (tgt := 147) rfl (fun h27 => ?_) (fun h27 => ?_)
        · refine z_aload_n dX12_comes_147 1 rfl ?_
          refine z_aload_n dX12_comes_148 1 rfl ?_
          refine z_getR dX12_comes_149 (k := 25) (j := 14) zc_X12 lm_0 rfl (by decide) k_1063 ?_
          refine z_iload_n dX12_comes_152 0 rfl ?_
          refine z_iaload dX12_comes_153 h1 (fun h28 => ?_)
          refine z_callV4 dX12_comes_154 rfl (ct_X12_isPart n (m24 14 ((5 * a0) : Int).toNat) m24 h28) zc_X12 lm_0 k_1256 k_1258 kp_50 k_10 k_1259 zn_X12_isPart ⟨rfl, rfl, Nat.le_of_ble_eq_true rfl, Nat.le_of_ble_eq_true rfl⟩ (Nat.le_of_ble_eq_true rfl) rfl (fun v29 m30 h31 ho32 => ?_)
          exact z_zret dX12_comes_157 rfl rfl h31
        · refine z_aload_n dX12_comes_128 1 rfl ?_
          refine z_getR dX12_comes_129 (k := 11) (j := 5) zc_X12 lm_0 rfl (by decide) k_1049 ?_
          refine z_aload_n dX12_comes_132 1 rfl ?_
          refine z_getR dX12_comes_133 (k := 25) (j := 14) zc_X12 lm_0 rfl (by decide) k_1063 ?_
          refine z_iload_n dX12_comes_136 0 rfl ?_
          refine z_iaload dX12_comes_137 h1 (fun h33 => ?_)
          refine z_aload_n dX12_comes_138 1 rfl ?_
          refine z_getR dX12_comes_139 (k := 25) (j := 14) zc_X12 lm_0 rfl (by decide) k_1063 ?_
          refine z_iload_n dX12_comes_142 0 rfl ?_
          refine z_iconst dX12_comes_143 ?_
          refine z_iadd dX12_comes_144 (fun h34 => ?_)
          refine z_iaload dX12_comes_145 h34 (fun h35 => ?_)
          refine z_iastore dX12_comes_146 h33 h35 ?_
          refine z_aload_n dX12_comes_147 1 rfl ?_
          refine z_aload_n dX12_comes_148 1 rfl ?_
          refine z_getR dX12_comes_149 (k := 25) (j := 14) zc_X12 lm_0 rfl (by decide) k_1063 ?_
          refine z_iload_n dX12_comes_152 0 rfl ?_
          refine z_iaload dX12_comes_153 h1 (fun h36 => ?_)
          refine z_callV4 dX12_comes_154 rfl (ct_X12_isPart n ((wr m24 5 ((m24 14 ((5 * a0) : Int).toNat) : Int).toNat (m24 14 (((5 * a0) + 1) : Int).toNat)) 14 ((5 * a0) : Int).toNat) (wr m24 5 ((m24 14 ((5 * a0) : Int).toNat) : Int).toNat (m24 14 (((5 * a0) + 1) : Int).toNat)) h36) zc_X12 lm_0 k_1256 k_1258 kp_50 k_10 k_1259 zn_X12_isPart ⟨rfl, rfl, Nat.le_of_ble_eq_true rfl, Nat.le_of_ble_eq_true rfl⟩ (Nat.le_of_ble_eq_true rfl) rfl (fun v37 m38 h39 ho40 => ?_)
          exact z_zret dX12_comes_157 rfl rfl h39
      · refine z_case (fun hc41 => ?_) (fun hc41 => ?_)
        · refine z_tsIn dX12_comes_10 (cst := 105) hc41 (by decide) (by decide) rfl (tgt := 183) rfl ?_
          refine z_aload_n dX12_comes_183 1 rfl ?_
          refine z_aload_n dX12_comes_184 1 rfl ?_
          refine z_getR dX12_comes_185 (k := 25) (j := 14) zc_X12 lm_0 rfl (by decide) k_1063 ?_
          refine z_iload_n dX12_comes_188 0 rfl ?_
          refine z_iaload dX12_comes_189 h1 (fun h42 => ?_)
          refine z_aload_n dX12_comes_190 1 rfl ?_
          refine z_getR dX12_comes_191 (k := 25) (j := 14) zc_X12 lm_0 rfl (by decide) k_1063 ?_
          refine z_iload_n dX12_comes_194 0 rfl ?_
          refine z_iconst dX12_comes_195 ?_
          refine z_iadd dX12_comes_196 (fun h43 => ?_)
          refine z_iaload dX12_comes_197 h43 (fun h44 => ?_)
          refine z_aload_n dX12_comes_198 1 rfl ?_
          refine z_getR dX12_comes_199 (k := 25) (j := 14) zc_X12 lm_0 rfl (by decide) k_1063 ?_
          refine z_iload_n dX12_comes_202 0 rfl ?_
          refine z_iconst dX12_comes_203 ?_
          refine z_iadd dX12_comes_204 (fun h45 => ?_)
          refine z_iaload dX12_comes_205 h45 (fun h46 => ?_)
          refine z_callV4 dX12_comes_206 rfl (ct_X12_cupsCome n (m 14 ((5 * a0) : Int).toNat) (m 14 (((5 * a0) + 1) : Int).toNat) (m 14 (((5 * a0) + 2) : Int).toNat) m h42 h44 h46) zc_X12 lm_0 k_1273 k_1275 kp_54 k_10 k_1276 zn_X12_cupsCome ⟨rfl, rfl, Nat.le_of_ble_eq_true rfl, Nat.le_of_ble_eq_true rfl⟩ (Nat.le_of_ble_eq_true rfl) rfl (fun v47 m48 h49 ho50 => ?_)
          exact z_zret dX12_comes_209 rfl rfl h49
        · refine z_case (fun hc51 => ?_) (fun hc51 => ?_)
          · refine z_tsIn dX12_comes_10 (cst := 106) hc51 (by decide) (by decide) rfl (tgt := 183) rfl ?_
            refine z_aload_n dX12_comes_183 1 rfl ?_
            refine z_aload_n dX12_comes_184 1 rfl ?_
            refine z_getR dX12_comes_185 (k := 25) (j := 14) zc_X12 lm_0 rfl (by decide) k_1063 ?_
            refine z_iload_n dX12_comes_188 0 rfl ?_
            refine z_iaload dX12_comes_189 h1 (fun h52 => ?_)
            refine z_aload_n dX12_comes_190 1 rfl ?_
            refine z_getR dX12_comes_191 (k := 25) (j := 14) zc_X12 lm_0 rfl (by decide) k_1063 ?_
            refine z_iload_n dX12_comes_194 0 rfl ?_
            refine z_iconst dX12_comes_195 ?_
            refine z_iadd dX12_comes_196 (fun h53 => ?_)
            refine z_iaload dX12_comes_197 h53 (fun h54 => ?_)
            refine z_aload_n dX12_comes_198 1 rfl ?_
            refine z_getR dX12_comes_199 (k := 25) (j := 14) zc_X12 lm_0 rfl (by decide) k_1063 ?_
            refine z_iload_n dX12_comes_202 0 rfl ?_
            refine z_iconst dX12_comes_203 ?_
            refine z_iadd dX12_comes_204 (fun h55 => ?_)
            refine z_iaload dX12_comes_205 h55 (fun h56 => ?_)
            refine z_callV4 dX12_comes_206 rfl (ct_X12_cupsCome n (m 14 ((5 * a0) : Int).toNat) (m 14 (((5 * a0) + 1) : Int).toNat) (m 14 (((5 * a0) + 2) : Int).toNat) m h52 h54 h56) zc_X12 lm_0 k_1273 k_1275 kp_54 k_10 k_1276 zn_X12_cupsCome ⟨rfl, rfl, Nat.le_of_ble_eq_true rfl, Nat.le_of_ble_eq_true rfl⟩ (Nat.le_of_ble_eq_true rfl) rfl (fun v57 m58 h59 ho60 => ?_)
            exact z_zret dX12_comes_209 rfl rfl h59
          · refine z_case (fun hc61 => ?_) (fun hc61 => ?_)
            · refine z_tsIn dX12_comes_10 (cst := 107) hc61 (by decide) (by decide) rfl (tgt := 183) rfl ?_
              refine z_aload_n dX12_comes_183 1 rfl ?_
              refine z_aload_n dX12_comes_184 1 rfl ?_
              refine z_getR dX12_comes_185 (k := 25) (j := 14) zc_X12 lm_0 rfl (by decide) k_1063 ?_
              refine z_iload_n dX12_comes_188 0 rfl ?_
              refine z_iaload dX12_comes_189 h1 (fun h62 => ?_)
              refine z_aload_n dX12_comes_190 1 rfl ?_
              refine z_getR dX12_comes_191 (k := 25) (j := 14) zc_X12 lm_0 rfl (by decide) k_1063 ?_
              refine z_iload_n dX12_comes_194 0 rfl ?_
              refine z_iconst dX12_comes_195 ?_
              refine z_iadd dX12_comes_196 (fun h63 => ?_)
              refine z_iaload dX12_comes_197 h63 (fun h64 => ?_)
              refine z_aload_n dX12_comes_198 1 rfl ?_
              refine z_getR dX12_comes_199 (k := 25) (j := 14) zc_X12 lm_0 rfl (by decide) k_1063 ?_
              refine z_iload_n dX12_comes_202 0 rfl ?_
              refine z_iconst dX12_comes_203 ?_
              refine z_iadd dX12_comes_204 (fun h65 => ?_)
              refine z_iaload dX12_comes_205 h65 (fun h66 => ?_)
              refine z_callV4 dX12_comes_206 rfl (ct_X12_cupsCome n (m 14 ((5 * a0) : Int).toNat) (m 14 (((5 * a0) + 1) : Int).toNat) (m 14 (((5 * a0) + 2) : Int).toNat) m h62 h64 h66) zc_X12 lm_0 k_1273 k_1275 kp_54 k_10 k_1276 zn_X12_cupsCome ⟨rfl, rfl, Nat.le_of_ble_eq_true rfl, Nat.le_of_ble_eq_true rfl⟩ (Nat.le_of_ble_eq_true rfl) rfl (fun v67 m68 h69 ho70 => ?_)
              exact z_zret dX12_comes_209 rfl rfl h69
            · refine z_case (fun hc71 => ?_) (fun hc71 => ?_)
              · refine z_tsIn dX12_comes_10 (cst := 108) hc71 (by decide) (by decide) rfl (tgt := 183) rfl ?_
                refine z_aload_n dX12_comes_183 1 rfl ?_
                refine z_aload_n dX12_comes_184 1 rfl ?_
                refine z_getR dX12_comes_185 (k := 25) (j := 14) zc_X12 lm_0 rfl (by decide) k_1063 ?_
                refine z_iload_n dX12_comes_188 0 rfl ?_
                refine z_iaload dX12_comes_189 h1 (fun h72 => ?_)
                refine z_aload_n dX12_comes_190 1 rfl ?_
                refine z_getR dX12_comes_191 (k := 25) (j := 14) zc_X12 lm_0 rfl (by decide) k_1063 ?_
                refine z_iload_n dX12_comes_194 0 rfl ?_
                refine z_iconst dX12_comes_195 ?_
                refine z_iadd dX12_comes_196 (fun h73 => ?_)
                refine z_iaload dX12_comes_197 h73 (fun h74 => ?_)
                refine z_aload_n dX12_comes_198 1 rfl ?_
                refine z_getR dX12_comes_199 (k := 25) (j := 14) zc_X12 lm_0 rfl (by decide) k_1063 ?_
                refine z_iload_n dX12_comes_202 0 rfl ?_
                refine z_iconst dX12_comes_203 ?_
                refine z_iadd dX12_comes_204 (fun h75 => ?_)
                refine z_iaload dX12_comes_205 h75 (fun h76 => ?_)
                refine z_callV4 dX12_comes_206 rfl (ct_X12_cupsCome n (m 14 ((5 * a0) : Int).toNat) (m 14 (((5 * a0) + 1) : Int).toNat) (m 14 (((5 * a0) + 2) : Int).toNat) m h72 h74 h76) zc_X12 lm_0 k_1273 k_1275 kp_54 k_10 k_1276 zn_X12_cupsCome ⟨rfl, rfl, Nat.le_of_ble_eq_true rfl, Nat.le_of_ble_eq_true rfl⟩ (Nat.le_of_ble_eq_true rfl) rfl (fun v77 m78 h79 ho80 => ?_)
                exact z_zret dX12_comes_209 rfl rfl h79
              · refine z_case (fun hc81 => ?_) (fun hc81 => ?_)
                · refine z_tsIn dX12_comes_10 (cst := 109) hc81 (by decide) (by decide) rfl (tgt := 183) rfl ?_
                  refine z_aload_n dX12_comes_183 1 rfl ?_
                  refine z_aload_n dX12_comes_184 1 rfl ?_
                  refine z_getR dX12_comes_185 (k := 25) (j := 14) zc_X12 lm_0 rfl (by decide) k_1063 ?_
                  refine z_iload_n dX12_comes_188 0 rfl ?_
                  refine z_iaload dX12_comes_189 h1 (fun h82 => ?_)
                  refine z_aload_n dX12_comes_190 1 rfl ?_
                  refine z_getR dX12_comes_191 (k := 25) (j := 14) zc_X12 lm_0 rfl (by decide) k_1063 ?_
                  refine z_iload_n dX12_comes_194 0 rfl ?_
                  refine z_iconst dX12_comes_195 ?_
                  refine z_iadd dX12_comes_196 (fun h83 => ?_)
                  refine z_iaload dX12_comes_197 h83 (fun h84 => ?_)
                  refine z_aload_n dX12_comes_198 1 rfl ?_
                  refine z_getR dX12_comes_199 (k := 25) (j := 14) zc_X12 lm_0 rfl (by decide) k_1063 ?_
                  refine z_iload_n dX12_comes_202 0 rfl ?_
                  refine z_iconst dX12_comes_203 ?_
                  refine z_iadd dX12_comes_204 (fun h85 => ?_)
                  refine z_iaload dX12_comes_205 h85 (fun h86 => ?_)
                  refine z_callV4 dX12_comes_206 rfl (ct_X12_cupsCome n (m 14 ((5 * a0) : Int).toNat) (m 14 (((5 * a0) + 1) : Int).toNat) (m 14 (((5 * a0) + 2) : Int).toNat) m h82 h84 h86) zc_X12 lm_0 k_1273 k_1275 kp_54 k_10 k_1276 zn_X12_cupsCome ⟨rfl, rfl, Nat.le_of_ble_eq_true rfl, Nat.le_of_ble_eq_true rfl⟩ (Nat.le_of_ble_eq_true rfl) rfl (fun v87 m88 h89 ho90 => ?_)
                  exact z_zret dX12_comes_209 rfl rfl h89
                · refine z_case (fun hc91 => ?_) (fun hc91 => ?_)
                  · refine z_tsIn dX12_comes_10 (cst := 110) hc91 (by decide) (by decide) rfl (tgt := 183) rfl ?_
                    refine z_aload_n dX12_comes_183 1 rfl ?_
                    refine z_aload_n dX12_comes_184 1 rfl ?_
                    refine z_getR dX12_comes_185 (k := 25) (j := 14) zc_X12 lm_0 rfl (by decide) k_1063 ?_
                    refine z_iload_n dX12_comes_188 0 rfl ?_
                    refine z_iaload dX12_comes_189 h1 (fun h92 => ?_)
                    refine z_aload_n dX12_comes_190 1 rfl ?_
                    refine z_getR dX12_comes_191 (k := 25) (j := 14) zc_X12 lm_0 rfl (by decide) k_1063 ?_
                    refine z_iload_n dX12_comes_194 0 rfl ?_
                    refine z_iconst dX12_comes_195 ?_
                    refine z_iadd dX12_comes_196 (fun h93 => ?_)
                    refine z_iaload dX12_comes_197 h93 (fun h94 => ?_)
                    refine z_aload_n dX12_comes_198 1 rfl ?_
                    refine z_getR dX12_comes_199 (k := 25) (j := 14) zc_X12 lm_0 rfl (by decide) k_1063 ?_
                    refine z_iload_n dX12_comes_202 0 rfl ?_
                    refine z_iconst dX12_comes_203 ?_
                    refine z_iadd dX12_comes_204 (fun h95 => ?_)
                    refine z_iaload dX12_comes_205 h95 (fun h96 => ?_)
                    refine z_callV4 dX12_comes_206 rfl (ct_X12_cupsCome n (m 14 ((5 * a0) : Int).toNat) (m 14 (((5 * a0) + 1) : Int).toNat) (m 14 (((5 * a0) + 2) : Int).toNat) m h92 h94 h96) zc_X12 lm_0 k_1273 k_1275 kp_54 k_10 k_1276 zn_X12_cupsCome ⟨rfl, rfl, Nat.le_of_ble_eq_true rfl, Nat.le_of_ble_eq_true rfl⟩ (Nat.le_of_ble_eq_true rfl) rfl (fun v97 m98 h99 ho100 => ?_)
                    exact z_zret dX12_comes_209 rfl rfl h99
                  · refine z_case (fun hc101 => ?_) (fun hc101 => ?_)
                    · refine z_tsIn dX12_comes_10 (cst := 111) hc101 (by decide) (by decide) rfl (tgt := 183) rfl ?_
                      refine z_aload_n dX12_comes_183 1 rfl ?_
                      refine z_aload_n dX12_comes_184 1 rfl ?_
                      refine z_getR dX12_comes_185 (k := 25) (j := 14) zc_X12 lm_0 rfl (by decide) k_1063 ?_
                      refine z_iload_n dX12_comes_188 0 rfl ?_
                      refine z_iaload dX12_comes_189 h1 (fun h102 => ?_)
                      refine z_aload_n dX12_comes_190 1 rfl ?_
                      refine z_getR dX12_comes_191 (k := 25) (j := 14) zc_X12 lm_0 rfl (by decide) k_1063 ?_
                      refine z_iload_n dX12_comes_194 0 rfl ?_
                      refine z_iconst dX12_comes_195 ?_
                      refine z_iadd dX12_comes_196 (fun h103 => ?_)
                      refine z_iaload dX12_comes_197 h103 (fun h104 => ?_)
                      refine z_aload_n dX12_comes_198 1 rfl ?_
                      refine z_getR dX12_comes_199 (k := 25) (j := 14) zc_X12 lm_0 rfl (by decide) k_1063 ?_
                      refine z_iload_n dX12_comes_202 0 rfl ?_
                      refine z_iconst dX12_comes_203 ?_
                      refine z_iadd dX12_comes_204 (fun h105 => ?_)
                      refine z_iaload dX12_comes_205 h105 (fun h106 => ?_)
                      refine z_callV4 dX12_comes_206 rfl (ct_X12_cupsCome n (m 14 ((5 * a0) : Int).toNat) (m 14 (((5 * a0) + 1) : Int).toNat) (m 14 (((5 * a0) + 2) : Int).toNat) m h102 h104 h106) zc_X12 lm_0 k_1273 k_1275 kp_54 k_10 k_1276 zn_X12_cupsCome ⟨rfl, rfl, Nat.le_of_ble_eq_true rfl, Nat.le_of_ble_eq_true rfl⟩ (Nat.le_of_ble_eq_true rfl) rfl (fun v107 m108 h109 ho110 => ?_)
                      exact z_zret dX12_comes_209 rfl rfl h109
                    · refine z_case (fun hc111 => ?_) (fun hc111 => ?_)
                      · refine z_tsIn dX12_comes_10 (cst := 112) hc111 (by decide) (by decide) rfl (tgt := 109) rfl ?_
                        refine z_aload_n dX12_comes_109 1 rfl ?_
                        refine z_iload_n dX12_comes_110 0 rfl ?_
                        refine z_callV4 dX12_comes_111 rfl (ct_X12_partComes n (5 * a0) m h1) zc_X12 lm_0 k_1252 k_1254 kp_49 k_10 k_1255 zn_X12_partComes ⟨rfl, rfl, Nat.le_of_ble_eq_true rfl, Nat.le_of_ble_eq_true rfl⟩ (Nat.le_of_ble_eq_true rfl) rfl (fun v112 m113 h114 ho115 => ?_)
                        exact z_zret dX12_comes_114 rfl rfl h114
                      · refine z_case (fun hc116 => ?_) (fun hc116 => ?_)
                        · refine z_tsIn dX12_comes_10 (cst := 113) hc116 (by decide) (by decide) rfl (tgt := 183) rfl ?_
                          refine z_aload_n dX12_comes_183 1 rfl ?_
                          refine z_aload_n dX12_comes_184 1 rfl ?_
                          refine z_getR dX12_comes_185 (k := 25) (j := 14) zc_X12 lm_0 rfl (by decide) k_1063 ?_
                          refine z_iload_n dX12_comes_188 0 rfl ?_
                          refine z_iaload dX12_comes_189 h1 (fun h117 => ?_)
                          refine z_aload_n dX12_comes_190 1 rfl ?_
                          refine z_getR dX12_comes_191 (k := 25) (j := 14) zc_X12 lm_0 rfl (by decide) k_1063 ?_
                          refine z_iload_n dX12_comes_194 0 rfl ?_
                          refine z_iconst dX12_comes_195 ?_
                          refine z_iadd dX12_comes_196 (fun h118 => ?_)
                          refine z_iaload dX12_comes_197 h118 (fun h119 => ?_)
                          refine z_aload_n dX12_comes_198 1 rfl ?_
                          refine z_getR dX12_comes_199 (k := 25) (j := 14) zc_X12 lm_0 rfl (by decide) k_1063 ?_
                          refine z_iload_n dX12_comes_202 0 rfl ?_
                          refine z_iconst dX12_comes_203 ?_
                          refine z_iadd dX12_comes_204 (fun h120 => ?_)
                          refine z_iaload dX12_comes_205 h120 (fun h121 => ?_)
                          refine z_callV4 dX12_comes_206 rfl (ct_X12_cupsCome n (m 14 ((5 * a0) : Int).toNat) (m 14 (((5 * a0) + 1) : Int).toNat) (m 14 (((5 * a0) + 2) : Int).toNat) m h117 h119 h121) zc_X12 lm_0 k_1273 k_1275 kp_54 k_10 k_1276 zn_X12_cupsCome ⟨rfl, rfl, Nat.le_of_ble_eq_true rfl, Nat.le_of_ble_eq_true rfl⟩ (Nat.le_of_ble_eq_true rfl) rfl (fun v122 m123 h124 ho125 => ?_)
                          exact z_zret dX12_comes_209 rfl rfl h124
                        · refine z_case (fun hc126 => ?_) (fun hc126 => ?_)
                          · refine z_tsIn dX12_comes_10 (cst := 114) hc126 (by decide) (by decide) rfl (tgt := 183) rfl ?_
                            refine z_aload_n dX12_comes_183 1 rfl ?_
                            refine z_aload_n dX12_comes_184 1 rfl ?_
                            refine z_getR dX12_comes_185 (k := 25) (j := 14) zc_X12 lm_0 rfl (by decide) k_1063 ?_
                            refine z_iload_n dX12_comes_188 0 rfl ?_
                            refine z_iaload dX12_comes_189 h1 (fun h127 => ?_)
                            refine z_aload_n dX12_comes_190 1 rfl ?_
                            refine z_getR dX12_comes_191 (k := 25) (j := 14) zc_X12 lm_0 rfl (by decide) k_1063 ?_
                            refine z_iload_n dX12_comes_194 0 rfl ?_
                            refine z_iconst dX12_comes_195 ?_
                            refine z_iadd dX12_comes_196 (fun h128 => ?_)
                            refine z_iaload dX12_comes_197 h128 (fun h129 => ?_)
                            refine z_aload_n dX12_comes_198 1 rfl ?_
                            refine z_getR dX12_comes_199 (k := 25) (j := 14) zc_X12 lm_0 rfl (by decide) k_1063 ?_
                            refine z_iload_n dX12_comes_202 0 rfl ?_
                            refine z_iconst dX12_comes_203 ?_
                            refine z_iadd dX12_comes_204 (fun h130 => ?_)
                            refine z_iaload dX12_comes_205 h130 (fun h131 => ?_)
                            refine z_callV4 dX12_comes_206 rfl (ct_X12_cupsCome n (m 14 ((5 * a0) : Int).toNat) (m 14 (((5 * a0) + 1) : Int).toNat) (m 14 (((5 * a0) + 2) : Int).toNat) m h127 h129 h131) zc_X12 lm_0 k_1273 k_1275 kp_54 k_10 k_1276 zn_X12_cupsCome ⟨rfl, rfl, Nat.le_of_ble_eq_true rfl, Nat.le_of_ble_eq_true rfl⟩ (Nat.le_of_ble_eq_true rfl) rfl (fun v132 m133 h134 ho135 => ?_)
                            exact z_zret dX12_comes_209 rfl rfl h134
                          · refine z_case (fun hc136 => ?_) (fun hc136 => ?_)
                            · refine z_tsIn dX12_comes_10 (cst := 115) hc136 (by decide) (by decide) rfl (tgt := 177) rfl ?_
                              refine z_aload_n dX12_comes_177 1 rfl ?_
                              refine z_iload_n dX12_comes_178 0 rfl ?_
                              refine z_callV4 dX12_comes_179 rfl (ct_X12_standInComes n (5 * a0) m h1) zc_X12 lm_0 k_1265 k_1267 kp_52 k_10 k_1268 zn_X12_standInComes ⟨rfl, rfl, Nat.le_of_ble_eq_true rfl, Nat.le_of_ble_eq_true rfl⟩ (Nat.le_of_ble_eq_true rfl) rfl (fun v137 m138 h139 ho140 => ?_)
                              exact z_zret dX12_comes_182 rfl rfl h139
                            · refine z_case (fun hc141 => ?_) (fun hc141 => ?_)
                              · refine z_tsIn dX12_comes_10 (cst := 116) hc141 (by decide) (by decide) rfl (tgt := 158) rfl ?_
                                refine z_aload_n dX12_comes_158 1 rfl ?_
                                refine z_aload_n dX12_comes_159 1 rfl ?_
                                refine z_getR dX12_comes_160 (k := 25) (j := 14) zc_X12 lm_0 rfl (by decide) k_1063 ?_
                                refine z_iload_n dX12_comes_163 0 rfl ?_
                                refine z_iaload dX12_comes_164 h1 (fun h142 => ?_)
                                refine z_aload_n dX12_comes_165 1 rfl ?_
                                refine z_getR dX12_comes_166 (k := 25) (j := 14) zc_X12 lm_0 rfl (by decide) k_1063 ?_
                                refine z_iload_n dX12_comes_169 0 rfl ?_
                                refine z_iconst dX12_comes_170 ?_
                                refine z_iadd dX12_comes_171 (fun h143 => ?_)
                                refine z_iaload dX12_comes_172 h143 (fun h144 => ?_)
                                refine z_callV4 dX12_comes_173 rfl (ct_X12_tinComes n (m 14 ((5 * a0) : Int).toNat) (m 14 (((5 * a0) + 1) : Int).toNat) m h142 h144) zc_X12 lm_0 k_1260 k_1262 kp_51 k_10 k_1263 zn_X12_tinComes ⟨rfl, rfl, Nat.le_of_ble_eq_true rfl, Nat.le_of_ble_eq_true rfl⟩ (Nat.le_of_ble_eq_true rfl) rfl (fun v145 m146 h147 ho148 => ?_)
                                exact z_zret dX12_comes_176 rfl rfl h147
                              · refine z_tsOut dX12_comes_10 h2 (by omega) (tgt := 183) rfl ?_
                                refine z_aload_n dX12_comes_183 1 rfl ?_
                                refine z_aload_n dX12_comes_184 1 rfl ?_
                                refine z_getR dX12_comes_185 (k := 25) (j := 14) zc_X12 lm_0 rfl (by decide) k_1063 ?_
                                refine z_iload_n dX12_comes_188 0 rfl ?_
                                refine z_iaload dX12_comes_189 h1 (fun h149 => ?_)
                                refine z_aload_n dX12_comes_190 1 rfl ?_
                                refine z_getR dX12_comes_191 (k := 25) (j := 14) zc_X12 lm_0 rfl (by decide) k_1063 ?_
                                refine z_iload_n dX12_comes_194 0 rfl ?_
                                refine z_iconst dX12_comes_195 ?_
                                refine z_iadd dX12_comes_196 (fun h150 => ?_)
                                refine z_iaload dX12_comes_197 h150 (fun h151 => ?_)
                                refine z_aload_n dX12_comes_198 1 rfl ?_
                                refine z_getR dX12_comes_199 (k := 25) (j := 14) zc_X12 lm_0 rfl (by decide) k_1063 ?_
                                refine z_iload_n dX12_comes_202 0 rfl ?_
                                refine z_iconst dX12_comes_203 ?_
                                refine z_iadd dX12_comes_204 (fun h152 => ?_)
                                refine z_iaload dX12_comes_205 h152 (fun h153 => ?_)
                                refine z_callV4 dX12_comes_206 rfl (ct_X12_cupsCome n (m 14 ((5 * a0) : Int).toNat) (m 14 (((5 * a0) + 1) : Int).toNat) (m 14 (((5 * a0) + 2) : Int).toNat) m h149 h151 h153) zc_X12 lm_0 k_1273 k_1275 kp_54 k_10 k_1276 zn_X12_cupsCome ⟨rfl, rfl, Nat.le_of_ble_eq_true rfl, Nat.le_of_ble_eq_true rfl⟩ (Nat.le_of_ble_eq_true rfl) rfl (fun v154 m155 h156 ho157 => ?_)
                                exact z_zret dX12_comes_209 rfl rfl h156
set_option maxRecDepth 20000 in
theorem ct_X12_carry {ad sc sv : Nat → Nat} (n : Nat) (a0 : Int) (m : ZMem) (ha0 : R32 a0) : zCT LM ad sc sv M_X12_carry yX12_carry [.ref (ad 0), .int (mI a0)] m (F_X12_carry n a0 m) := by
  refine zCT_of (lv := [(0, .ref (ad 0)), (1, .int (mI a0))]) (by decide) rfl (Nat.le_of_ble_eq_true rfl) rfl ?_
  unfold F_X12_carry
  refine z_aload_n dX12_carry_0 0 rfl ?_
  refine z_getI dX12_carry_1 (k := 30) zc_X12 lm_0 rfl (by decide) k_1068 (fun h1 => ?_)
  refine z_if_eq dX12_carry_4 h1 (tgt := 17) rfl (fun h2 => ?_) (fun h2 => ?_)
  · refine z_aload_n dX12_carry_17 0 rfl ?_
    refine z_dup dX12_carry_18 rfl ?_
    refine z_getI dX12_carry_19 (k := 29) zc_X12 lm_0 rfl (by decide) k_1067 (fun h3 => ?_)
    refine z_iconst dX12_carry_22 ?_
    refine z_iadd dX12_carry_23 (fun h4 => ?_)
    refine z_putI dX12_carry_24 (k := 29) zc_X12 lm_0 rfl (by decide) rfl rfl h4 k_1067 ?_
    refine z_aload_n dX12_carry_27 0 rfl ?_
    refine z_getM dX12_carry_28 (k := 31) zc_X12 lm_0 rfl (by decide) k_1069 ?_
    refine z_aload_n dX12_carry_31 0 rfl ?_
    refine z_getI dX12_carry_32 (k := 29) zc_X12 lm_0 rfl (by decide) k_1067 (fun h5 => ?_)
    refine z_iconst dX12_carry_35 ?_
    refine z_isub dX12_carry_36 (fun h6 => ?_)
    refine z_iaload dX12_carry_37 h6 (fun h7 => ?_)
    exact z_iret dX12_carry_38 rfl rfl h7
  · refine z_aload_n dX12_carry_7 0 rfl ?_
    refine z_getM dX12_carry_8 (k := 31) zc_X12 lm_0 rfl (by decide) k_1069 ?_
    refine z_aload_n dX12_carry_11 0 rfl ?_
    refine z_getI dX12_carry_12 (k := 29) zc_X12 lm_0 rfl (by decide) k_1067 (fun h8 => ?_)
    refine z_iload_n dX12_carry_15 1 rfl ?_
    refine z_iastore dX12_carry_16 h8 ha0 ?_
    refine z_aload_n dX12_carry_17 0 rfl ?_
    refine z_dup dX12_carry_18 rfl ?_
    refine z_getI dX12_carry_19 (k := 29) zc_X12 lm_0 rfl (by decide) k_1067 (fun h9 => ?_)
    refine z_iconst dX12_carry_22 ?_
    refine z_iadd dX12_carry_23 (fun h10 => ?_)
    refine z_putI dX12_carry_24 (k := 29) zc_X12 lm_0 rfl (by decide) rfl rfl h10 k_1067 ?_
    refine z_aload_n dX12_carry_27 0 rfl ?_
    refine z_getM dX12_carry_28 (k := 31) zc_X12 lm_0 rfl (by decide) k_1069 ?_
    refine z_aload_n dX12_carry_31 0 rfl ?_
    refine z_getI dX12_carry_32 (k := 29) zc_X12 lm_0 rfl (by decide) k_1067 (fun h11 => ?_)
    refine z_iconst dX12_carry_35 ?_
    refine z_isub dX12_carry_36 (fun h12 => ?_)
    refine z_iaload dX12_carry_37 h12 (fun h13 => ?_)
    exact z_iret dX12_carry_38 rfl rfl h13
set_option maxRecDepth 20000 in
theorem T_X12_carryAll_385 {ad sc sv : Nat → Nat} (n : Nat) (u : Nat) (hu : 0 < u ∧ u < 1000) (r385 : Int → ZMem → ZR) (hr385 : ∀ (x3 : Int) (m : ZMem), R32 x3 → zG LM ad sc sv M_X12_carryAll 385 [(0, .ref (ad 0)), (3, .int (mI x3))] [] m (r385 x3 m)) : ∀ (x3 : Int) (m : ZMem), R32 x3 → zG LM ad sc sv M_X12_carryAll 385 [(0, .ref (ad 0)), (3, .int (mI x3))] [] m (B_X12_carryAll_385 n u r385 x3 m) := by
  intro x3 m hx3
  unfold B_X12_carryAll_385
  refine z_iload_n dX12_carryAll_385 1 rfl ?_
  refine z_iconst dX12_carryAll_386 ?_
  refine z_icmp_ge dX12_carryAll_387 hx3 (by decide) (tgt := 412) rfl (fun h117 => ?_) (fun h117 => ?_)
  · exact z_vret dX12_carryAll_412 rfl rfl
  · refine z_aload_n dX12_carryAll_390 0 rfl ?_
    refine z_getR dX12_carryAll_391 (k := 15) (j := 9) zc_X12 lm_0 rfl (by decide) k_1053 ?_
    refine z_iload_n dX12_carryAll_394 1 rfl ?_
    refine z_aload_n dX12_carryAll_395 0 rfl ?_
    refine z_aload_n dX12_carryAll_396 0 rfl ?_
    refine z_getR dX12_carryAll_397 (k := 15) (j := 9) zc_X12 lm_0 rfl (by decide) k_1053 ?_
    refine z_iload_n dX12_carryAll_400 1 rfl ?_
    refine z_iaload dX12_carryAll_401 hx3 (fun h118 => ?_)
    refine z_callV1 dX12_carryAll_402 rfl (ct_X12_carry n (m 9 (x3 : Int).toNat) m h118) zc_X12 lm_0 k_1243 k_1245 kp_47 k_10 k_1246 zn_X12_carry ⟨rfl, rfl, Nat.le_of_ble_eq_true rfl, Nat.le_of_ble_eq_true rfl⟩ (Nat.le_of_ble_eq_true rfl) rfl (fun v119 m120 h121 ho122 => ?_)
    refine z_iastore dX12_carryAll_405 hx3 h121 ?_
    refine z_iinc dX12_carryAll_406 (lv' := [(3, .int (mI (x3 + 1))), (0, .ref (ad 0))]) 1 rfl (by decide) rfl (fun h123 => ?_)
    refine z_goto dX12_carryAll_409 (tgt := 385) rfl ?_
    exact zG_lvk (hr385 (x3 + 1) (wr m120 9 (x3 : Int).toNat v119) h123) [1, 0] rfl
theorem TL_X12_carryAll_385 {ad sc sv : Nat → Nat} (n : Nat) (u : Nat) (hu : 0 < u ∧ u < 1000) : ∀ q : Nat, ∀ (x3 : Int) (m : ZMem), R32 x3 → zG LM ad sc sv M_X12_carryAll 385 [(0, .ref (ad 0)), (3, .int (mI x3))] [] m (L_X12_carryAll_385 n u q x3 m) := by
  intro q
  induction q with
  | zero => intros; exact zG_none
  | succ q ih => exact T_X12_carryAll_385 n u hu (L_X12_carryAll_385 n u q) ih
set_option maxRecDepth 20000 in
theorem T_X12_carryAll_355 {ad sc sv : Nat → Nat} (n : Nat) (u : Nat) (hu : 0 < u ∧ u < 1000) (r355 : Int → ZMem → ZR) (hr355 : ∀ (x3 : Int) (m : ZMem), R32 x3 → zG LM ad sc sv M_X12_carryAll 355 [(0, .ref (ad 0)), (3, .int (mI x3))] [] m (r355 x3 m)) : ∀ (x3 : Int) (m : ZMem), R32 x3 → zG LM ad sc sv M_X12_carryAll 355 [(0, .ref (ad 0)), (3, .int (mI x3))] [] m (B_X12_carryAll_355 n u r355 x3 m) := by
  intro x3 m hx3
  unfold B_X12_carryAll_355
  refine z_iload_n dX12_carryAll_355 1 rfl ?_
  refine z_bipush dX12_carryAll_356 (x := 30) (by decide +kernel) ?_
  refine z_icmp_ge dX12_carryAll_358 hx3 (by decide) (tgt := 383) rfl (fun h110 => ?_) (fun h110 => ?_)
  · refine z_iconst dX12_carryAll_383 ?_
    refine z_istore_n dX12_carryAll_384 (lv' := [(3, .int (mI 0)), (0, .ref (ad 0))]) (by decide) rfl ?_
    exact zG_lvk (TL_X12_carryAll_385 n u hu n 0 m (by decide)) [1, 0] rfl
  · refine z_aload_n dX12_carryAll_361 0 rfl ?_
    refine z_getR dX12_carryAll_362 (k := 14) (j := 8) zc_X12 lm_0 rfl (by decide) k_1052 ?_
    refine z_iload_n dX12_carryAll_365 1 rfl ?_
    refine z_aload_n dX12_carryAll_366 0 rfl ?_
    refine z_aload_n dX12_carryAll_367 0 rfl ?_
    refine z_getR dX12_carryAll_368 (k := 14) (j := 8) zc_X12 lm_0 rfl (by decide) k_1052 ?_
    refine z_iload_n dX12_carryAll_371 1 rfl ?_
    refine z_iaload dX12_carryAll_372 hx3 (fun h111 => ?_)
    refine z_callV1 dX12_carryAll_373 rfl (ct_X12_carry n (m 8 (x3 : Int).toNat) m h111) zc_X12 lm_0 k_1243 k_1245 kp_47 k_10 k_1246 zn_X12_carry ⟨rfl, rfl, Nat.le_of_ble_eq_true rfl, Nat.le_of_ble_eq_true rfl⟩ (Nat.le_of_ble_eq_true rfl) rfl (fun v112 m113 h114 ho115 => ?_)
    refine z_iastore dX12_carryAll_376 hx3 h114 ?_
    refine z_iinc dX12_carryAll_377 (lv' := [(3, .int (mI (x3 + 1))), (0, .ref (ad 0))]) 1 rfl (by decide) rfl (fun h116 => ?_)
    refine z_goto dX12_carryAll_380 (tgt := 355) rfl ?_
    exact zG_lvk (hr355 (x3 + 1) (wr m113 8 (x3 : Int).toNat v112) h116) [1, 0] rfl
theorem TL_X12_carryAll_355 {ad sc sv : Nat → Nat} (n : Nat) (u : Nat) (hu : 0 < u ∧ u < 1000) : ∀ q : Nat, ∀ (x3 : Int) (m : ZMem), R32 x3 → zG LM ad sc sv M_X12_carryAll 355 [(0, .ref (ad 0)), (3, .int (mI x3))] [] m (L_X12_carryAll_355 n u q x3 m) := by
  intro q
  induction q with
  | zero => intros; exact zG_none
  | succ q ih => exact T_X12_carryAll_355 n u hu (L_X12_carryAll_355 n u q) ih
set_option maxRecDepth 20000 in
theorem T_X12_carryAll_310 {ad sc sv : Nat → Nat} (n : Nat) (u : Nat) (hu : 0 < u ∧ u < 1000) (r310 : Int → ZMem → ZR) (hr310 : ∀ (x3 : Int) (m : ZMem), R32 x3 → zG LM ad sc sv M_X12_carryAll 310 [(0, .ref (ad 0)), (3, .int (mI x3))] [] m (r310 x3 m)) : ∀ (x3 : Int) (m : ZMem), R32 x3 → zG LM ad sc sv M_X12_carryAll 310 [(0, .ref (ad 0)), (3, .int (mI x3))] [] m (B_X12_carryAll_310 n u r310 x3 m) := by
  intro x3 m hx3
  unfold B_X12_carryAll_310
  refine z_iload_n dX12_carryAll_310 1 rfl ?_
  refine z_iconst dX12_carryAll_311 ?_
  refine z_icmp_ge dX12_carryAll_312 hx3 (by decide) (tgt := 353) rfl (fun h98 => ?_) (fun h98 => ?_)
  · refine z_iconst dX12_carryAll_353 ?_
    refine z_istore_n dX12_carryAll_354 (lv' := [(3, .int (mI 0)), (0, .ref (ad 0))]) (by decide) rfl ?_
    exact zG_lvk (TL_X12_carryAll_355 n u hu n 0 m (by decide)) [1, 0] rfl
  · refine z_aload_n dX12_carryAll_315 0 rfl ?_
    refine z_getR dX12_carryAll_316 (k := 12) (j := 6) zc_X12 lm_0 rfl (by decide) k_1050 ?_
    refine z_iload_n dX12_carryAll_319 1 rfl ?_
    refine z_aload_n dX12_carryAll_320 0 rfl ?_
    refine z_aload_n dX12_carryAll_321 0 rfl ?_
    refine z_getR dX12_carryAll_322 (k := 12) (j := 6) zc_X12 lm_0 rfl (by decide) k_1050 ?_
    refine z_iload_n dX12_carryAll_325 1 rfl ?_
    refine z_iaload dX12_carryAll_326 hx3 (fun h99 => ?_)
    refine z_callV1 dX12_carryAll_327 rfl (ct_X12_carry n (m 6 (x3 : Int).toNat) m h99) zc_X12 lm_0 k_1243 k_1245 kp_47 k_10 k_1246 zn_X12_carry ⟨rfl, rfl, Nat.le_of_ble_eq_true rfl, Nat.le_of_ble_eq_true rfl⟩ (Nat.le_of_ble_eq_true rfl) rfl (fun v100 m101 h102 ho103 => ?_)
    refine z_iastore dX12_carryAll_330 hx3 h102 ?_
    refine z_aload_n dX12_carryAll_331 0 rfl ?_
    refine z_getR dX12_carryAll_332 (k := 13) (j := 7) zc_X12 lm_0 rfl (by decide) k_1051 ?_
    refine z_iload_n dX12_carryAll_335 1 rfl ?_
    refine z_aload_n dX12_carryAll_336 0 rfl ?_
    refine z_aload_n dX12_carryAll_337 0 rfl ?_
    refine z_getR dX12_carryAll_338 (k := 13) (j := 7) zc_X12 lm_0 rfl (by decide) k_1051 ?_
    refine z_iload_n dX12_carryAll_341 1 rfl ?_
    refine z_iaload dX12_carryAll_342 hx3 (fun h104 => ?_)
    refine z_callV1 dX12_carryAll_343 rfl (ct_X12_carry n ((wr m101 6 (x3 : Int).toNat v100) 7 (x3 : Int).toNat) (wr m101 6 (x3 : Int).toNat v100) h104) zc_X12 lm_0 k_1243 k_1245 kp_47 k_10 k_1246 zn_X12_carry ⟨rfl, rfl, Nat.le_of_ble_eq_true rfl, Nat.le_of_ble_eq_true rfl⟩ (Nat.le_of_ble_eq_true rfl) rfl (fun v105 m106 h107 ho108 => ?_)
    refine z_iastore dX12_carryAll_346 hx3 h107 ?_
    refine z_iinc dX12_carryAll_347 (lv' := [(3, .int (mI (x3 + 1))), (0, .ref (ad 0))]) 1 rfl (by decide) rfl (fun h109 => ?_)
    refine z_goto dX12_carryAll_350 (tgt := 310) rfl ?_
    exact zG_lvk (hr310 (x3 + 1) (wr m106 7 (x3 : Int).toNat v105) h109) [1, 0] rfl
theorem TL_X12_carryAll_310 {ad sc sv : Nat → Nat} (n : Nat) (u : Nat) (hu : 0 < u ∧ u < 1000) : ∀ q : Nat, ∀ (x3 : Int) (m : ZMem), R32 x3 → zG LM ad sc sv M_X12_carryAll 310 [(0, .ref (ad 0)), (3, .int (mI x3))] [] m (L_X12_carryAll_310 n u q x3 m) := by
  intro q
  induction q with
  | zero => intros; exact zG_none
  | succ q ih => exact T_X12_carryAll_310 n u hu (L_X12_carryAll_310 n u q) ih
set_option maxRecDepth 20000 in
theorem T_X12_carryAll_280 {ad sc sv : Nat → Nat} (n : Nat) (u : Nat) (hu : 0 < u ∧ u < 1000) (r280 : Int → ZMem → ZR) (hr280 : ∀ (x3 : Int) (m : ZMem), R32 x3 → zG LM ad sc sv M_X12_carryAll 280 [(0, .ref (ad 0)), (3, .int (mI x3))] [] m (r280 x3 m)) : ∀ (x3 : Int) (m : ZMem), R32 x3 → zG LM ad sc sv M_X12_carryAll 280 [(0, .ref (ad 0)), (3, .int (mI x3))] [] m (B_X12_carryAll_280 n u r280 x3 m) := by
  intro x3 m hx3
  unfold B_X12_carryAll_280
  refine z_iload_n dX12_carryAll_280 1 rfl ?_
  refine z_bipush dX12_carryAll_281 (x := 20) (by decide +kernel) ?_
  refine z_icmp_ge dX12_carryAll_283 hx3 (by decide) (tgt := 308) rfl (fun h91 => ?_) (fun h91 => ?_)
  · refine z_iconst dX12_carryAll_308 ?_
    refine z_istore_n dX12_carryAll_309 (lv' := [(3, .int (mI 0)), (0, .ref (ad 0))]) (by decide) rfl ?_
    exact zG_lvk (TL_X12_carryAll_310 n u hu n 0 m (by decide)) [1, 0] rfl
  · refine z_aload_n dX12_carryAll_286 0 rfl ?_
    refine z_getR dX12_carryAll_287 (k := 46) (j := 28) zc_X12 lm_0 rfl (by decide) k_1084 ?_
    refine z_iload_n dX12_carryAll_290 1 rfl ?_
    refine z_aload_n dX12_carryAll_291 0 rfl ?_
    refine z_aload_n dX12_carryAll_292 0 rfl ?_
    refine z_getR dX12_carryAll_293 (k := 46) (j := 28) zc_X12 lm_0 rfl (by decide) k_1084 ?_
    refine z_iload_n dX12_carryAll_296 1 rfl ?_
    refine z_iaload dX12_carryAll_297 hx3 (fun h92 => ?_)
    refine z_callV1 dX12_carryAll_298 rfl (ct_X12_carry n (m 28 (x3 : Int).toNat) m h92) zc_X12 lm_0 k_1243 k_1245 kp_47 k_10 k_1246 zn_X12_carry ⟨rfl, rfl, Nat.le_of_ble_eq_true rfl, Nat.le_of_ble_eq_true rfl⟩ (Nat.le_of_ble_eq_true rfl) rfl (fun v93 m94 h95 ho96 => ?_)
    refine z_iastore dX12_carryAll_301 hx3 h95 ?_
    refine z_iinc dX12_carryAll_302 (lv' := [(3, .int (mI (x3 + 1))), (0, .ref (ad 0))]) 1 rfl (by decide) rfl (fun h97 => ?_)
    refine z_goto dX12_carryAll_305 (tgt := 280) rfl ?_
    exact zG_lvk (hr280 (x3 + 1) (wr m94 28 (x3 : Int).toNat v93) h97) [1, 0] rfl
theorem TL_X12_carryAll_280 {ad sc sv : Nat → Nat} (n : Nat) (u : Nat) (hu : 0 < u ∧ u < 1000) : ∀ q : Nat, ∀ (x3 : Int) (m : ZMem), R32 x3 → zG LM ad sc sv M_X12_carryAll 280 [(0, .ref (ad 0)), (3, .int (mI x3))] [] m (L_X12_carryAll_280 n u q x3 m) := by
  intro q
  induction q with
  | zero => intros; exact zG_none
  | succ q ih => exact T_X12_carryAll_280 n u hu (L_X12_carryAll_280 n u q) ih
set_option maxRecDepth 20000 in
theorem T_X12_carryAll_251 {ad sc sv : Nat → Nat} (n : Nat) (u : Nat) (hu : 0 < u ∧ u < 1000) (r251 : Int → ZMem → ZR) (hr251 : ∀ (x3 : Int) (m : ZMem), R32 x3 → zG LM ad sc sv M_X12_carryAll 251 [(0, .ref (ad 0)), (3, .int (mI x3))] [] m (r251 x3 m)) : ∀ (x3 : Int) (m : ZMem), R32 x3 → zG LM ad sc sv M_X12_carryAll 251 [(0, .ref (ad 0)), (3, .int (mI x3))] [] m (B_X12_carryAll_251 n u r251 x3 m) := by
  intro x3 m hx3
  unfold B_X12_carryAll_251
  refine z_iload_n dX12_carryAll_251 1 rfl ?_
  refine z_iconst dX12_carryAll_252 ?_
  refine z_icmp_ge dX12_carryAll_253 hx3 (by decide) (tgt := 278) rfl (fun h84 => ?_) (fun h84 => ?_)
  · refine z_iconst dX12_carryAll_278 ?_
    refine z_istore_n dX12_carryAll_279 (lv' := [(3, .int (mI 0)), (0, .ref (ad 0))]) (by decide) rfl ?_
    exact zG_lvk (TL_X12_carryAll_280 n u hu n 0 m (by decide)) [1, 0] rfl
  · refine z_aload_n dX12_carryAll_256 0 rfl ?_
    refine z_getR dX12_carryAll_257 (k := 40) (j := 23) zc_X12 lm_0 rfl (by decide) k_1078 ?_
    refine z_iload_n dX12_carryAll_260 1 rfl ?_
    refine z_aload_n dX12_carryAll_261 0 rfl ?_
    refine z_aload_n dX12_carryAll_262 0 rfl ?_
    refine z_getR dX12_carryAll_263 (k := 40) (j := 23) zc_X12 lm_0 rfl (by decide) k_1078 ?_
    refine z_iload_n dX12_carryAll_266 1 rfl ?_
    refine z_iaload dX12_carryAll_267 hx3 (fun h85 => ?_)
    refine z_callV1 dX12_carryAll_268 rfl (ct_X12_carry n (m 23 (x3 : Int).toNat) m h85) zc_X12 lm_0 k_1243 k_1245 kp_47 k_10 k_1246 zn_X12_carry ⟨rfl, rfl, Nat.le_of_ble_eq_true rfl, Nat.le_of_ble_eq_true rfl⟩ (Nat.le_of_ble_eq_true rfl) rfl (fun v86 m87 h88 ho89 => ?_)
    refine z_iastore dX12_carryAll_271 hx3 h88 ?_
    refine z_iinc dX12_carryAll_272 (lv' := [(3, .int (mI (x3 + 1))), (0, .ref (ad 0))]) 1 rfl (by decide) rfl (fun h90 => ?_)
    refine z_goto dX12_carryAll_275 (tgt := 251) rfl ?_
    exact zG_lvk (hr251 (x3 + 1) (wr m87 23 (x3 : Int).toNat v86) h90) [1, 0] rfl
theorem TL_X12_carryAll_251 {ad sc sv : Nat → Nat} (n : Nat) (u : Nat) (hu : 0 < u ∧ u < 1000) : ∀ q : Nat, ∀ (x3 : Int) (m : ZMem), R32 x3 → zG LM ad sc sv M_X12_carryAll 251 [(0, .ref (ad 0)), (3, .int (mI x3))] [] m (L_X12_carryAll_251 n u q x3 m) := by
  intro q
  induction q with
  | zero => intros; exact zG_none
  | succ q ih => exact T_X12_carryAll_251 n u hu (L_X12_carryAll_251 n u q) ih
set_option maxRecDepth 20000 in
theorem T_X12_carryAll_101 {ad sc sv : Nat → Nat} (n : Nat) (u : Nat) (hu : 0 < u ∧ u < 1000) (r101 : Int → ZMem → ZR) (hr101 : ∀ (x3 : Int) (m : ZMem), R32 x3 → zG LM ad sc sv M_X12_carryAll 101 [(0, .ref (ad 0)), (3, .int (mI x3))] [] m (r101 x3 m)) : ∀ (x3 : Int) (m : ZMem), R32 x3 → zG LM ad sc sv M_X12_carryAll 101 [(0, .ref (ad 0)), (3, .int (mI x3))] [] m (B_X12_carryAll_101 n u r101 x3 m) := by
  intro x3 m hx3
  unfold B_X12_carryAll_101
  refine z_iload_n dX12_carryAll_101 1 rfl ?_
  refine z_bipush dX12_carryAll_102 (x := 8) (by decide +kernel) ?_
  refine z_icmp_ge dX12_carryAll_104 hx3 (by decide) (tgt := 225) rfl (fun h37 => ?_) (fun h37 => ?_)
  · refine z_aload_n dX12_carryAll_225 0 rfl ?_
    refine z_aload_n dX12_carryAll_226 0 rfl ?_
    refine z_aload_n dX12_carryAll_227 0 rfl ?_
    refine z_getI dX12_carryAll_228 (k := 41) zc_X12 lm_0 rfl (by decide) k_1079 (fun h38 => ?_)
    refine z_callV1 dX12_carryAll_231 rfl (ct_X12_carry n (m 0 41) m h38) zc_X12 lm_0 k_1243 k_1245 kp_47 k_10 k_1246 zn_X12_carry ⟨rfl, rfl, Nat.le_of_ble_eq_true rfl, Nat.le_of_ble_eq_true rfl⟩ (Nat.le_of_ble_eq_true rfl) rfl (fun v39 m40 h41 ho42 => ?_)
    refine z_putI dX12_carryAll_234 (k := 41) zc_X12 lm_0 rfl (by decide) rfl rfl h41 k_1079 ?_
    refine z_aload_n dX12_carryAll_237 0 rfl ?_
    refine z_aload_n dX12_carryAll_238 0 rfl ?_
    refine z_aload_n dX12_carryAll_239 0 rfl ?_
    refine z_getI dX12_carryAll_240 (k := 47) zc_X12 lm_0 rfl (by decide) k_1085 (fun h43 => ?_)
    refine z_callV1 dX12_carryAll_243 rfl (ct_X12_carry n ((wr m40 0 41 v39) 0 47) (wr m40 0 41 v39) h43) zc_X12 lm_0 k_1243 k_1245 kp_47 k_10 k_1246 zn_X12_carry ⟨rfl, rfl, Nat.le_of_ble_eq_true rfl, Nat.le_of_ble_eq_true rfl⟩ (Nat.le_of_ble_eq_true rfl) rfl (fun v44 m45 h46 ho47 => ?_)
    refine z_putI dX12_carryAll_246 (k := 47) zc_X12 lm_0 rfl (by decide) rfl rfl h46 k_1085 ?_
    refine z_iconst dX12_carryAll_249 ?_
    refine z_istore_n dX12_carryAll_250 (lv' := [(3, .int (mI 0)), (0, .ref (ad 0))]) (by decide) rfl ?_
    exact zG_lvk (TL_X12_carryAll_251 n u hu n 0 (wr m45 0 47 v44) (by decide)) [1, 0] rfl
  · refine z_aload_n dX12_carryAll_107 0 rfl ?_
    refine z_getR dX12_carryAll_108 (k := 7) (j := 1) zc_X12 lm_0 rfl (by decide) k_1045 ?_
    refine z_iload_n dX12_carryAll_111 1 rfl ?_
    refine z_aload_n dX12_carryAll_112 0 rfl ?_
    refine z_aload_n dX12_carryAll_113 0 rfl ?_
    refine z_getR dX12_carryAll_114 (k := 7) (j := 1) zc_X12 lm_0 rfl (by decide) k_1045 ?_
    refine z_iload_n dX12_carryAll_117 1 rfl ?_
    refine z_iaload dX12_carryAll_118 hx3 (fun h48 => ?_)
    refine z_callV1 dX12_carryAll_119 rfl (ct_X12_carry n (m 1 (x3 : Int).toNat) m h48) zc_X12 lm_0 k_1243 k_1245 kp_47 k_10 k_1246 zn_X12_carry ⟨rfl, rfl, Nat.le_of_ble_eq_true rfl, Nat.le_of_ble_eq_true rfl⟩ (Nat.le_of_ble_eq_true rfl) rfl (fun v49 m50 h51 ho52 => ?_)
    refine z_iastore dX12_carryAll_122 hx3 h51 ?_
    refine z_aload_n dX12_carryAll_123 0 rfl ?_
    refine z_getR dX12_carryAll_124 (k := 8) (j := 2) zc_X12 lm_0 rfl (by decide) k_1046 ?_
    refine z_iload_n dX12_carryAll_127 1 rfl ?_
    refine z_aload_n dX12_carryAll_128 0 rfl ?_
    refine z_aload_n dX12_carryAll_129 0 rfl ?_
    refine z_getR dX12_carryAll_130 (k := 8) (j := 2) zc_X12 lm_0 rfl (by decide) k_1046 ?_
    refine z_iload_n dX12_carryAll_133 1 rfl ?_
    refine z_iaload dX12_carryAll_134 hx3 (fun h53 => ?_)
    refine z_callV1 dX12_carryAll_135 rfl (ct_X12_carry n ((wr m50 1 (x3 : Int).toNat v49) 2 (x3 : Int).toNat) (wr m50 1 (x3 : Int).toNat v49) h53) zc_X12 lm_0 k_1243 k_1245 kp_47 k_10 k_1246 zn_X12_carry ⟨rfl, rfl, Nat.le_of_ble_eq_true rfl, Nat.le_of_ble_eq_true rfl⟩ (Nat.le_of_ble_eq_true rfl) rfl (fun v54 m55 h56 ho57 => ?_)
    refine z_iastore dX12_carryAll_138 hx3 h56 ?_
    refine z_aload_n dX12_carryAll_139 0 rfl ?_
    refine z_getR dX12_carryAll_140 (k := 9) (j := 3) zc_X12 lm_0 rfl (by decide) k_1047 ?_
    refine z_iload_n dX12_carryAll_143 1 rfl ?_
    refine z_aload_n dX12_carryAll_144 0 rfl ?_
    refine z_aload_n dX12_carryAll_145 0 rfl ?_
    refine z_getR dX12_carryAll_146 (k := 9) (j := 3) zc_X12 lm_0 rfl (by decide) k_1047 ?_
    refine z_iload_n dX12_carryAll_149 1 rfl ?_
    refine z_iaload dX12_carryAll_150 hx3 (fun h58 => ?_)
    refine z_callV1 dX12_carryAll_151 rfl (ct_X12_carry n ((wr m55 2 (x3 : Int).toNat v54) 3 (x3 : Int).toNat) (wr m55 2 (x3 : Int).toNat v54) h58) zc_X12 lm_0 k_1243 k_1245 kp_47 k_10 k_1246 zn_X12_carry ⟨rfl, rfl, Nat.le_of_ble_eq_true rfl, Nat.le_of_ble_eq_true rfl⟩ (Nat.le_of_ble_eq_true rfl) rfl (fun v59 m60 h61 ho62 => ?_)
    refine z_iastore dX12_carryAll_154 hx3 h61 ?_
    refine z_aload_n dX12_carryAll_155 0 rfl ?_
    refine z_getR dX12_carryAll_156 (k := 10) (j := 4) zc_X12 lm_0 rfl (by decide) k_1048 ?_
    refine z_iload_n dX12_carryAll_159 1 rfl ?_
    refine z_aload_n dX12_carryAll_160 0 rfl ?_
    refine z_aload_n dX12_carryAll_161 0 rfl ?_
    refine z_getR dX12_carryAll_162 (k := 10) (j := 4) zc_X12 lm_0 rfl (by decide) k_1048 ?_
    refine z_iload_n dX12_carryAll_165 1 rfl ?_
    refine z_iaload dX12_carryAll_166 hx3 (fun h63 => ?_)
    refine z_callV1 dX12_carryAll_167 rfl (ct_X12_carry n ((wr m60 3 (x3 : Int).toNat v59) 4 (x3 : Int).toNat) (wr m60 3 (x3 : Int).toNat v59) h63) zc_X12 lm_0 k_1243 k_1245 kp_47 k_10 k_1246 zn_X12_carry ⟨rfl, rfl, Nat.le_of_ble_eq_true rfl, Nat.le_of_ble_eq_true rfl⟩ (Nat.le_of_ble_eq_true rfl) rfl (fun v64 m65 h66 ho67 => ?_)
    refine z_iastore dX12_carryAll_170 hx3 h66 ?_
    refine z_aload_n dX12_carryAll_171 0 rfl ?_
    refine z_getR dX12_carryAll_172 (k := 11) (j := 5) zc_X12 lm_0 rfl (by decide) k_1049 ?_
    refine z_iload_n dX12_carryAll_175 1 rfl ?_
    refine z_aload_n dX12_carryAll_176 0 rfl ?_
    refine z_aload_n dX12_carryAll_177 0 rfl ?_
    refine z_getR dX12_carryAll_178 (k := 11) (j := 5) zc_X12 lm_0 rfl (by decide) k_1049 ?_
    refine z_iload_n dX12_carryAll_181 1 rfl ?_
    refine z_iaload dX12_carryAll_182 hx3 (fun h68 => ?_)
    refine z_callV1 dX12_carryAll_183 rfl (ct_X12_carry n ((wr m65 4 (x3 : Int).toNat v64) 5 (x3 : Int).toNat) (wr m65 4 (x3 : Int).toNat v64) h68) zc_X12 lm_0 k_1243 k_1245 kp_47 k_10 k_1246 zn_X12_carry ⟨rfl, rfl, Nat.le_of_ble_eq_true rfl, Nat.le_of_ble_eq_true rfl⟩ (Nat.le_of_ble_eq_true rfl) rfl (fun v69 m70 h71 ho72 => ?_)
    refine z_iastore dX12_carryAll_186 hx3 h71 ?_
    refine z_aload_n dX12_carryAll_187 0 rfl ?_
    refine z_getR dX12_carryAll_188 (k := 38) (j := 21) zc_X12 lm_0 rfl (by decide) k_1076 ?_
    refine z_iload_n dX12_carryAll_191 1 rfl ?_
    refine z_aload_n dX12_carryAll_192 0 rfl ?_
    refine z_aload_n dX12_carryAll_193 0 rfl ?_
    refine z_getR dX12_carryAll_194 (k := 38) (j := 21) zc_X12 lm_0 rfl (by decide) k_1076 ?_
    refine z_iload_n dX12_carryAll_197 1 rfl ?_
    refine z_iaload dX12_carryAll_198 hx3 (fun h73 => ?_)
    refine z_callV1 dX12_carryAll_199 rfl (ct_X12_carry n ((wr m70 5 (x3 : Int).toNat v69) 21 (x3 : Int).toNat) (wr m70 5 (x3 : Int).toNat v69) h73) zc_X12 lm_0 k_1243 k_1245 kp_47 k_10 k_1246 zn_X12_carry ⟨rfl, rfl, Nat.le_of_ble_eq_true rfl, Nat.le_of_ble_eq_true rfl⟩ (Nat.le_of_ble_eq_true rfl) rfl (fun v74 m75 h76 ho77 => ?_)
    refine z_iastore dX12_carryAll_202 hx3 h76 ?_
    refine z_aload_n dX12_carryAll_203 0 rfl ?_
    refine z_getR dX12_carryAll_204 (k := 39) (j := 22) zc_X12 lm_0 rfl (by decide) k_1077 ?_
    refine z_iload_n dX12_carryAll_207 1 rfl ?_
    refine z_aload_n dX12_carryAll_208 0 rfl ?_
    refine z_aload_n dX12_carryAll_209 0 rfl ?_
    refine z_getR dX12_carryAll_210 (k := 39) (j := 22) zc_X12 lm_0 rfl (by decide) k_1077 ?_
    refine z_iload_n dX12_carryAll_213 1 rfl ?_
    refine z_iaload dX12_carryAll_214 hx3 (fun h78 => ?_)
    refine z_callV1 dX12_carryAll_215 rfl (ct_X12_carry n ((wr m75 21 (x3 : Int).toNat v74) 22 (x3 : Int).toNat) (wr m75 21 (x3 : Int).toNat v74) h78) zc_X12 lm_0 k_1243 k_1245 kp_47 k_10 k_1246 zn_X12_carry ⟨rfl, rfl, Nat.le_of_ble_eq_true rfl, Nat.le_of_ble_eq_true rfl⟩ (Nat.le_of_ble_eq_true rfl) rfl (fun v79 m80 h81 ho82 => ?_)
    refine z_iastore dX12_carryAll_218 hx3 h81 ?_
    refine z_iinc dX12_carryAll_219 (lv' := [(3, .int (mI (x3 + 1))), (0, .ref (ad 0))]) 1 rfl (by decide) rfl (fun h83 => ?_)
    refine z_goto dX12_carryAll_222 (tgt := 101) rfl ?_
    exact zG_lvk (hr101 (x3 + 1) (wr m80 22 (x3 : Int).toNat v79) h83) [1, 0] rfl
theorem TL_X12_carryAll_101 {ad sc sv : Nat → Nat} (n : Nat) (u : Nat) (hu : 0 < u ∧ u < 1000) : ∀ q : Nat, ∀ (x3 : Int) (m : ZMem), R32 x3 → zG LM ad sc sv M_X12_carryAll 101 [(0, .ref (ad 0)), (3, .int (mI x3))] [] m (L_X12_carryAll_101 n u q x3 m) := by
  intro q
  induction q with
  | zero => intros; exact zG_none
  | succ q ih => exact T_X12_carryAll_101 n u hu (L_X12_carryAll_101 n u q) ih
set_option maxRecDepth 20000 in
theorem ct_X12_carryAll {ad sc sv : Nat → Nat} (n : Nat) (u : Nat) (hu : 0 < u ∧ u < 1000) (a0 : Int) (m : ZMem) (ha0 : R32 a0) : zCT LM ad sc sv M_X12_carryAll yX12_carryAll [.ref (ad 0), .ref (ad u), .int (mI a0)] m (F_X12_carryAll n u a0 m) := by
  refine zCT_of (lv := [(0, .ref (ad 0)), (1, .ref (ad u)), (2, .int (mI a0))]) (by decide) rfl (Nat.le_of_ble_eq_true rfl) rfl ?_
  unfold F_X12_carryAll
  refine z_aload_n dX12_carryAll_0 0 rfl ?_
  refine z_aload_n dX12_carryAll_1 1 rfl ?_
  refine z_putM dX12_carryAll_2 (k := 31) zc_X12 lm_0 rfl (by decide) rfl rfl hu k_1069 ?_
  refine z_aload_n dX12_carryAll_5 0 rfl ?_
  refine z_iload_n dX12_carryAll_6 2 rfl ?_
  refine zG_chk (fun h1 => ?_)
  refine z_putZ dX12_carryAll_7 (k := 30) zc_X12 lm_0 rfl (by decide) rfl rfl h1 k_1068 ?_
  refine z_aload_n dX12_carryAll_10 0 rfl ?_
  refine z_iconst dX12_carryAll_11 ?_
  refine z_putI dX12_carryAll_12 (k := 29) zc_X12 lm_0 rfl (by decide) rfl rfl (by decide) k_1067 ?_
  refine z_aload_n dX12_carryAll_15 0 rfl ?_
  refine z_aload_n dX12_carryAll_16 0 rfl ?_
  refine z_aload_n dX12_carryAll_17 0 rfl ?_
  refine z_getI dX12_carryAll_18 (k := 0) zc_X12 lm_0 rfl (by decide) k_1038 (fun h2 => ?_)
  refine z_callV1 dX12_carryAll_21 rfl (ct_X12_carry n ((wr (wr (wr m 0 31 (u : Int)) 0 30 a0) 0 29 0) 0 0) (wr (wr (wr m 0 31 (u : Int)) 0 30 a0) 0 29 0) h2) zc_X12 lm_0 k_1243 k_1245 kp_47 k_10 k_1246 zn_X12_carry ⟨rfl, rfl, Nat.le_of_ble_eq_true rfl, Nat.le_of_ble_eq_true rfl⟩ (Nat.le_of_ble_eq_true rfl) rfl (fun v3 m4 h5 ho6 => ?_)
  refine z_putI dX12_carryAll_24 (k := 0) zc_X12 lm_0 rfl (by decide) rfl rfl h5 k_1038 ?_
  refine z_aload_n dX12_carryAll_27 0 rfl ?_
  refine z_aload_n dX12_carryAll_28 0 rfl ?_
  refine z_aload_n dX12_carryAll_29 0 rfl ?_
  refine z_getI dX12_carryAll_30 (k := 1) zc_X12 lm_0 rfl (by decide) k_1039 (fun h7 => ?_)
  refine z_callV1 dX12_carryAll_33 rfl (ct_X12_carry n ((wr m4 0 0 v3) 0 1) (wr m4 0 0 v3) h7) zc_X12 lm_0 k_1243 k_1245 kp_47 k_10 k_1246 zn_X12_carry ⟨rfl, rfl, Nat.le_of_ble_eq_true rfl, Nat.le_of_ble_eq_true rfl⟩ (Nat.le_of_ble_eq_true rfl) rfl (fun v8 m9 h10 ho11 => ?_)
  refine z_putI dX12_carryAll_36 (k := 1) zc_X12 lm_0 rfl (by decide) rfl rfl h10 k_1039 ?_
  refine z_aload_n dX12_carryAll_39 0 rfl ?_
  refine z_aload_n dX12_carryAll_40 0 rfl ?_
  refine z_aload_n dX12_carryAll_41 0 rfl ?_
  refine z_getI dX12_carryAll_42 (k := 2) zc_X12 lm_0 rfl (by decide) k_1040 (fun h12 => ?_)
  refine z_callV1 dX12_carryAll_45 rfl (ct_X12_carry n ((wr m9 0 1 v8) 0 2) (wr m9 0 1 v8) h12) zc_X12 lm_0 k_1243 k_1245 kp_47 k_10 k_1246 zn_X12_carry ⟨rfl, rfl, Nat.le_of_ble_eq_true rfl, Nat.le_of_ble_eq_true rfl⟩ (Nat.le_of_ble_eq_true rfl) rfl (fun v13 m14 h15 ho16 => ?_)
  refine z_putI dX12_carryAll_48 (k := 2) zc_X12 lm_0 rfl (by decide) rfl rfl h15 k_1040 ?_
  refine z_aload_n dX12_carryAll_51 0 rfl ?_
  refine z_aload_n dX12_carryAll_52 0 rfl ?_
  refine z_aload_n dX12_carryAll_53 0 rfl ?_
  refine z_getI dX12_carryAll_54 (k := 3) zc_X12 lm_0 rfl (by decide) k_1041 (fun h17 => ?_)
  refine z_callV1 dX12_carryAll_57 rfl (ct_X12_carry n ((wr m14 0 2 v13) 0 3) (wr m14 0 2 v13) h17) zc_X12 lm_0 k_1243 k_1245 kp_47 k_10 k_1246 zn_X12_carry ⟨rfl, rfl, Nat.le_of_ble_eq_true rfl, Nat.le_of_ble_eq_true rfl⟩ (Nat.le_of_ble_eq_true rfl) rfl (fun v18 m19 h20 ho21 => ?_)
  refine z_putI dX12_carryAll_60 (k := 3) zc_X12 lm_0 rfl (by decide) rfl rfl h20 k_1041 ?_
  refine z_aload_n dX12_carryAll_63 0 rfl ?_
  refine z_aload_n dX12_carryAll_64 0 rfl ?_
  refine z_aload_n dX12_carryAll_65 0 rfl ?_
  refine z_getI dX12_carryAll_66 (k := 4) zc_X12 lm_0 rfl (by decide) k_1042 (fun h22 => ?_)
  refine z_callV1 dX12_carryAll_69 rfl (ct_X12_carry n ((wr m19 0 3 v18) 0 4) (wr m19 0 3 v18) h22) zc_X12 lm_0 k_1243 k_1245 kp_47 k_10 k_1246 zn_X12_carry ⟨rfl, rfl, Nat.le_of_ble_eq_true rfl, Nat.le_of_ble_eq_true rfl⟩ (Nat.le_of_ble_eq_true rfl) rfl (fun v23 m24 h25 ho26 => ?_)
  refine z_putI dX12_carryAll_72 (k := 4) zc_X12 lm_0 rfl (by decide) rfl rfl h25 k_1042 ?_
  refine z_aload_n dX12_carryAll_75 0 rfl ?_
  refine z_aload_n dX12_carryAll_76 0 rfl ?_
  refine z_aload_n dX12_carryAll_77 0 rfl ?_
  refine z_getI dX12_carryAll_78 (k := 5) zc_X12 lm_0 rfl (by decide) k_1043 (fun h27 => ?_)
  refine z_callV1 dX12_carryAll_81 rfl (ct_X12_carry n ((wr m24 0 4 v23) 0 5) (wr m24 0 4 v23) h27) zc_X12 lm_0 k_1243 k_1245 kp_47 k_10 k_1246 zn_X12_carry ⟨rfl, rfl, Nat.le_of_ble_eq_true rfl, Nat.le_of_ble_eq_true rfl⟩ (Nat.le_of_ble_eq_true rfl) rfl (fun v28 m29 h30 ho31 => ?_)
  refine z_putI dX12_carryAll_84 (k := 5) zc_X12 lm_0 rfl (by decide) rfl rfl h30 k_1043 ?_
  refine z_aload_n dX12_carryAll_87 0 rfl ?_
  refine z_aload_n dX12_carryAll_88 0 rfl ?_
  refine z_aload_n dX12_carryAll_89 0 rfl ?_
  refine z_getI dX12_carryAll_90 (k := 6) zc_X12 lm_0 rfl (by decide) k_1044 (fun h32 => ?_)
  refine z_callV1 dX12_carryAll_93 rfl (ct_X12_carry n ((wr m29 0 5 v28) 0 6) (wr m29 0 5 v28) h32) zc_X12 lm_0 k_1243 k_1245 kp_47 k_10 k_1246 zn_X12_carry ⟨rfl, rfl, Nat.le_of_ble_eq_true rfl, Nat.le_of_ble_eq_true rfl⟩ (Nat.le_of_ble_eq_true rfl) rfl (fun v33 m34 h35 ho36 => ?_)
  refine z_putI dX12_carryAll_96 (k := 6) zc_X12 lm_0 rfl (by decide) rfl rfl h35 k_1044 ?_
  refine z_iconst dX12_carryAll_99 ?_
  refine z_istore_n dX12_carryAll_100 (lv' := [(3, .int (mI 0)), (0, .ref (ad 0)), (1, .ref (ad u)), (2, .int (mI a0))]) (by decide) rfl ?_
  exact zG_lvk (TL_X12_carryAll_101 n u hu n 0 (wr m34 0 6 v33) (by decide)) [1, 0] rfl
set_option maxRecDepth 20000 in
theorem T_X12_book_84 {ad sc sv : Nat → Nat} (n : Nat) (r84 : Int → ZMem → ZR) (hr84 : ∀ (x1 : Int) (m : ZMem), R32 x1 → zG LM ad sc sv M_X12_book 84 [(0, .ref (ad 0)), (1, .int (mI x1))] [] m (r84 x1 m)) : ∀ (x1 : Int) (m : ZMem), R32 x1 → zG LM ad sc sv M_X12_book 84 [(0, .ref (ad 0)), (1, .int (mI x1))] [] m (B_X12_book_84 n r84 x1 m) := by
  intro x1 m hx1
  unfold B_X12_book_84
  refine z_iload_n dX12_book_84 1 rfl ?_
  refine z_aload_n dX12_book_85 0 rfl ?_
  refine z_getI dX12_book_86 (k := 22) zc_X12 lm_0 rfl (by decide) k_1060 (fun h32 => ?_)
  refine z_icmp_ge dX12_book_89 hx1 h32 (tgt := 126) rfl (fun h33 => ?_) (fun h33 => ?_)
  · refine z_aload_n dX12_book_126 0 rfl ?_
    refine z_iconst dX12_book_127 ?_
    refine z_putI dX12_book_128 (k := 33) zc_X12 lm_0 rfl (by decide) rfl rfl (by decide) k_1071 ?_
    refine z_aload_n dX12_book_131 0 rfl ?_
    refine z_getI dX12_book_132 (k := 22) zc_X12 lm_0 rfl (by decide) k_1060 (fun h34 => ?_)
    exact z_iret dX12_book_135 rfl rfl h34
  · refine z_aload_n dX12_book_92 0 rfl ?_
    refine z_iload_n dX12_book_93 1 rfl ?_
    refine z_callV4 dX12_book_94 rfl (ct_X12_comes n x1 m hx1) zc_X12 lm_0 k_1247 k_1249 kp_48 k_10 k_1250 zn_X12_comes ⟨rfl, rfl, Nat.le_of_ble_eq_true rfl, Nat.le_of_ble_eq_true rfl⟩ (Nat.le_of_ble_eq_true rfl) rfl (fun v35 m36 h37 ho38 => ?_)
    refine z_if_ne dX12_book_97 (zb01 h37) (tgt := 120) rfl (fun h39 => ?_) (fun h39 => ?_)
    · refine z_aload_n dX12_book_100 0 rfl ?_
      refine z_aload_n dX12_book_101 0 rfl ?_
      refine z_getR dX12_book_102 (k := 26) (j := 15) zc_X12 lm_0 rfl (by decide) k_1064 ?_
      refine z_iconst dX12_book_105 ?_
      refine z_callV0 dX12_book_106 rfl (ct_X12_carryAll n 15 (by decide) 0 m36 (by decide)) zc_X12 lm_0 k_1239 k_1241 kp_46 k_10 k_1242 zn_X12_carryAll ⟨rfl, rfl, Nat.le_of_ble_eq_true rfl, Nat.le_of_ble_eq_true rfl⟩ (Nat.le_of_ble_eq_true rfl) rfl (fun v40 m41 ho43 => ?_)
      refine z_sipush dX12_book_109 (x := (-2000)) (by decide +kernel) ?_
      refine z_aload_n dX12_book_112 0 rfl ?_
      refine z_getR dX12_book_113 (k := 23) (j := 12) zc_X12 lm_0 rfl (by decide) k_1061 ?_
      refine z_iload_n dX12_book_116 1 rfl ?_
      refine z_iaload dX12_book_117 hx1 (fun h44 => ?_)
      refine z_isub dX12_book_118 (fun h45 => ?_)
      exact z_iret dX12_book_119 rfl rfl h45
    · refine z_iinc dX12_book_120 (lv' := [(1, .int (mI (x1 + 1))), (0, .ref (ad 0))]) 1 rfl (by decide) rfl (fun h46 => ?_)
      refine z_goto dX12_book_123 (tgt := 84) rfl ?_
      exact zG_lvk (hr84 (x1 + 1) m36 h46) [1, 0] rfl
theorem TL_X12_book_84 {ad sc sv : Nat → Nat} (n : Nat) : ∀ q : Nat, ∀ (x1 : Int) (m : ZMem), R32 x1 → zG LM ad sc sv M_X12_book 84 [(0, .ref (ad 0)), (1, .int (mI x1))] [] m (L_X12_book_84 n q x1 m) := by
  intro q
  induction q with
  | zero => intros; exact zG_none
  | succ q ih => exact T_X12_book_84 n (L_X12_book_84 n q) ih
set_option maxRecDepth 20000 in
theorem T_X12_book_20 {ad sc sv : Nat → Nat} (n : Nat) (r20 : ZMem → ZR) (hr20 : ∀  (m : ZMem), zG LM ad sc sv M_X12_book 20 [(0, .ref (ad 0))] [] m (r20  m)) : ∀  (m : ZMem), zG LM ad sc sv M_X12_book 20 [(0, .ref (ad 0))] [] m (B_X12_book_20 n r20 m) := by
  intro m
  unfold B_X12_book_20
  refine z_aload_n dX12_book_20 0 rfl ?_
  refine z_getI dX12_book_21 (k := 21) zc_X12 lm_0 rfl (by decide) k_1059 (fun h1 => ?_)
  refine z_if_ne dX12_book_24 h1 (tgt := 52) rfl (fun h2 => ?_) (fun h2 => ?_)
  · refine z_aload_n dX12_book_27 0 rfl ?_
    refine z_getI dX12_book_28 (k := 22) zc_X12 lm_0 rfl (by decide) k_1060 (fun h3 => ?_)
    refine z_if_eq dX12_book_31 h3 (tgt := 45) rfl (fun h4 => ?_) (fun h4 => ?_)
    · refine z_aload_n dX12_book_45 0 rfl ?_
      refine z_callV0 dX12_book_46 rfl (ct_X12_readStatement n m) zc_X12 lm_0 k_1202 k_1204 kp_38 k_10 k_1205 zn_X12_readStatement ⟨rfl, rfl, Nat.le_of_ble_eq_true rfl, Nat.le_of_ble_eq_true rfl⟩ (Nat.le_of_ble_eq_true rfl) rfl (fun v5 m6 ho8 => ?_)
      refine z_goto dX12_book_49 (tgt := 20) rfl ?_
      exact zG_lvk (hr20 m6) [0] rfl
    · refine z_aload_n dX12_book_34 0 rfl ?_
      refine z_getI dX12_book_35 (k := 20) zc_X12 lm_0 rfl (by decide) k_1058 (fun h9 => ?_)
      refine z_aload_n dX12_book_38 0 rfl ?_
      refine z_getI dX12_book_39 (k := 19) zc_X12 lm_0 rfl (by decide) k_1057 (fun h10 => ?_)
      refine z_icmp_ge dX12_book_42 h9 h10 (tgt := 52) rfl (fun h11 => ?_) (fun h11 => ?_)
      · refine z_aload_n dX12_book_52 0 rfl ?_
        refine z_iconst dX12_book_53 ?_
        refine z_putI dX12_book_54 (k := 19) zc_X12 lm_0 rfl (by decide) rfl rfl (by decide) k_1057 ?_
        refine z_aload_n dX12_book_57 0 rfl ?_
        refine z_getI dX12_book_58 (k := 21) zc_X12 lm_0 rfl (by decide) k_1059 (fun h12 => ?_)
        refine z_if_eq dX12_book_61 h12 (tgt := 73) rfl (fun h13 => ?_) (fun h13 => ?_)
        · refine z_aload_n dX12_book_73 0 rfl ?_
          refine z_aload_n dX12_book_74 0 rfl ?_
          refine z_getR dX12_book_75 (k := 26) (j := 15) zc_X12 lm_0 rfl (by decide) k_1064 ?_
          refine z_iconst dX12_book_78 ?_
          refine z_callV0 dX12_book_79 rfl (ct_X12_carryAll n 15 (by decide) 1 (wr m 0 19 0) (by decide)) zc_X12 lm_0 k_1239 k_1241 kp_46 k_10 k_1242 zn_X12_carryAll ⟨rfl, rfl, Nat.le_of_ble_eq_true rfl, Nat.le_of_ble_eq_true rfl⟩ (Nat.le_of_ble_eq_true rfl) rfl (fun v14 m15 ho17 => ?_)
          refine z_iconst dX12_book_82 ?_
          refine z_istore_n dX12_book_83 (lv' := [(1, .int (mI 0)), (0, .ref (ad 0))]) (by decide) rfl ?_
          exact zG_lvk (TL_X12_book_84 n n 0 m15 (by decide)) [1, 0] rfl
        · refine z_sipush dX12_book_64 (x := (-1000)) (by decide +kernel) ?_
          refine z_aload_n dX12_book_67 0 rfl ?_
          refine z_getI dX12_book_68 (k := 20) zc_X12 lm_0 rfl (by decide) k_1058 (fun h18 => ?_)
          refine z_isub dX12_book_71 (fun h19 => ?_)
          exact z_iret dX12_book_72 rfl rfl h19
      · refine z_aload_n dX12_book_45 0 rfl ?_
        refine z_callV0 dX12_book_46 rfl (ct_X12_readStatement n m) zc_X12 lm_0 k_1202 k_1204 kp_38 k_10 k_1205 zn_X12_readStatement ⟨rfl, rfl, Nat.le_of_ble_eq_true rfl, Nat.le_of_ble_eq_true rfl⟩ (Nat.le_of_ble_eq_true rfl) rfl (fun v20 m21 ho23 => ?_)
        refine z_goto dX12_book_49 (tgt := 20) rfl ?_
        exact zG_lvk (hr20 m21) [0] rfl
  · refine z_aload_n dX12_book_52 0 rfl ?_
    refine z_iconst dX12_book_53 ?_
    refine z_putI dX12_book_54 (k := 19) zc_X12 lm_0 rfl (by decide) rfl rfl (by decide) k_1057 ?_
    refine z_aload_n dX12_book_57 0 rfl ?_
    refine z_getI dX12_book_58 (k := 21) zc_X12 lm_0 rfl (by decide) k_1059 (fun h24 => ?_)
    refine z_if_eq dX12_book_61 h24 (tgt := 73) rfl (fun h25 => ?_) (fun h25 => ?_)
    · refine z_aload_n dX12_book_73 0 rfl ?_
      refine z_aload_n dX12_book_74 0 rfl ?_
      refine z_getR dX12_book_75 (k := 26) (j := 15) zc_X12 lm_0 rfl (by decide) k_1064 ?_
      refine z_iconst dX12_book_78 ?_
      refine z_callV0 dX12_book_79 rfl (ct_X12_carryAll n 15 (by decide) 1 (wr m 0 19 0) (by decide)) zc_X12 lm_0 k_1239 k_1241 kp_46 k_10 k_1242 zn_X12_carryAll ⟨rfl, rfl, Nat.le_of_ble_eq_true rfl, Nat.le_of_ble_eq_true rfl⟩ (Nat.le_of_ble_eq_true rfl) rfl (fun v26 m27 ho29 => ?_)
      refine z_iconst dX12_book_82 ?_
      refine z_istore_n dX12_book_83 (lv' := [(1, .int (mI 0)), (0, .ref (ad 0))]) (by decide) rfl ?_
      exact zG_lvk (TL_X12_book_84 n n 0 m27 (by decide)) [1, 0] rfl
    · refine z_sipush dX12_book_64 (x := (-1000)) (by decide +kernel) ?_
      refine z_aload_n dX12_book_67 0 rfl ?_
      refine z_getI dX12_book_68 (k := 20) zc_X12 lm_0 rfl (by decide) k_1058 (fun h30 => ?_)
      refine z_isub dX12_book_71 (fun h31 => ?_)
      exact z_iret dX12_book_72 rfl rfl h31
theorem TL_X12_book_20 {ad sc sv : Nat → Nat} (n : Nat) : ∀ q : Nat, ∀  (m : ZMem), zG LM ad sc sv M_X12_book 20 [(0, .ref (ad 0))] [] m (L_X12_book_20 n q m) := by
  intro q
  induction q with
  | zero => intros; exact zG_none
  | succ q ih => exact T_X12_book_20 n (L_X12_book_20 n q) ih
set_option maxRecDepth 20000 in
theorem ct_X12_book {ad sc sv : Nat → Nat} (n : Nat) (m : ZMem) : zCT LM ad sc sv M_X12_book yX12_book [.ref (ad 0)] m (F_X12_book n m) := by
  refine zCT_of (lv := [(0, .ref (ad 0))]) (by decide) rfl (Nat.le_of_ble_eq_true rfl) rfl ?_
  unfold F_X12_book
  refine z_aload_n dX12_book_0 0 rfl ?_
  refine z_iconst dX12_book_1 ?_
  refine z_putI dX12_book_2 (k := 16) zc_X12 lm_0 rfl (by decide) rfl rfl (by decide) k_1054 ?_
  refine z_aload_n dX12_book_5 0 rfl ?_
  refine z_iconst dX12_book_6 ?_
  refine z_putI dX12_book_7 (k := 20) zc_X12 lm_0 rfl (by decide) rfl rfl (by decide) k_1058 ?_
  refine z_aload_n dX12_book_10 0 rfl ?_
  refine z_iconst dX12_book_11 ?_
  refine z_putZ dX12_book_12 (k := 21) zc_X12 lm_0 rfl (by decide) rfl rfl (by decide) k_1059 ?_
  refine z_aload_n dX12_book_15 0 rfl ?_
  refine z_iconst dX12_book_16 ?_
  refine z_putI dX12_book_17 (k := 22) zc_X12 lm_0 rfl (by decide) rfl rfl (by decide) k_1060 ?_
  exact zG_lvk (TL_X12_book_20 n n (wr (wr (wr (wr m 0 16 0) 0 20 0) 0 21 0) 0 22 0)) [0] rfl
set_option maxRecDepth 20000 in
theorem ct_X12_image {ad sc sv : Nat → Nat} (n : Nat) (m : ZMem) : zCT LM ad sc sv M_X12_image yX12_image [.ref (ad 0)] m (F_X12_image n m) := by
  refine zCT_of (lv := [(0, .ref (ad 0))]) (by decide) rfl (Nat.le_of_ble_eq_true rfl) rfl ?_
  unfold F_X12_image
  refine z_aload_n dX12_image_0 0 rfl ?_
  refine z_iconst dX12_image_1 ?_
  refine z_putI dX12_image_2 (k := 16) zc_X12 lm_0 rfl (by decide) rfl rfl (by decide) k_1054 ?_
  refine z_aload_n dX12_image_5 0 rfl ?_
  refine z_iconst dX12_image_6 ?_
  refine z_putZ dX12_image_7 (k := 28) zc_X12 lm_0 rfl (by decide) rfl rfl (by decide) k_1066 ?_
  refine z_aload_n dX12_image_10 0 rfl ?_
  refine z_aload_n dX12_image_11 0 rfl ?_
  refine z_getR dX12_image_12 (k := 27) (j := 16) zc_X12 lm_0 rfl (by decide) k_1065 ?_
  refine z_iconst dX12_image_15 ?_
  refine z_callV0 dX12_image_16 rfl (ct_X12_carryAll n 16 (by decide) 1 (wr (wr m 0 16 0) 0 28 1) (by decide)) zc_X12 lm_0 k_1239 k_1241 kp_46 k_10 k_1242 zn_X12_carryAll ⟨rfl, rfl, Nat.le_of_ble_eq_true rfl, Nat.le_of_ble_eq_true rfl⟩ (Nat.le_of_ble_eq_true rfl) rfl (fun v1 m2 ho4 => ?_)
  refine z_aload_n dX12_image_19 0 rfl ?_
  refine z_getI dX12_image_20 (k := 1) zc_X12 lm_0 rfl (by decide) k_1039 (fun h5 => ?_)
  exact z_iret dX12_image_23 rfl rfl h5
set_option maxRecDepth 20000 in
theorem ct_X12_restore {ad sc sv : Nat → Nat} (n : Nat) (m : ZMem) : zCT LM ad sc sv M_X12_restore yX12_restore [.ref (ad 0)] m (F_X12_restore n m) := by
  refine zCT_of (lv := [(0, .ref (ad 0))]) (by decide) rfl (Nat.le_of_ble_eq_true rfl) rfl ?_
  unfold F_X12_restore
  refine z_aload_n dX12_restore_0 0 rfl ?_
  refine z_iconst dX12_restore_1 ?_
  refine z_putI dX12_restore_2 (k := 16) zc_X12 lm_0 rfl (by decide) rfl rfl (by decide) k_1054 ?_
  refine z_aload_n dX12_restore_5 0 rfl ?_
  refine z_getI dX12_restore_6 (k := 28) zc_X12 lm_0 rfl (by decide) k_1066 (fun h1 => ?_)
  refine z_if_ne dX12_restore_9 h1 (tgt := 19) rfl (fun h2 => ?_) (fun h2 => ?_)
  · refine z_aload_n dX12_restore_12 0 rfl ?_
    refine z_bipush dX12_restore_13 (x := (-3)) (by decide +kernel) ?_
    refine z_callV1 dX12_restore_15 rfl (ct_X12_refuse n (-3) (wr m 0 16 0) (by decide)) zc_X12 lm_0 k_1194 k_1196 kp_37 k_10 k_1197 zn_X12_refuse ⟨rfl, rfl, Nat.le_of_ble_eq_true rfl, Nat.le_of_ble_eq_true rfl⟩ (Nat.le_of_ble_eq_true rfl) rfl (fun v3 m4 h5 ho6 => ?_)
    exact z_iret dX12_restore_18 rfl rfl h5
  · refine z_aload_n dX12_restore_19 0 rfl ?_
    refine z_aload_n dX12_restore_20 0 rfl ?_
    refine z_getR dX12_restore_21 (k := 27) (j := 16) zc_X12 lm_0 rfl (by decide) k_1065 ?_
    refine z_iconst dX12_restore_24 ?_
    refine z_callV0 dX12_restore_25 rfl (ct_X12_carryAll n 16 (by decide) 0 (wr m 0 16 0) (by decide)) zc_X12 lm_0 k_1239 k_1241 kp_46 k_10 k_1242 zn_X12_carryAll ⟨rfl, rfl, Nat.le_of_ble_eq_true rfl, Nat.le_of_ble_eq_true rfl⟩ (Nat.le_of_ble_eq_true rfl) rfl (fun v7 m8 ho10 => ?_)
    refine z_aload_n dX12_restore_28 0 rfl ?_
    refine z_iconst dX12_restore_29 ?_
    refine z_putI dX12_restore_30 (k := 33) zc_X12 lm_0 rfl (by decide) rfl rfl (by decide) k_1071 ?_
    refine z_aload_n dX12_restore_33 0 rfl ?_
    refine z_getI dX12_restore_34 (k := 1) zc_X12 lm_0 rfl (by decide) k_1039 (fun h11 => ?_)
    exact z_iret dX12_restore_37 rfl rfl h11
set_option maxRecDepth 20000 in
theorem ct_X12_part {ad sc sv : Nat → Nat} (n : Nat) (a0 : Int) (a1 : Int) (m : ZMem) (ha0 : R32 a0) (ha1 : R32 a1) : zCT LM ad sc sv M_X12_part yX12_part [.ref (ad 0), .int (mI a0), .int (mI a1)] m (F_X12_part n a0 a1 m) := by
  refine zCT_of (lv := [(0, .ref (ad 0)), (1, .int (mI a0)), (2, .int (mI a1))]) (by decide) rfl (Nat.le_of_ble_eq_true rfl) rfl ?_
  unfold F_X12_part
  refine z_aload_n dX12_part_0 0 rfl ?_
  refine z_iconst dX12_part_1 ?_
  refine z_putI dX12_part_2 (k := 16) zc_X12 lm_0 rfl (by decide) rfl rfl (by decide) k_1054 ?_
  refine z_aload_n dX12_part_5 0 rfl ?_
  refine z_iload_n dX12_part_6 1 rfl ?_
  refine z_callV4 dX12_part_7 rfl (ct_X12_isPart n a0 (wr m 0 16 0) ha0) zc_X12 lm_0 k_1256 k_1258 kp_50 k_10 k_1259 zn_X12_isPart ⟨rfl, rfl, Nat.le_of_ble_eq_true rfl, Nat.le_of_ble_eq_true rfl⟩ (Nat.le_of_ble_eq_true rfl) rfl (fun v1 m2 h3 ho4 => ?_)
  refine z_if_eq dX12_part_10 (zb01 h3) (tgt := 25) rfl (fun h5 => ?_) (fun h5 => ?_)
  · refine z_aload_n dX12_part_25 0 rfl ?_
    refine z_aload_n dX12_part_26 0 rfl ?_
    refine z_iload_n dX12_part_27 1 rfl ?_
    refine z_callV4 dX12_part_28 rfl (ct_X12_isPart n a0 m2 ha0) zc_X12 lm_0 k_1256 k_1258 kp_50 k_10 k_1259 zn_X12_isPart ⟨rfl, rfl, Nat.le_of_ble_eq_true rfl, Nat.le_of_ble_eq_true rfl⟩ (Nat.le_of_ble_eq_true rfl) rfl (fun v6 m7 h8 ho9 => ?_)
    refine z_if_eq dX12_part_31 (zb01 h8) (tgt := 39) rfl (fun h10 => ?_) (fun h10 => ?_)
    · refine z_iconst dX12_part_39 ?_
      refine z_callV1 dX12_part_40 rfl (ct_X12_refuse n (-1) m7 (by decide)) zc_X12 lm_0 k_1194 k_1196 kp_37 k_10 k_1197 zn_X12_refuse ⟨rfl, rfl, Nat.le_of_ble_eq_true rfl, Nat.le_of_ble_eq_true rfl⟩ (Nat.le_of_ble_eq_true rfl) rfl (fun v11 m12 h13 ho14 => ?_)
      exact z_iret dX12_part_43 rfl rfl h13
    · refine z_bipush dX12_part_34 (x := (-2)) (by decide +kernel) ?_
      refine z_goto dX12_part_36 (tgt := 40) rfl ?_
      refine z_callV1 dX12_part_40 rfl (ct_X12_refuse n (-2) m7 (by decide)) zc_X12 lm_0 k_1194 k_1196 kp_37 k_10 k_1197 zn_X12_refuse ⟨rfl, rfl, Nat.le_of_ble_eq_true rfl, Nat.le_of_ble_eq_true rfl⟩ (Nat.le_of_ble_eq_true rfl) rfl (fun v15 m16 h17 ho18 => ?_)
      exact z_iret dX12_part_43 rfl rfl h17
  · refine z_iload_n dX12_part_13 2 rfl ?_
    refine z_i2l dX12_part_14 ha1 (fun h19 => ?_)
    refine z_lconst dX12_part_15 (x := 0) (by decide +kernel) ?_
    refine z_ldc2 dX12_part_16 (x := 6) k_1289 ?_
    refine z_callS4 dX12_part_19 rfl (ct_X12_in n a1 0 6 m2 h19 (by decide) (by decide)) k_1220 k_1221 k_10 k_1222 zn_X12_in ⟨rfl, rfl, Nat.le_of_ble_eq_true rfl, Nat.le_of_ble_eq_true rfl⟩ (Nat.le_of_ble_eq_true rfl) rfl (fun v20 m21 h22 ho23 => ?_)
    refine z_if_ne dX12_part_22 (zb01 h22) (tgt := 44) rfl (fun h24 => ?_) (fun h24 => ?_)
    · refine z_aload_n dX12_part_25 0 rfl ?_
      refine z_aload_n dX12_part_26 0 rfl ?_
      refine z_iload_n dX12_part_27 1 rfl ?_
      refine z_callV4 dX12_part_28 rfl (ct_X12_isPart n a0 m21 ha0) zc_X12 lm_0 k_1256 k_1258 kp_50 k_10 k_1259 zn_X12_isPart ⟨rfl, rfl, Nat.le_of_ble_eq_true rfl, Nat.le_of_ble_eq_true rfl⟩ (Nat.le_of_ble_eq_true rfl) rfl (fun v25 m26 h27 ho28 => ?_)
      refine z_if_eq dX12_part_31 (zb01 h27) (tgt := 39) rfl (fun h29 => ?_) (fun h29 => ?_)
      · refine z_iconst dX12_part_39 ?_
        refine z_callV1 dX12_part_40 rfl (ct_X12_refuse n (-1) m26 (by decide)) zc_X12 lm_0 k_1194 k_1196 kp_37 k_10 k_1197 zn_X12_refuse ⟨rfl, rfl, Nat.le_of_ble_eq_true rfl, Nat.le_of_ble_eq_true rfl⟩ (Nat.le_of_ble_eq_true rfl) rfl (fun v30 m31 h32 ho33 => ?_)
        exact z_iret dX12_part_43 rfl rfl h32
      · refine z_bipush dX12_part_34 (x := (-2)) (by decide +kernel) ?_
        refine z_goto dX12_part_36 (tgt := 40) rfl ?_
        refine z_callV1 dX12_part_40 rfl (ct_X12_refuse n (-2) m26 (by decide)) zc_X12 lm_0 k_1194 k_1196 kp_37 k_10 k_1197 zn_X12_refuse ⟨rfl, rfl, Nat.le_of_ble_eq_true rfl, Nat.le_of_ble_eq_true rfl⟩ (Nat.le_of_ble_eq_true rfl) rfl (fun v34 m35 h36 ho37 => ?_)
        exact z_iret dX12_part_43 rfl rfl h36
    · refine z_iload_n dX12_part_44 2 rfl ?_
      refine z_case (fun hc38 => ?_) (fun hc38 => ?_)
      · refine z_tsIn dX12_part_45 (cst := 0) hc38 (by decide) (by decide) rfl (tgt := 84) rfl ?_
        refine z_aload_n dX12_part_84 0 rfl ?_
        refine z_getR dX12_part_85 (k := 7) (j := 1) zc_X12 lm_0 rfl (by decide) k_1045 ?_
        refine z_iload_n dX12_part_88 1 rfl ?_
        refine z_iaload dX12_part_89 ha0 (fun h39 => ?_)
        exact z_iret dX12_part_90 rfl rfl h39
      · refine z_case (fun hc40 => ?_) (fun hc40 => ?_)
        · refine z_tsIn dX12_part_45 (cst := 1) hc40 (by decide) (by decide) rfl (tgt := 91) rfl ?_
          refine z_aload_n dX12_part_91 0 rfl ?_
          refine z_getR dX12_part_92 (k := 8) (j := 2) zc_X12 lm_0 rfl (by decide) k_1046 ?_
          refine z_iload_n dX12_part_95 1 rfl ?_
          refine z_iaload dX12_part_96 ha0 (fun h41 => ?_)
          exact z_iret dX12_part_97 rfl rfl h41
        · refine z_case (fun hc42 => ?_) (fun hc42 => ?_)
          · refine z_tsIn dX12_part_45 (cst := 2) hc42 (by decide) (by decide) rfl (tgt := 98) rfl ?_
            refine z_aload_n dX12_part_98 0 rfl ?_
            refine z_getR dX12_part_99 (k := 9) (j := 3) zc_X12 lm_0 rfl (by decide) k_1047 ?_
            refine z_iload_n dX12_part_102 1 rfl ?_
            refine z_iaload dX12_part_103 ha0 (fun h43 => ?_)
            exact z_iret dX12_part_104 rfl rfl h43
          · refine z_case (fun hc44 => ?_) (fun hc44 => ?_)
            · refine z_tsIn dX12_part_45 (cst := 3) hc44 (by decide) (by decide) rfl (tgt := 105) rfl ?_
              refine z_aload_n dX12_part_105 0 rfl ?_
              refine z_getR dX12_part_106 (k := 10) (j := 4) zc_X12 lm_0 rfl (by decide) k_1048 ?_
              refine z_iload_n dX12_part_109 1 rfl ?_
              refine z_iaload dX12_part_110 ha0 (fun h45 => ?_)
              exact z_iret dX12_part_111 rfl rfl h45
            · refine z_case (fun hc46 => ?_) (fun hc46 => ?_)
              · refine z_tsIn dX12_part_45 (cst := 4) hc46 (by decide) (by decide) rfl (tgt := 112) rfl ?_
                refine z_aload_n dX12_part_112 0 rfl ?_
                refine z_getR dX12_part_113 (k := 11) (j := 5) zc_X12 lm_0 rfl (by decide) k_1049 ?_
                refine z_iload_n dX12_part_116 1 rfl ?_
                refine z_iaload dX12_part_117 ha0 (fun h47 => ?_)
                exact z_iret dX12_part_118 rfl rfl h47
              · refine z_case (fun hc48 => ?_) (fun hc48 => ?_)
                · refine z_tsIn dX12_part_45 (cst := 5) hc48 (by decide) (by decide) rfl (tgt := 119) rfl ?_
                  refine z_aload_n dX12_part_119 0 rfl ?_
                  refine z_iload_n dX12_part_120 1 rfl ?_
                  refine z_aload_n dX12_part_121 0 rfl ?_
                  refine z_getI dX12_part_122 (k := 1) zc_X12 lm_0 rfl (by decide) k_1039 (fun h49 => ?_)
                  refine z_callV1 dX12_part_125 rfl (ct_X12_takenFor n a0 (m21 0 1) m21 ha0 h49) zc_X12 lm_0 k_1290 k_1292 kp_55 k_10 k_1293 zn_X12_takenFor ⟨rfl, rfl, Nat.le_of_ble_eq_true rfl, Nat.le_of_ble_eq_true rfl⟩ (Nat.le_of_ble_eq_true rfl) rfl (fun v50 m51 h52 ho53 => ?_)
                  exact z_iret dX12_part_128 rfl rfl h52
                · refine z_tsOut dX12_part_45 ha1 (by omega) (tgt := 129) rfl ?_
                  refine z_aload_n dX12_part_129 0 rfl ?_
                  refine z_iload_n dX12_part_130 1 rfl ?_
                  refine z_callV1 dX12_part_131 rfl (ct_X12_leftOf n a0 m21 ha0) zc_X12 lm_0 k_1310 k_1312 kp_57 k_10 k_1313 zn_X12_leftOf ⟨rfl, rfl, Nat.le_of_ble_eq_true rfl, Nat.le_of_ble_eq_true rfl⟩ (Nat.le_of_ble_eq_true rfl) rfl (fun v54 m55 h56 ho57 => ?_)
                  exact z_iret dX12_part_134 rfl rfl h56
set_option maxRecDepth 20000 in
theorem T_X12_keepGuests_11 {ad sc sv : Nat → Nat} (n : Nat) (r11 : Int → ZMem → ZR) (hr11 : ∀ (x1 : Int) (m : ZMem), R32 x1 → zG LM ad sc sv M_X12_keepGuests 11 [(0, .ref (ad 0)), (1, .int (mI x1))] [] m (r11 x1 m)) : ∀ (x1 : Int) (m : ZMem), R32 x1 → zG LM ad sc sv M_X12_keepGuests 11 [(0, .ref (ad 0)), (1, .int (mI x1))] [] m (B_X12_keepGuests_11 n r11 x1 m) := by
  intro x1 m hx1
  unfold B_X12_keepGuests_11
  refine z_iload_n dX12_keepGuests_11 1 rfl ?_
  refine z_bipush dX12_keepGuests_12 (x := 8) (by decide +kernel) ?_
  refine z_icmp_ge dX12_keepGuests_14 hx1 (by decide) (tgt := 37) rfl (fun h7 => ?_) (fun h7 => ?_)
  · refine z_aload_n dX12_keepGuests_37 0 rfl ?_
    refine z_dup dX12_keepGuests_38 rfl ?_
    refine z_getI dX12_keepGuests_39 (k := 33) zc_X12 lm_0 rfl (by decide) k_1071 (fun h8 => ?_)
    refine z_iconst dX12_keepGuests_42 ?_
    refine z_isub dX12_keepGuests_43 (fun h9 => ?_)
    refine z_putI dX12_keepGuests_44 (k := 33) zc_X12 lm_0 rfl (by decide) rfl rfl h9 k_1071 ?_
    refine z_aload_n dX12_keepGuests_47 0 rfl ?_
    refine z_getR dX12_keepGuests_48 (k := 32) (j := 17) zc_X12 lm_0 rfl (by decide) k_1070 ?_
    refine z_aload_n dX12_keepGuests_51 0 rfl ?_
    refine z_getI dX12_keepGuests_52 (k := 33) zc_X12 lm_0 rfl (by decide) k_1071 (fun h10 => ?_)
    refine z_aload_n dX12_keepGuests_55 0 rfl ?_
    refine z_getI dX12_keepGuests_56 (k := 1) zc_X12 lm_0 rfl (by decide) k_1039 (fun h11 => ?_)
    refine z_iastore dX12_keepGuests_59 h10 h11 ?_
    refine z_aload_n dX12_keepGuests_60 0 rfl ?_
    refine z_dup dX12_keepGuests_61 rfl ?_
    refine z_getI dX12_keepGuests_62 (k := 33) zc_X12 lm_0 rfl (by decide) k_1071 (fun h12 => ?_)
    refine z_iconst dX12_keepGuests_65 ?_
    refine z_iadd dX12_keepGuests_66 (fun h13 => ?_)
    refine z_putI dX12_keepGuests_67 (k := 33) zc_X12 lm_0 rfl (by decide) rfl rfl h13 k_1071 ?_
    exact z_vret dX12_keepGuests_70 rfl rfl
  · refine z_aload_n dX12_keepGuests_17 0 rfl ?_
    refine z_getR dX12_keepGuests_18 (k := 32) (j := 17) zc_X12 lm_0 rfl (by decide) k_1070 ?_
    refine z_iload_n dX12_keepGuests_21 1 rfl ?_
    refine z_iconst dX12_keepGuests_22 ?_
    refine z_isub dX12_keepGuests_23 (fun h14 => ?_)
    refine z_aload_n dX12_keepGuests_24 0 rfl ?_
    refine z_getR dX12_keepGuests_25 (k := 32) (j := 17) zc_X12 lm_0 rfl (by decide) k_1070 ?_
    refine z_iload_n dX12_keepGuests_28 1 rfl ?_
    refine z_iaload dX12_keepGuests_29 hx1 (fun h15 => ?_)
    refine z_iastore dX12_keepGuests_30 h14 h15 ?_
    refine z_iinc dX12_keepGuests_31 (lv' := [(1, .int (mI (x1 + 1))), (0, .ref (ad 0))]) 1 rfl (by decide) rfl (fun h16 => ?_)
    refine z_goto dX12_keepGuests_34 (tgt := 11) rfl ?_
    exact zG_lvk (hr11 (x1 + 1) (wr m 17 ((x1 - 1) : Int).toNat (m 17 (x1 : Int).toNat)) h16) [1, 0] rfl
theorem TL_X12_keepGuests_11 {ad sc sv : Nat → Nat} (n : Nat) : ∀ q : Nat, ∀ (x1 : Int) (m : ZMem), R32 x1 → zG LM ad sc sv M_X12_keepGuests 11 [(0, .ref (ad 0)), (1, .int (mI x1))] [] m (L_X12_keepGuests_11 n q x1 m) := by
  intro q
  induction q with
  | zero => intros; exact zG_none
  | succ q ih => exact T_X12_keepGuests_11 n (L_X12_keepGuests_11 n q) ih
set_option maxRecDepth 20000 in
theorem ct_X12_keepGuests {ad sc sv : Nat → Nat} (n : Nat) (m : ZMem) : zCT LM ad sc sv M_X12_keepGuests yX12_keepGuests [.ref (ad 0)] m (F_X12_keepGuests n m) := by
  refine zCT_of (lv := [(0, .ref (ad 0))]) (by decide) rfl (Nat.le_of_ble_eq_true rfl) rfl ?_
  unfold F_X12_keepGuests
  refine z_aload_n dX12_keepGuests_0 0 rfl ?_
  refine z_getI dX12_keepGuests_1 (k := 33) zc_X12 lm_0 rfl (by decide) k_1071 (fun h1 => ?_)
  refine z_bipush dX12_keepGuests_4 (x := 8) (by decide +kernel) ?_
  refine z_icmp_ne dX12_keepGuests_6 h1 (by decide) (tgt := 47) rfl (fun h2 => ?_) (fun h2 => ?_)
  · refine z_iconst dX12_keepGuests_9 ?_
    refine z_istore_n dX12_keepGuests_10 (lv' := [(1, .int (mI 1)), (0, .ref (ad 0))]) (by decide) rfl ?_
    exact zG_lvk (TL_X12_keepGuests_11 n n 1 m (by decide)) [1, 0] rfl
  · refine z_aload_n dX12_keepGuests_47 0 rfl ?_
    refine z_getR dX12_keepGuests_48 (k := 32) (j := 17) zc_X12 lm_0 rfl (by decide) k_1070 ?_
    refine z_aload_n dX12_keepGuests_51 0 rfl ?_
    refine z_getI dX12_keepGuests_52 (k := 33) zc_X12 lm_0 rfl (by decide) k_1071 (fun h3 => ?_)
    refine z_aload_n dX12_keepGuests_55 0 rfl ?_
    refine z_getI dX12_keepGuests_56 (k := 1) zc_X12 lm_0 rfl (by decide) k_1039 (fun h4 => ?_)
    refine z_iastore dX12_keepGuests_59 h3 h4 ?_
    refine z_aload_n dX12_keepGuests_60 0 rfl ?_
    refine z_dup dX12_keepGuests_61 rfl ?_
    refine z_getI dX12_keepGuests_62 (k := 33) zc_X12 lm_0 rfl (by decide) k_1071 (fun h5 => ?_)
    refine z_iconst dX12_keepGuests_65 ?_
    refine z_iadd dX12_keepGuests_66 (fun h6 => ?_)
    refine z_putI dX12_keepGuests_67 (k := 33) zc_X12 lm_0 rfl (by decide) rfl rfl h6 k_1071 ?_
    exact z_vret dX12_keepGuests_70 rfl rfl
