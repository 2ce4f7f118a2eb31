/-! the JDK's own methods that are called: what they answer, and their contracts -/
def zsl (i : Nat) : Int := ((zslen.getD i 0 : Nat) : Int)
def zsc (i k : Nat) : Int := (((zsbyt.getD i []).getD k 0).toInt)
def F_J0_length_8abf5 (n : Nat) (i : Nat) (m : ZMem) : ZR := chk (i < 7) (some (zsl i, m))
def F_J0_isEmpty_aae02 (n : Nat) (i : Nat) (m : ZMem) : ZR := chk (i < 7) (some (if zsl i = 0 then 1 else 0, m))
def F_J0_charAt_5068e (n : Nat) (i : Nat) (k : Int) (m : ZMem) : ZR := chk (i < 7) (chk (0 ≤ k ∧ k < zsl i) (some (zsc i k.toNat, m)))
def zpop (x : Int) : Int := x % 2 + x / 2 % 2 + x / 4 % 2 + x / 8 % 2 + x / 16 % 2 + x / 32 % 2 + x / 64 % 2 + x / 128 % 2 + x / 256 % 2 + x / 512 % 2
def F_J6_bitCount_0f7a4 (n : Nat) (x : Int) (m : ZMem) : ZR := chk (0 ≤ x ∧ x < 1024) (some (zpop x, m))
abbrev M_J0_coder_7d493 : ZMI := (RJ0, cJ0_coder_7d493, 1, (some .byte), 1, { frames := 0, cells := 0, slots := 0, locals := 0 })
abbrev M_J0_isLatin1_aae02 : ZMI := (RJ0, cJ0_isLatin1_aae02, 1, (some .boolean), 4, { frames := 0, cells := 0, slots := 0, locals := 0 })
abbrev M_J3_checkIndex_8e157 : ZMI := (RJ3, cJ3_checkIndex_8e157, 3, (some .int), 1, { frames := 0, cells := 0, slots := 0, locals := 0 })
abbrev M_J0_checkIndex_df160 : ZMI := (RJ0, cJ0_checkIndex_df160, 2, none, 0, { frames := 1, cells := 0, slots := 0, locals := 22 })
abbrev M_J1_charAt_3b067 : ZMI := (RJ1, cJ1_charAt_3b067, 2, (some .char), 1, { frames := 2, cells := 0, slots := 0, locals := 60 })
theorem zn_J0_coder : zNames yJ0_coder_7d493 0 := ⟨by decide +kernel, by decide +kernel, by decide +kernel⟩
theorem zn_J0_isLatin1 : zNames yJ0_isLatin1_aae02 0 := ⟨by decide +kernel, by decide +kernel, by decide +kernel⟩
theorem zn_J3_checkIndex : zNames yJ3_checkIndex_8e157 3 := ⟨by decide +kernel, by decide +kernel, by decide +kernel⟩
theorem zn_J0_checkIndex : zNames yJ0_checkIndex_df160 2 := ⟨by decide +kernel, by decide +kernel, by decide +kernel⟩
theorem zn_J1_charAt : zNames yJ1_charAt_3b067 2 := ⟨by decide +kernel, by decide +kernel, by decide +kernel⟩
theorem kJ_value : Cond.fieldLink RJ0 9 "java/lang/String" "value" "[B" ∈ zall := zall_mem (List.mem_append_right _ (List.mem_of_getElem? (i := 1665) (by decide +kernel))) rfl
theorem kJ_coderF : Cond.fieldLink RJ0 15 "java/lang/String" "coder" "B" ∈ zall := zall_mem (List.mem_append_right _ (List.mem_of_getElem? (i := 1666) (by decide +kernel))) rfl
theorem kJ_comp : Cond.fieldLink RJ0 38 "java/lang/String" "COMPACT_STRINGS" "Z" ∈ zall := zall_mem (List.mem_append_right _ (List.mem_of_getElem? (i := 324) (by decide +kernel))) rfl
theorem kJ_sio : Cond.fieldLink RJ0 1053 "jdk/internal/util/Preconditions" "SIOOBE_FORMATTER" "Ljava/util/function/BiFunction;" ∈ zall := zall_mem (List.mem_append_right _ (List.mem_of_getElem? (i := 340) (by decide +kernel))) rfl
theorem kJ_mcoder : Cond.methodLink RJ0 335 yJ0_coder_7d493 ∈ zall := zall_mem (List.mem_append_right _ (List.mem_of_getElem? (i := 320) (by decide +kernel))) rfl
theorem kJ_mlat : Cond.methodLink RJ0 492 yJ0_isLatin1_aae02 ∈ zall := zall_mem (List.mem_append_right _ (List.mem_of_getElem? (i := 330) (by decide +kernel))) rfl
theorem kJ_mchar : Cond.methodLink RJ0 495 yJ1_charAt_3b067 ∈ zall := zall_mem (List.mem_append_right _ (List.mem_of_getElem? (i := 334) (by decide +kernel))) rfl
theorem kJ_mchk : Cond.methodLink RJ1 9 yJ0_checkIndex_df160 ∈ zall := zall_mem (List.mem_append_right _ (List.mem_of_getElem? (i := 337) (by decide +kernel))) rfl
theorem kJ_mpre : Cond.methodLink RJ0 1059 yJ3_checkIndex_8e157 ∈ zall := zall_mem (List.mem_append_right _ (List.mem_of_getElem? (i := 342) (by decide +kernel))) rfl
theorem kJ_icoder : Cond.instanceMethod yJ0_coder_7d493 ∈ zall := zall_mem (List.mem_append_right _ (List.mem_of_getElem? (i := 321) (by decide +kernel))) rfl
theorem kJ_scoder : Cond.selects yJ0_coder_7d493.cls yJ0_coder_7d493 yJ0_coder_7d493 ∈ zall := zall_mem (List.mem_append_right _ (List.mem_of_getElem? (i := 322) (by decide +kernel))) rfl
theorem kJ_ilat : Cond.instanceMethod yJ0_isLatin1_aae02 ∈ zall := zall_mem (List.mem_append_right _ (List.mem_of_getElem? (i := 331) (by decide +kernel))) rfl
theorem kJ_slat : Cond.selects yJ0_isLatin1_aae02.cls yJ0_isLatin1_aae02 yJ0_isLatin1_aae02 ∈ zall := zall_mem (List.mem_append_right _ (List.mem_of_getElem? (i := 332) (by decide +kernel))) rfl
theorem kJ_tchar : Cond.static yJ1_charAt_3b067 ∈ zall := zall_mem (List.mem_append_right _ (List.mem_of_getElem? (i := 335) (by decide +kernel))) rfl
theorem kJ_tchk : Cond.static yJ0_checkIndex_df160 ∈ zall := zall_mem (List.mem_append_right _ (List.mem_of_getElem? (i := 338) (by decide +kernel))) rfl
theorem kJ_tpre : Cond.static yJ3_checkIndex_8e157 ∈ zall := zall_mem (List.mem_append_right _ (List.mem_of_getElem? (i := 343) (by decide +kernel))) rfl
theorem kJ_ccoder : Cond.code yJ0_coder_7d493 M_J0_coder_7d493.2.1 M_J0_coder_7d493.2.2.1 M_J0_coder_7d493.2.2.2.1 ∈ zall := zall_mem (List.mem_append_right _ (List.mem_of_getElem? (i := 323) (by decide +kernel))) rfl
theorem kJ_clat : Cond.code yJ0_isLatin1_aae02 M_J0_isLatin1_aae02.2.1 M_J0_isLatin1_aae02.2.2.1 M_J0_isLatin1_aae02.2.2.2.1 ∈ zall := zall_mem (List.mem_append_right _ (List.mem_of_getElem? (i := 333) (by decide +kernel))) rfl
theorem kJ_cchar : Cond.code yJ1_charAt_3b067 M_J1_charAt_3b067.2.1 M_J1_charAt_3b067.2.2.1 M_J1_charAt_3b067.2.2.2.1 ∈ zall := zall_mem (List.mem_append_right _ (List.mem_of_getElem? (i := 336) (by decide +kernel))) rfl
theorem kJ_cchk : Cond.code yJ0_checkIndex_df160 M_J0_checkIndex_df160.2.1 M_J0_checkIndex_df160.2.2.1 M_J0_checkIndex_df160.2.2.2.1 ∈ zall := zall_mem (List.mem_append_right _ (List.mem_of_getElem? (i := 339) (by decide +kernel))) rfl
theorem kJ_cpre : Cond.code yJ3_checkIndex_8e157 M_J3_checkIndex_8e157.2.1 M_J3_checkIndex_8e157.2.2.1 M_J3_checkIndex_8e157.2.2.2.1 ∈ zall := zall_mem (List.mem_append_right _ (List.mem_of_getElem? (i := 344) (by decide +kernel))) rfl
theorem kJ_nstr : Cond.initialized "java/lang/String" ∈ zall := zall_mem (List.mem_append_right _ (List.mem_of_getElem? (i := 11) (by decide +kernel))) rfl
theorem kJ_nl1 : Cond.initialized "java/lang/StringLatin1" ∈ zall := zall_mem (List.mem_append_right _ (List.mem_of_getElem? (i := 12) (by decide +kernel))) rfl
theorem kJ_nprec : Cond.initialized "jdk/internal/util/Preconditions" ∈ zall := zall_mem (List.mem_append_right _ (List.mem_of_getElem? (i := 13) (by decide +kernel))) rfl
theorem kJ_b265 : Cond.constant RJ6 265 (1431655765) ∈ zall := zall_mem (List.mem_append_right _ (List.mem_of_getElem? (i := 884) (by decide +kernel))) rfl
theorem kJ_b266 : Cond.constant RJ6 266 (858993459) ∈ zall := zall_mem (List.mem_append_right _ (List.mem_of_getElem? (i := 885) (by decide +kernel))) rfl
theorem kJ_b267 : Cond.constant RJ6 267 (252645135) ∈ zall := zall_mem (List.mem_append_right _ (List.mem_of_getElem? (i := 886) (by decide +kernel))) rfl

section ZJDK
variable {La : List ZKD} {ad sc sv : Nat → Nat} {M : ZMI} {pc : Nat} {lv lv' : List (Nat × Value)} {st st' : List Value} {mem mem1 : ZMem} {o o1 o2 : ZR}
theorem mI_1 : mI 1 = 1 := by decide +kernel
theorem z_getsC {index : Nat} (hd : decode M.2.1 pc = .ok (.getstatic index, 3)) (hw : Cond.fieldLink M.1 index "java/lang/String" "COMPACT_STRINGS" "Z" ∈ zall) (k : zG La ad sc sv M (pc + 3) lv (.int (mI 1) :: st) mem o) : zG La ad sc sv M pc lv st mem o :=
  zG_st (fun C hP hS hl w => va_gets C.1 C.2.1 C.2.2.2.2.2.2.2.2.2.2.1 hS C.2.2.2.1 (C.2.2.2.2.1 _ hw) (fun _ h => h) hd (by rw [mI_1] at w; exact w)) k
theorem z_getsQ {index : Nat} (hd : decode M.2.1 pc = .ok (.getstatic index, 3)) (hw : Cond.fieldLink M.1 index "jdk/internal/util/Preconditions" "SIOOBE_FORMATTER" "Ljava/util/function/BiFunction;" ∈ zall) (k : ∀ q : Value, q = .null ∨ (∃ t : Nat, q = .ref t) → zG La ad sc sv M (pc + 3) lv (q :: st) mem o) : zG La ad sc sv M pc lv st mem o := by
  intro hM r mem' ho
  obtain ⟨h1, h2, -⟩ := k .null (Or.inl rfl) hM r mem' ho
  refine ⟨h1, h2, fun p l e s m args below meth c H locs ls D cyI cyZ C hP hS hl => ?_⟩
  rcases C.2.2.2.2.2.2.2.2.2.2.2.1 with hz | ⟨t, hz⟩
  · exact va_gets C.1 C.2.1 hz hS C.2.2.2.1 (C.2.2.2.2.1 _ hw) (fun _ h => h) hd ((k .null (Or.inl rfl) hM r mem' ho).2.2 p l e s m args below meth c H locs ls D cyI cyZ C hP hS hl)
  · exact va_gets C.1 C.2.1 hz hS C.2.2.2.1 (C.2.2.2.2.1 _ hw) (fun _ h => h) hd ((k (.ref t) (Or.inr ⟨t, rfl⟩) hM r mem' ho).2.2 p l e s m args below meth c H locs ls D cyI cyZ C hP hS hl)
theorem z_sgetC {index i : Nat} (hd : decode M.2.1 pc = .ok (.getfield index, 3)) (hi : i < 7) (hw : Cond.fieldLink M.1 index "java/lang/String" "coder" "B" ∈ zall) (k : zG La ad sc sv M (pc + 3) lv (.int (mI 0) :: st) mem o) : zG La ad sc sv M pc lv (.ref (sc i) :: st) mem o :=
  zG_st (fun C hP hS hl w => vk_getf C.1 C.2.1 (C.2.2.2.2.2.2.2.2.2.1.1 i hi).2.1 hS C.2.2.2.1 (C.2.2.2.2.1 _ hw) (fun _ h => h) hd (by rw [mI_0] at w; exact w)) k
theorem z_sgetV {index i : Nat} (hd : decode M.2.1 pc = .ok (.getfield index, 3)) (hi : i < 7) (hw : Cond.fieldLink M.1 index "java/lang/String" "value" "[B" ∈ zall) (k : zG La ad sc sv M (pc + 3) lv (.ref (sv i) :: st) mem o) : zG La ad sc sv M pc lv (.ref (sc i) :: st) mem o :=
  zG_st (fun C hP hS hl w => vk_getf C.1 C.2.1 (C.2.2.2.2.2.2.2.2.2.1.1 i hi).2.2.1 hS C.2.2.2.1 (C.2.2.2.2.1 _ hw) (fun _ h => h) hd w) k
theorem z_svlen {i : Nat} (hd : decode M.2.1 pc = .ok (.arraylength, 1)) (hi : i < 7) (k : zG La ad sc sv M (pc + 1) lv (.int (mI (zsl i)) :: st) mem o) : zG La ad sc sv M pc lv (.ref (sv i) :: st) mem o :=
  zG_st (fun C hP hS hl w => va_tlen C.1 C.2.1 (C.2.2.2.2.2.2.2.2.2.1.1 i hi).2.2.2 hS mI_nI.symm hd w) k
theorem z_svald {i : Nat} {j : Int} (hd : decode M.2.1 pc = .ok (.baload, 1)) (hi : i < 7) (hj : R32 j) (h : 0 ≤ j ∧ j < zsl i) (k : zG La ad sc sv M (pc + 1) lv (.int (mI (zsc i j.toNat)) :: st) mem o) : zG La ad sc sv M pc lv (.int (mI j) :: .ref (sv i) :: st) mem o :=
  zG_st (fun C hP hS hl w => va_tb C.1 C.2.1 (C.2.2.2.2.2.2.2.2.2.1.1 i hi).2.2.2 hS (vp_in_iff.mpr (by rw [mI_toInt hj]; exact h)) (by rw [mI_cl hj]) hd (by unfold zsc at w; rw [mI_ofToInt] at w; exact w)) k
theorem z_i2c {x y : Int} (hd : decode M.2.1 pc = .ok (.i2c, 1)) (h : ((mI x).toUInt32 % 65536).toInt32 = mI y) (k : zG La ad sc sv M (pc + 1) lv (.int (mI y) :: st) mem o) : zG La ad sc sv M pc lv (.int (mI x) :: st) mem o :=
  zG_st (fun C hP hS hl w => lv_i2c C.1 C.2.1 hd h w) k
theorem z_nret {x : Int} {ty : FieldType} (hd : decode M.2.1 pc = .ok (.ireturn, 1)) (hk : M.2.2.2.2.1 = 1) (hr : M.2.2.2.1 = some ty) (hn : narrow ty (.int (mI x)) = .int (mI x)) (hx : R32 x) : zG La ad sc sv M pc lv [.int (mI x)] mem (some (x, mem)) := by
  intro hM r mem' ho
  cases ho
  rw [hk]
  exact ⟨hx, hM, fun p l e s m args below meth c H locs ls D cyI cyZ C hP hS hl => W.zret C.1 C.2.1 (by rw [C.2.2.2.2.2.1]; exact hr) hn (fun t ht hW => ⟨rfl, by rw [ht]; exact hP, hS.F ht⟩) hS.2.2 hd C.2.2.2.2.2.2.1⟩
theorem z_aload2q {q : Value} (hq : q.category = 1) (k : zG La ad sc sv M pc lv (q :: st) mem o) : zG La ad sc sv M pc lv (q :: st) mem o := k
theorem z_pushNat {x : Int32} {st0 : List Value} (h : st' = .int x :: st0) (k : zG La ad sc sv M pc lv (.int x :: st0) mem o) : zG La ad sc sv M pc lv st' mem o := by rw [h]; exact k
end ZJDK
theorem ct_J0_coder {ad sc sv : Nat → Nat} (i : Nat) (m : ZMem) : zCT LX ad sc sv M_J0_coder_7d493 yJ0_coder_7d493 [.ref (sc i)] m (chk (i < 7) (some (0, m))) := by
  refine zCT_of (lv := [(0, .ref (sc i))]) (by decide) rfl (Nat.le_of_ble_eq_true rfl) rfl ?_
  refine zG_chk (fun hi => ?_)
  refine z_getsC dJ0_coder_7d493_0 kJ_comp ?_
  refine z_if_eq_f dJ0_coder_7d493_3 (by decide) (by decide) (tgt := 13) rfl ?_
  refine z_aload_n dJ0_coder_7d493_6 0 rfl ?_
  refine z_sgetC dJ0_coder_7d493_7 hi kJ_coderF ?_
  refine z_goto dJ0_coder_7d493_10 (tgt := 14) rfl ?_
  exact z_nret dJ0_coder_7d493_14 rfl rfl (by decide +kernel) (by decide)
theorem ct_J0_isLatin1 {ad sc sv : Nat → Nat} (i : Nat) (m : ZMem) : zCT LX ad sc sv M_J0_isLatin1_aae02 yJ0_isLatin1_aae02 [.ref (sc i)] m (chk (i < 7) (some (1, m))) := by
  refine zCT_of (lv := [(0, .ref (sc i))]) (by decide) rfl (Nat.le_of_ble_eq_true rfl) rfl ?_
  refine zG_chk (fun hi => ?_)
  refine z_getsC dJ0_isLatin1_aae02_0 kJ_comp ?_
  refine z_if_eq_f dJ0_isLatin1_aae02_3 (by decide) (by decide) (tgt := 17) rfl ?_
  refine z_aload_n dJ0_isLatin1_aae02_6 0 rfl ?_
  refine z_sgetC dJ0_isLatin1_aae02_7 hi kJ_coderF ?_
  refine z_if_ne_f dJ0_isLatin1_aae02_10 (by decide) rfl (tgt := 17) rfl ?_
  refine z_iconst dJ0_isLatin1_aae02_13 ?_
  refine z_goto dJ0_isLatin1_aae02_14 (tgt := 18) rfl ?_
  exact z_zret dJ0_isLatin1_aae02_18 rfl rfl (by decide)
theorem ct_J3_checkIndex {ad sc sv : Nat → Nat} (k ln : Int) (q : Value) (hq : q = .null ∨ ∃ t : Nat, q = .ref t) (m : ZMem) (hk : R32 k) (hln : R32 ln) : zCT LX ad sc sv M_J3_checkIndex_8e157 yJ3_checkIndex_8e157 [.int (mI k), .int (mI ln), q] m (chk (0 ≤ k ∧ k < ln) (some (k, m))) := by
  refine zCT_of (lv := [(0, .int (mI k)), (1, .int (mI ln)), (2, q)]) (by decide) rfl (by rcases hq with rfl | ⟨t, rfl⟩ <;> exact Nat.le_of_ble_eq_true rfl) rfl ?_
  refine zG_chk (fun h => ?_)
  refine z_iload_n dJ3_checkIndex_8e157_0 0 rfl ?_
  refine z_if_lt_f dJ3_checkIndex_8e157_1 hk (by omega) (tgt := 9) rfl ?_
  refine z_iload_n dJ3_checkIndex_8e157_4 0 rfl ?_
  refine z_iload_n dJ3_checkIndex_8e157_5 1 rfl ?_
  refine z_icmp_lt_t dJ3_checkIndex_8e157_6 hk hln h.2 (tgt := 16) rfl ?_
  refine z_iload_n dJ3_checkIndex_8e157_16 0 rfl ?_
  exact z_iret dJ3_checkIndex_8e157_17 rfl rfl hk
theorem ct_J0_checkIndex {ad sc sv : Nat → Nat} (k ln : Int) (m : ZMem) (hk : R32 k) (hln : R32 ln) : zCT LX ad sc sv M_J0_checkIndex_df160 yJ0_checkIndex_df160 [.int (mI k), .int (mI ln)] m (bnd (chk (0 ≤ k ∧ k < ln) (some (k, m))) (fun _ m2 => some (0, m2))) := by
  refine zCT_of (lv := [(0, .int (mI k)), (1, .int (mI ln))]) (by decide) rfl (Nat.le_of_ble_eq_true rfl) rfl ?_
  refine z_iload_n dJ0_checkIndex_df160_0 0 rfl ?_
  refine z_iload_n dJ0_checkIndex_df160_1 1 rfl ?_
  refine z_getsQ dJ0_checkIndex_df160_2 kJ_sio (fun q hq => ?_)
  refine z_callS1 dJ0_checkIndex_df160_5 rfl (ct_J3_checkIndex k ln q hq m hk hln) kJ_mpre kJ_tpre kJ_nprec kJ_cpre zn_J3_checkIndex ⟨rfl, rfl, Nat.le_of_ble_eq_true rfl, Nat.le_of_ble_eq_true rfl⟩ (Nat.le_of_ble_eq_true rfl) rfl (fun r m2 hr ho => ?_)
  refine z_pop dJ0_checkIndex_df160_8 rfl ?_
  exact z_vret dJ0_checkIndex_df160_9 rfl rfl
theorem zsc_all : ∀ i, i < 7 → ∀ k, k < 7 → (mI (zsc i k % 2 ^ 8) = mI (zsc i k) ∧ ((mI (zsc i k % 2 ^ 8)).toUInt32 % 65536).toInt32 = mI (zsc i k)) ∧ narrow .char (.int (mI (zsc i k))) = .int (mI (zsc i k)) ∧ R32 (zsc i k) ∧ zsl i ≤ 7 ∧ R32 (zsl i) := by decide +kernel
theorem ct_J1_charAt {ad sc sv : Nat → Nat} (i : Nat) (k : Int) (m : ZMem) (hi : i < 7) (hk : R32 k) : zCT LX ad sc sv M_J1_charAt_3b067 yJ1_charAt_3b067 [.ref (sv i), .int (mI k)] m (bnd (bnd (chk (0 ≤ k ∧ k < zsl i) (some (k, m))) (fun _ m2 => some (0, m2))) (fun _ m2 => chk (0 ≤ k ∧ k < zsl i) (some (zsc i k.toNat, m2)))) := by
  refine zCT_of (lv := [(0, .ref (sv i)), (1, .int (mI k))]) (by decide) rfl (Nat.le_of_ble_eq_true rfl) rfl ?_
  refine z_iload_n dJ1_charAt_3b067_0 1 rfl ?_
  refine z_aload_n dJ1_charAt_3b067_1 0 rfl ?_
  refine z_svlen dJ1_charAt_3b067_2 hi ?_
  refine z_callS0 dJ1_charAt_3b067_3 rfl (ct_J0_checkIndex k (zsl i) m hk (zsc_all i hi 0 (by decide)).2.2.2.2) kJ_mchk kJ_tchk kJ_nstr kJ_cchk zn_J0_checkIndex ⟨rfl, rfl, Nat.le_of_ble_eq_true rfl, Nat.le_of_ble_eq_true rfl⟩ (Nat.le_of_ble_eq_true rfl) rfl (fun r m2 ho => ?_)
  refine zG_chk (fun h => ?_)
  have h7 : k.toNat < 7 := by have := (zsc_all i hi 0 (by decide)).2.2.2.1; omega
  obtain ⟨⟨e1, e2⟩, e3, e4, -, -⟩ := zsc_all i hi k.toNat h7
  refine z_aload_n dJ1_charAt_3b067_6 0 rfl ?_
  refine z_iload_n dJ1_charAt_3b067_7 1 rfl ?_
  refine z_svald dJ1_charAt_3b067_8 hi hk h ?_
  refine z_sipush dJ1_charAt_3b067_9 (x := 255) (by decide +kernel) ?_
  refine z_iandm dJ1_charAt_3b067_12 8 (by decide +kernel) (by decide) (fun _ => ?_)
  refine z_i2c dJ1_charAt_3b067_13 e2 ?_
  exact z_nret dJ1_charAt_3b067_14 rfl rfl e3 e4
theorem ct_J0_length_8abf5 {ad sc sv : Nat → Nat} (n : Nat) (i : Nat) (m : ZMem) : zCT LX ad sc sv M_J0_length_8abf5 yJ0_length_8abf5 [.ref (sc i)] m (F_J0_length_8abf5 n i m) := by
  refine zCT_of (lv := [(0, .ref (sc i))]) (by decide) rfl (Nat.le_of_ble_eq_true rfl) rfl ?_
  unfold F_J0_length_8abf5
  refine zG_chk (fun hi => ?_)
  have e : some (zsl i, m) = bnd (chk (i < 7) (some (0, m))) (fun r m2 => chk (0 ≤ r ∧ r < 32) (some (zsl i / 2 ^ r.toNat, m2))) := by
    rw [chk_pos hi, bnd_some, chk_pos (by decide)]
    simp
  rw [e]
  have hR := (zsc_all i hi 0 (by decide)).2.2.2.2
  refine z_aload_n dJ0_length_8abf5_0 0 rfl ?_
  refine z_sgetV dJ0_length_8abf5_1 hi kJ_value ?_
  refine z_svlen dJ0_length_8abf5_4 hi ?_
  refine z_aload_n dJ0_length_8abf5_5 0 rfl ?_
  refine z_callT1 dJ0_length_8abf5_6 rfl (ct_J0_coder i m) (fun _ _ h => (chk_some h).1) rfl kJ_mcoder kJ_icoder kJ_scoder kJ_nstr kJ_ccoder zn_J0_coder ⟨rfl, rfl, Nat.le_of_ble_eq_true rfl, Nat.le_of_ble_eq_true rfl⟩ (Nat.le_of_ble_eq_true rfl) rfl (fun r m2 hr ho => ?_)
  refine z_ishr dJ0_length_8abf5_9 hR (fun h2 => ?_)
  exact z_iret dJ0_length_8abf5_10 rfl rfl h2
theorem ct_J0_isEmpty_aae02 {ad sc sv : Nat → Nat} (n : Nat) (i : Nat) (m : ZMem) : zCT LX ad sc sv M_J0_isEmpty_aae02 yJ0_isEmpty_aae02 [.ref (sc i)] m (F_J0_isEmpty_aae02 n i m) := by
  refine zCT_of (lv := [(0, .ref (sc i))]) (by decide) rfl (Nat.le_of_ble_eq_true rfl) rfl ?_
  unfold F_J0_isEmpty_aae02
  refine zG_chk (fun hi => ?_)
  have e : some (if zsl i = 0 then (1 : Int) else 0, m) = if zsl i = 0 then some ((1 : Int), m) else some (0, m) := by split <;> rfl
  rw [e]
  have hR := (zsc_all i hi 0 (by decide)).2.2.2.2
  refine z_aload_n dJ0_isEmpty_aae02_0 0 rfl ?_
  refine z_sgetV dJ0_isEmpty_aae02_1 hi kJ_value ?_
  refine z_svlen dJ0_isEmpty_aae02_4 hi ?_
  refine z_if_ne dJ0_isEmpty_aae02_5 hR (tgt := 12) rfl (fun h => ?_) (fun h => ?_)
  · refine z_iconst dJ0_isEmpty_aae02_8 ?_
    refine z_goto dJ0_isEmpty_aae02_9 (tgt := 13) rfl ?_
    exact z_zret dJ0_isEmpty_aae02_13 rfl rfl (by decide)
  · refine z_iconst dJ0_isEmpty_aae02_12 ?_
    exact z_zret dJ0_isEmpty_aae02_13 rfl rfl (by decide)
theorem ct_J0_charAt_5068e {ad sc sv : Nat → Nat} (n : Nat) (i : Nat) (k : Int) (m : ZMem) (hk : R32 k) : zCT LX ad sc sv M_J0_charAt_5068e yJ0_charAt_5068e [.ref (sc i), .int (mI k)] m (F_J0_charAt_5068e n i k m) := by
  refine zCT_of (lv := [(0, .ref (sc i)), (1, .int (mI k))]) (by decide) rfl (Nat.le_of_ble_eq_true rfl) rfl ?_
  unfold F_J0_charAt_5068e
  refine zG_chk (fun hi => ?_)
  refine zG_chk (fun h => ?_)
  have h7 : k.toNat < 7 := by have := (zsc_all i hi 0 (by decide)).2.2.2.1; omega
  obtain ⟨-, e3, e4, -, -⟩ := zsc_all i hi k.toNat h7
  have e : some (zsc i k.toNat, m) = bnd (chk (i < 7) (some (1, m))) (fun r m2 => if r = 0 then none else bnd (bnd (bnd (chk (0 ≤ k ∧ k < zsl i) (some (k, m2))) (fun _ m3 => some (0, m3))) (fun _ m3 => chk (0 ≤ k ∧ k < zsl i) (some (zsc i k.toNat, m3)))) (fun r3 m3 => chk (r3 = zsc i k.toNat) (some (r3, m3)))) := by
    rw [chk_pos hi, bnd_some, if_neg (by decide), chk_pos h, bnd_some, bnd_some, chk_pos h, bnd_some, chk_pos rfl]
  rw [e]
  refine z_aload_n dJ0_charAt_5068e_0 0 rfl ?_
  refine z_callT4 dJ0_charAt_5068e_1 rfl (ct_J0_isLatin1 i m) (fun _ _ h => (chk_some h).1) rfl kJ_mlat kJ_ilat kJ_slat kJ_nstr kJ_clat zn_J0_isLatin1 ⟨rfl, rfl, Nat.le_of_ble_eq_true rfl, Nat.le_of_ble_eq_true rfl⟩ (Nat.le_of_ble_eq_true rfl) rfl (fun r m2 hr ho => ?_)
  refine z_if_eq dJ0_charAt_5068e_4 (zb01 hr) (tgt := 16) rfl (fun h0 => zG_none) (fun h0 => ?_)
  refine z_aload_n dJ0_charAt_5068e_7 0 rfl ?_
  refine z_sgetV dJ0_charAt_5068e_8 hi kJ_value ?_
  refine z_iload_n dJ0_charAt_5068e_11 1 rfl ?_
  refine z_callS1 dJ0_charAt_5068e_12 rfl (ct_J1_charAt i k m2 hi hk) kJ_mchar kJ_tchar kJ_nl1 kJ_cchar zn_J1_charAt ⟨rfl, rfl, Nat.le_of_ble_eq_true rfl, Nat.le_of_ble_eq_true rfl⟩ (Nat.le_of_ble_eq_true rfl) rfl (fun r3 m3 hr3 ho3 => ?_)
  refine zG_chk (fun h3 => ?_)
  exact z_nret dJ0_charAt_5068e_15 rfl rfl (by rw [h3]; exact e3) (by rw [h3]; exact e4)
def zu (x : Int32) (k : Int32) : Int32 := (x.toUInt32 >>> (k.toUInt32 &&& Int32.toUInt32 31)).toInt32
def zb1 (x : Int32) : Int32 := x - (zu x 1 &&& 1431655765)
def zb2 (x : Int32) : Int32 := (x &&& 858993459) + (zu x 2 &&& 858993459)
def zb3 (x : Int32) : Int32 := (x + zu x 4) &&& 252645135
def zb4 (x : Int32) : Int32 := x + zu x 8
def zb5 (x : Int32) : Int32 := x + zu x 16
theorem zbc_all : ∀ k : Nat, k < 1024 → (zb5 (zb4 (zb3 (zb2 (zb1 (nI k))))) &&& 63) = mI (zpop (k : Int)) := by decide +kernel
theorem ct_J6_bitCount_0f7a4 {ad sc sv : Nat → Nat} (n : Nat) (x : Int) (m : ZMem) (hx : R32 x) : zCT LX ad sc sv M_J6_bitCount_0f7a4 yJ6_bitCount_0f7a4 [.int (mI x)] m (F_J6_bitCount_0f7a4 n x m) := by
  refine zCT_of (lv := [(0, .int (mI x))]) (by decide) rfl (Nat.le_of_ble_eq_true rfl) rfl ?_
  unfold F_J6_bitCount_0f7a4
  refine zG_chk (fun h => ?_)
  have hR : R32 (zpop x) := by unfold zpop; omega
  have hE : (zb5 (zb4 (zb3 (zb2 (zb1 (mI x))))) &&& 63) = mI (zpop x) := by
    have h1 := zbc_all x.toNat (by omega)
    rw [Int.toNat_of_nonneg h.1] at h1
    rw [mI_nat h.1]
    exact h1
  generalize mI x = y at hE
  refine zG_st (fun C hP hS hl w => lv_iload_n C.1 C.2.1 dJ6_bitCount_0f7a4_0 rfl (lv_at hl 0 rfl) w) ?_
  refine zG_st (fun C hP hS hl w => lv_iload_n C.1 C.2.1 dJ6_bitCount_0f7a4_1 rfl (lv_at hl 0 rfl) w) ?_
  refine zG_st (fun C hP hS hl w => lv_iconst C.1 C.2.1 dJ6_bitCount_0f7a4_2 (v := 1) (by decide) w) ?_
  refine zG_st (fun C hP hS hl w => lv_iushr C.1 C.2.1 dJ6_bitCount_0f7a4_3 rfl w) ?_
  refine zG_st (fun C hP hS hl w => lv_ldcw C.1 C.2.1 C.2.2.2.1 (C.2.2.2.2.1 _ kJ_b265) dJ6_bitCount_0f7a4_4 w) ?_
  refine zG_st (fun C hP hS hl w => lv_iand C.1 C.2.1 dJ6_bitCount_0f7a4_7 w) ?_
  refine zG_st (fun C hP hS hl w => lv_isub C.1 C.2.1 dJ6_bitCount_0f7a4_8 w) ?_
  refine zG_sl (lv' := [(0, .int (zb1 y))]) (fun C hl w => lv_istore_n C.1 C.2.1 dJ6_bitCount_0f7a4_9 rfl hl (by decide) rfl w) ?_
  generalize zb1 y = y at hE
  refine zG_st (fun C hP hS hl w => lv_iload_n C.1 C.2.1 dJ6_bitCount_0f7a4_10 rfl (lv_at hl 0 rfl) w) ?_
  refine zG_st (fun C hP hS hl w => lv_ldcw C.1 C.2.1 C.2.2.2.1 (C.2.2.2.2.1 _ kJ_b266) dJ6_bitCount_0f7a4_11 w) ?_
  refine zG_st (fun C hP hS hl w => lv_iand C.1 C.2.1 dJ6_bitCount_0f7a4_14 w) ?_
  refine zG_st (fun C hP hS hl w => lv_iload_n C.1 C.2.1 dJ6_bitCount_0f7a4_15 rfl (lv_at hl 0 rfl) w) ?_
  refine zG_st (fun C hP hS hl w => lv_iconst C.1 C.2.1 dJ6_bitCount_0f7a4_16 (v := 2) (by decide) w) ?_
  refine zG_st (fun C hP hS hl w => lv_iushr C.1 C.2.1 dJ6_bitCount_0f7a4_17 rfl w) ?_
  refine zG_st (fun C hP hS hl w => lv_ldcw C.1 C.2.1 C.2.2.2.1 (C.2.2.2.2.1 _ kJ_b266) dJ6_bitCount_0f7a4_18 w) ?_
  refine zG_st (fun C hP hS hl w => lv_iand C.1 C.2.1 dJ6_bitCount_0f7a4_21 w) ?_
  refine zG_st (fun C hP hS hl w => lv_iadd C.1 C.2.1 dJ6_bitCount_0f7a4_22 w) ?_
  refine zG_sl (lv' := [(0, .int (zb2 y))]) (fun C hl w => lv_istore_n C.1 C.2.1 dJ6_bitCount_0f7a4_23 rfl hl (by decide) rfl w) ?_
  generalize zb2 y = y at hE
  refine zG_st (fun C hP hS hl w => lv_iload_n C.1 C.2.1 dJ6_bitCount_0f7a4_24 rfl (lv_at hl 0 rfl) w) ?_
  refine zG_st (fun C hP hS hl w => lv_iload_n C.1 C.2.1 dJ6_bitCount_0f7a4_25 rfl (lv_at hl 0 rfl) w) ?_
  refine zG_st (fun C hP hS hl w => lv_iconst C.1 C.2.1 dJ6_bitCount_0f7a4_26 (v := 4) (by decide) w) ?_
  refine zG_st (fun C hP hS hl w => lv_iushr C.1 C.2.1 dJ6_bitCount_0f7a4_27 rfl w) ?_
  refine zG_st (fun C hP hS hl w => lv_iadd C.1 C.2.1 dJ6_bitCount_0f7a4_28 w) ?_
  refine zG_st (fun C hP hS hl w => lv_ldcw C.1 C.2.1 C.2.2.2.1 (C.2.2.2.2.1 _ kJ_b267) dJ6_bitCount_0f7a4_29 w) ?_
  refine zG_st (fun C hP hS hl w => lv_iand C.1 C.2.1 dJ6_bitCount_0f7a4_32 w) ?_
  refine zG_sl (lv' := [(0, .int (zb3 y))]) (fun C hl w => lv_istore_n C.1 C.2.1 dJ6_bitCount_0f7a4_33 rfl hl (by decide) rfl w) ?_
  generalize zb3 y = y at hE
  refine zG_st (fun C hP hS hl w => lv_iload_n C.1 C.2.1 dJ6_bitCount_0f7a4_34 rfl (lv_at hl 0 rfl) w) ?_
  refine zG_st (fun C hP hS hl w => lv_iload_n C.1 C.2.1 dJ6_bitCount_0f7a4_35 rfl (lv_at hl 0 rfl) w) ?_
  refine zG_st (fun C hP hS hl w => lv_bipush C.1 C.2.1 dJ6_bitCount_0f7a4_36 (v := 8) (by decide) w) ?_
  refine zG_st (fun C hP hS hl w => lv_iushr C.1 C.2.1 dJ6_bitCount_0f7a4_38 rfl w) ?_
  refine zG_st (fun C hP hS hl w => lv_iadd C.1 C.2.1 dJ6_bitCount_0f7a4_39 w) ?_
  refine zG_sl (lv' := [(0, .int (zb4 y))]) (fun C hl w => lv_istore_n C.1 C.2.1 dJ6_bitCount_0f7a4_40 rfl hl (by decide) rfl w) ?_
  generalize zb4 y = y at hE
  refine zG_st (fun C hP hS hl w => lv_iload_n C.1 C.2.1 dJ6_bitCount_0f7a4_41 rfl (lv_at hl 0 rfl) w) ?_
  refine zG_st (fun C hP hS hl w => lv_iload_n C.1 C.2.1 dJ6_bitCount_0f7a4_42 rfl (lv_at hl 0 rfl) w) ?_
  refine zG_st (fun C hP hS hl w => lv_bipush C.1 C.2.1 dJ6_bitCount_0f7a4_43 (v := 16) (by decide) w) ?_
  refine zG_st (fun C hP hS hl w => lv_iushr C.1 C.2.1 dJ6_bitCount_0f7a4_45 rfl w) ?_
  refine zG_st (fun C hP hS hl w => lv_iadd C.1 C.2.1 dJ6_bitCount_0f7a4_46 w) ?_
  refine zG_sl (lv' := [(0, .int (zb5 y))]) (fun C hl w => lv_istore_n C.1 C.2.1 dJ6_bitCount_0f7a4_47 rfl hl (by decide) rfl w) ?_
  generalize zb5 y = y at hE
  refine zG_st (fun C hP hS hl w => lv_iload_n C.1 C.2.1 dJ6_bitCount_0f7a4_48 rfl (lv_at hl 0 rfl) w) ?_
  refine zG_st (fun C hP hS hl w => lv_bipush C.1 C.2.1 dJ6_bitCount_0f7a4_49 (v := 63) (by decide) w) ?_
  refine zG_st (fun C hP hS hl w => lv_iand C.1 C.2.1 dJ6_bitCount_0f7a4_51 w) ?_
  rw [hE]
  exact z_iret dJ6_bitCount_0f7a4_52 rfl rfl hR
