/-! THE SMALL CONSTRUCTORS (written by gen_cons.py) -/
section ZRS2
variable {p : Program} {l : Launch} {e : Env} {R0 : Room} {s : State} {m : MethodId} {args : Array Value} {below : List Frame} {meth : Method} {c : Code} {H : Heap} {locs : List Loc} {cells slots : Nat} {Q : State → Prop}
variable {cc : ByteArray} {pc : Nat} {ls : Array Slot} {rest stk : List Value} {D : va_G} {A : Nat → Prop} {cyI cyZ : ClassId} {ws : va_W} {own : String} {nL : Nat}
theorem n_reset (C : nCX own cc nL p s m args c D cyI cyZ A) (hls : ls.size = nL) (hw : nWd D A s ws H locs) {sc sv : Nat → Nat} (hE : zEV sc sv A s s.heap) (pp p1 : Nat) {q0 q1 N K index : Nat} {R : Int} (he0 : ws[pp]? = some (q0, .inr (6, [.ref q1, .int (mI R), .int (mI 1), .int (mI 0)]))) (he1 : ws[p1]? = some (q1, .inl (cyI, N, .inl (fun _ => mI 0)))) (hne : pp ≠ p1) (hR : 0 ≤ R ∧ R ≤ 1000) (hK : N < 1000000 ∧ K ≤ N) (hKR : (K : Int) ≤ R) (hlk : Cond.methodLink own index yX9_reset ∈ zall) (hroom : 2 ≤ R0.frames ∧ 44 ≤ R0.locals) (h8 : (rest.map fun v => v.category).sum = 0) (hd : decode cc pc = .ok (.invokevirtual index, 3)) (hf : cells ≤ R0.cells ∧ slots ≤ R0.slots) (hstk : stk = .int (mI 0) :: .int (mI (K : Int)) :: .ref q0 :: rest)
    (kk : ∀ (H1 : Heap) (locs1 : List Loc), nWd D A s (ws.set pp (q0, .inr (6, [.ref q1, .int (mI R), .int (mI 1), .int (mI (K : Int))]))) H1 locs1 → W p l e R0 s m args below meth c H1 locs1 cells slots Q (F0 m (pc + 3) ls rest)) : W p l e R0 s m args below meth c H locs cells slots Q (F0 m pc ls stk) := by
  obtain ⟨hP, hD, hS⟩ := hw
  have hqq : q0 ≠ q1 := fun h => hne (hD.1 pp p1 _ _ he0 he1 h)
  have hz : ∀ S : Int, zwl (LTb N) (fun i => [q0, q1].getD i 0) cyI cyZ (tbs R 1 S) = [(q0, .inr (6, [.ref q1, .int (mI R), .int (mI 1), .int (mI S)])), (q1, .inl (cyI, N, .inl (fun _ => mI 0)))] := fun _ => rfl
  have hadr : ∀ q, zAA (LTb N) (fun i => [q0, q1].getD i 0) q → q = q0 ∨ q = q1 := by
    rintro q ⟨i, hi, rfl⟩
    have hi : i < 2 := hi
    rcases (show i = 0 ∨ i = 1 by omega) with rfl | rfl
    · exact Or.inl rfl
    · exact Or.inr rfl
  have hPc : va_P D vwCl (zwl (LTb N) (fun i => [q0, q1].getD i 0) cyI cyZ (tbs R 1 0)) H := by
    rw [hz]
    intro k q hk
    match k with
    | 0 => cases hk; exact hP pp _ he0
    | 1 => cases hk; exact hP p1 _ he1
    | k + 2 => cases hk
  refine w_callz (La := LTb N) (ad := fun i => [q0, q1].getD i 0) (i := 0) (sc := sc) (sv := sv) (mem := tbs R 1 0) (As := [.int (mI (K : Int)), .int (mI 0)]) (rest := rest) C.1 C.2.1 hls hE hS ?_ ?_ hPc ?_ (ct_rst hK.1 hR hK.2 hKR) zc_X9 rfl hlk nk_58 (zall_mem (List.mem_append_right _ (List.mem_of_getElem? (i := 59) (by decide +kernel))) rfl) nk_3 nk_60 ⟨by decide +kernel, by decide +kernel, show (parseMethodDescriptor yX9_reset.desc).map (fun d => d.parameters.length) = some 2 by decide +kernel⟩ ⟨rfl, rfl, hroom.1, hroom.2⟩ (by omega) hd hf hstk (fun hrr hM' H1 locs1 hP1 hz1 hk1 hS1 => ?_)
  · intro q hq
    rcases hadr q hq with rfl | rfl
    · exact hD.2 pp _ he0
    · exact hD.2 p1 _ he1
  · intro i j hi hj hij
    have hi : i < 2 := hi
    have hj : j < 2 := hj
    rcases (show i = 0 ∨ i = 1 by omega) with rfl | rfl <;> rcases (show j = 0 ∨ j = 1 by omega) with rfl | rfl
    · rfl
    · exact absurd hij hqq
    · exact absurd hij.symm hqq
    · rfl
  · intro a b
    match a with
    | 0 =>
      show R32 (tv0 R 1 0 b)
      match b with
      | 0 => exact (by decide : R32 0)
      | 1 => show R32 R; omega
      | 2 => exact (by decide : R32 1)
      | 3 => exact (by decide : R32 0)
      | b + 4 => exact (by decide : R32 0)
    | a + 1 => exact (by decide : R32 0)
  · rw [hz] at hP1
    refine kk H1 locs1 ⟨?_, hD.set he0, hS1⟩
    intro k q hk
    by_cases c1 : k = pp
    · subst c1
      rw [List.getElem?_set_self (List.getElem?_eq_some_iff.mp he0).1] at hk
      cases hk
      exact hP1 0 _ rfl
    · rw [List.getElem?_set_ne (Ne.symm c1)] at hk
      by_cases c2 : k = p1
      · subst c2
        rw [he1] at hk
        cases hk
        exact hP1 1 _ rfl
      · refine (hP k q hk).kept (hk1 q.1 (hP k q hk).lt (fun h => ?_))
        rcases hadr _ h with h | h
        · exact c1 (hD.1 k pp _ _ hk he0 h)
        · exact c2 (hD.1 k p1 _ _ hk he1 h)
end ZRS2
abbrev LX30 : List ZKD := [(0, 2, [none, none, none, none, some (some 1), some (some 3), some (some 5), some (some 7), some (some 9), some (some 11)]), (0, 6, [some (some 2), none, none, none]), (1, 56, []), (0, 6, [some (some 4), none, none, none]), (1, 10, []), (0, 6, [some (some 6), none, none, none]), (1, 30, []), (0, 6, [some (some 8), none, none, none]), (1, 3, []), (0, 6, [some (some 10), none, none, none]), (1, 5, []), (0, 6, [some (some 12), none, none, none]), (1, 20, [])]
abbrev M_X3_init : ZMI := (RX3, cX3_init, 1, none, 0, { frames := 2, cells := 12, slots := 148, locals := 44 })
set_option maxRecDepth 20000 in
set_option maxHeartbeats 4000000 in
theorem ct_X3_init : nCT yX3_init M_X3_init 2 [.int (mI 0), .int (mI 0), .int (mI 0), .int (mI 0), .null, .null, .null, .null, .null, .null] [] LX30 kx0 nTT := by
  refine nCT_of (lv := fun h0 => [(0, .ref h0)]) (by decide +kernel) rfl rfl (fun _ => Nat.le_of_ble_eq_true rfl) (fun _ => rfl) ?_
  intro p l e s m args below meth c D cyI cyZ sc sv h0 A ls C hr hlk hin hE hX hw hl
  have hx := C.1.1
  have hb := C.1.2.1
  refine lv_aload_n hx hb dX3_init_0 rfl (lv_at hl 0 rfl) ?_
  refine n_obj C hl.1 nk_33 dX3_init_1 (Nat.le_of_ble_eq_true rfl) (Nat.le_of_ble_eq_true rfl) ?_
  refine lv_aload_n hx hb dX3_init_4 rfl (lv_at hl 0 rfl) ?_
  refine lv_bipush (v := mI 6) hx hb dX3_init_5 (by decide +kernel) ?_
  refine n_put (k := 0) C hw 0 zc_X3 rfl (by decide) rfl rfl rfl (Nat.le_of_ble_eq_true rfl) nk_64 dX3_init_7 (fun H locs hw => ?_)
  have hw : nWd D A s [(h0, .inr (2, [.int (mI 6), .int (mI 0), .int (mI 0), .int (mI 0), .null, .null, .null, .null, .null, .null]))] H _ := hw
  refine lv_aload_n hx hb dX3_init_10 rfl (lv_at hl 0 rfl) ?_
  refine lv_iconst (v := mI 4) hx hb dX3_init_11 rfl ?_
  refine n_put (k := 1) C hw 0 zc_X3 rfl (by decide) rfl rfl rfl (Nat.le_of_ble_eq_true rfl) nk_70 dX3_init_12 (fun H locs hw => ?_)
  have hw : nWd D A s [(h0, .inr (2, [.int (mI 6), .int (mI 4), .int (mI 0), .int (mI 0), .null, .null, .null, .null, .null, .null]))] H _ := hw
  refine lv_aload_n hx hb dX3_init_15 rfl (lv_at hl 0 rfl) ?_
  refine lv_bipush (v := mI 120) hx hb dX3_init_16 (by decide +kernel) ?_
  refine n_put (k := 2) C hw 0 zc_X3 rfl (by decide) rfl rfl rfl (Nat.le_of_ble_eq_true rfl) nk_75 dX3_init_18 (fun H locs hw => ?_)
  have hw : nWd D A s [(h0, .inr (2, [.int (mI 6), .int (mI 4), .int (mI 120), .int (mI 0), .null, .null, .null, .null, .null, .null]))] H _ := hw
  refine lv_aload_n hx hb dX3_init_21 rfl (lv_at hl 0 rfl) ?_
  refine lv_bipush (v := mI 30) hx hb dX3_init_22 (by decide +kernel) ?_
  refine n_put (k := 3) C hw 0 zc_X3 rfl (by decide) rfl rfl rfl (Nat.le_of_ble_eq_true rfl) nk_77 dX3_init_24 (fun H locs hw => ?_)
  have hw : nWd D A s [(h0, .inr (2, [.int (mI 6), .int (mI 4), .int (mI 120), .int (mI 30), .null, .null, .null, .null, .null, .null]))] H _ := hw
  refine lv_aload_n hx hb dX3_init_27 rfl (lv_at hl 0 rfl) ?_
  refine n_new C hw (fs := [.null, .int (mI 0), .int (mI 0), .int (mI 0)]) zc_X9 (fun j hj => by rcases (show j = 0 ∨ j = 1 ∨ j = 2 ∨ j = 3 by omega) with rfl | rfl | rfl | rfl <;> rfl) nk_34 nk_35 nk_3 dX3_init_28 (Nat.le_of_ble_eq_true rfl) (Nat.le_of_ble_eq_true rfl) (fun q28 H hw => ?_)
  have hw : nWd D A s [(h0, .inr (2, [.int (mI 6), .int (mI 4), .int (mI 120), .int (mI 30), .null, .null, .null, .null, .null, .null])), (q28, .inr (6, [.null, .int (mI 0), .int (mI 0), .int (mI 0)]))] H _ := hw
  refine lv_dup hx hb dX3_init_31 rfl ?_
  refine lv_bipush (v := mI 8) hx hb dX3_init_32 (by decide +kernel) ?_
  refine lv_bipush (v := mI 7) hx hb dX3_init_34 (by decide +kernel) ?_
  refine n_call (wr := [(h0, .inr (2, [.int (mI 6), .int (mI 4), .int (mI 120), .int (mI 30), .null, .null, .null, .null, .null, .null]))]) (a := q28) (rest := [.ref q28, .ref h0]) C hl.1 hw hE trivial nTT_ok (ct_X9_init 8 7 56 (by decide) rfl) nk_36 nk_37 nk_3 nk_38 rfl rfl ⟨by decide +kernel, by decide +kernel, by decide +kernel⟩ ⟨(Nat.le_of_ble_eq_true rfl), (Nat.le_of_ble_eq_true rfl)⟩ (Nat.le_of_ble_eq_true rfl) dX3_init_36 ⟨(Nat.le_of_ble_eq_true rfl), (Nat.le_of_ble_eq_true rfl)⟩ rfl (fun g36 H locs e36 hw9 => ?_)
  subst e36
  have hw : nWd D A s [(h0, .inr (2, [.int (mI 6), .int (mI 4), .int (mI 120), .int (mI 30), .null, .null, .null, .null, .null, .null])), ((g36 0), .inr (6, [.ref (g36 1), .int (mI 8), .int (mI 7), .int (mI 0)])), ((g36 1), .inl (cyI, 56, .inl (fun _ => mI 0)))] H _ := hw9
  refine n_putF (k := 4) C hin hw 0 zc_X3 rfl (by decide) rfl rfl rfl rfl (Nat.le_of_ble_eq_true rfl) nk_80 dX3_init_39 (fun H locs hw => ?_)
  have hw : nWd D A s [(h0, .inr (2, [.int (mI 6), .int (mI 4), .int (mI 120), .int (mI 30), .ref (g36 0), .null, .null, .null, .null, .null])), ((g36 0), .inr (6, [.ref (g36 1), .int (mI 8), .int (mI 7), .int (mI 0)])), ((g36 1), .inl (cyI, 56, .inl (fun _ => mI 0)))] H _ := hw
  refine lv_aload_n hx hb dX3_init_42 rfl (lv_at hl 0 rfl) ?_
  refine n_new C hw (fs := [.null, .int (mI 0), .int (mI 0), .int (mI 0)]) zc_X9 (fun j hj => by rcases (show j = 0 ∨ j = 1 ∨ j = 2 ∨ j = 3 by omega) with rfl | rfl | rfl | rfl <;> rfl) nk_34 nk_35 nk_3 dX3_init_43 (Nat.le_of_ble_eq_true rfl) (Nat.le_of_ble_eq_true rfl) (fun q43 H hw => ?_)
  have hw : nWd D A s [(h0, .inr (2, [.int (mI 6), .int (mI 4), .int (mI 120), .int (mI 30), .ref (g36 0), .null, .null, .null, .null, .null])), ((g36 0), .inr (6, [.ref (g36 1), .int (mI 8), .int (mI 7), .int (mI 0)])), ((g36 1), .inl (cyI, 56, .inl (fun _ => mI 0))), (q43, .inr (6, [.null, .int (mI 0), .int (mI 0), .int (mI 0)]))] H _ := hw
  refine lv_dup hx hb dX3_init_46 rfl ?_
  refine lv_iconst (v := mI 5) hx hb dX3_init_47 rfl ?_
  refine lv_iconst (v := mI 2) hx hb dX3_init_48 rfl ?_
  refine n_call (wr := [(h0, .inr (2, [.int (mI 6), .int (mI 4), .int (mI 120), .int (mI 30), .ref (g36 0), .null, .null, .null, .null, .null])), ((g36 0), .inr (6, [.ref (g36 1), .int (mI 8), .int (mI 7), .int (mI 0)])), ((g36 1), .inl (cyI, 56, .inl (fun _ => mI 0)))]) (a := q43) (rest := [.ref q43, .ref h0]) C hl.1 hw hE trivial nTT_ok (ct_X9_init 5 2 10 (by decide) rfl) nk_36 nk_37 nk_3 nk_38 rfl rfl ⟨by decide +kernel, by decide +kernel, by decide +kernel⟩ ⟨(Nat.le_of_ble_eq_true rfl), (Nat.le_of_ble_eq_true rfl)⟩ (Nat.le_of_ble_eq_true rfl) dX3_init_49 ⟨(Nat.le_of_ble_eq_true rfl), (Nat.le_of_ble_eq_true rfl)⟩ rfl (fun g49 H locs e49 hw9 => ?_)
  subst e49
  have hw : nWd D A s [(h0, .inr (2, [.int (mI 6), .int (mI 4), .int (mI 120), .int (mI 30), .ref (g36 0), .null, .null, .null, .null, .null])), ((g36 0), .inr (6, [.ref (g36 1), .int (mI 8), .int (mI 7), .int (mI 0)])), ((g36 1), .inl (cyI, 56, .inl (fun _ => mI 0))), ((g49 0), .inr (6, [.ref (g49 1), .int (mI 5), .int (mI 2), .int (mI 0)])), ((g49 1), .inl (cyI, 10, .inl (fun _ => mI 0)))] H _ := hw9
  refine n_putF (k := 5) C hin hw 0 zc_X3 rfl (by decide) rfl rfl rfl rfl (Nat.le_of_ble_eq_true rfl) nk_86 dX3_init_52 (fun H locs hw => ?_)
  have hw : nWd D A s [(h0, .inr (2, [.int (mI 6), .int (mI 4), .int (mI 120), .int (mI 30), .ref (g36 0), .ref (g49 0), .null, .null, .null, .null])), ((g36 0), .inr (6, [.ref (g36 1), .int (mI 8), .int (mI 7), .int (mI 0)])), ((g36 1), .inl (cyI, 56, .inl (fun _ => mI 0))), ((g49 0), .inr (6, [.ref (g49 1), .int (mI 5), .int (mI 2), .int (mI 0)])), ((g49 1), .inl (cyI, 10, .inl (fun _ => mI 0)))] H _ := hw
  refine lv_aload_n hx hb dX3_init_55 rfl (lv_at hl 0 rfl) ?_
  refine n_new C hw (fs := [.null, .int (mI 0), .int (mI 0), .int (mI 0)]) zc_X9 (fun j hj => by rcases (show j = 0 ∨ j = 1 ∨ j = 2 ∨ j = 3 by omega) with rfl | rfl | rfl | rfl <;> rfl) nk_34 nk_35 nk_3 dX3_init_56 (Nat.le_of_ble_eq_true rfl) (Nat.le_of_ble_eq_true rfl) (fun q56 H hw => ?_)
  have hw : nWd D A s [(h0, .inr (2, [.int (mI 6), .int (mI 4), .int (mI 120), .int (mI 30), .ref (g36 0), .ref (g49 0), .null, .null, .null, .null])), ((g36 0), .inr (6, [.ref (g36 1), .int (mI 8), .int (mI 7), .int (mI 0)])), ((g36 1), .inl (cyI, 56, .inl (fun _ => mI 0))), ((g49 0), .inr (6, [.ref (g49 1), .int (mI 5), .int (mI 2), .int (mI 0)])), ((g49 1), .inl (cyI, 10, .inl (fun _ => mI 0))), (q56, .inr (6, [.null, .int (mI 0), .int (mI 0), .int (mI 0)]))] H _ := hw
  refine lv_dup hx hb dX3_init_59 rfl ?_
  refine lv_bipush (v := mI 6) hx hb dX3_init_60 (by decide +kernel) ?_
  refine lv_iconst (v := mI 5) hx hb dX3_init_62 rfl ?_
  refine n_call (wr := [(h0, .inr (2, [.int (mI 6), .int (mI 4), .int (mI 120), .int (mI 30), .ref (g36 0), .ref (g49 0), .null, .null, .null, .null])), ((g36 0), .inr (6, [.ref (g36 1), .int (mI 8), .int (mI 7), .int (mI 0)])), ((g36 1), .inl (cyI, 56, .inl (fun _ => mI 0))), ((g49 0), .inr (6, [.ref (g49 1), .int (mI 5), .int (mI 2), .int (mI 0)])), ((g49 1), .inl (cyI, 10, .inl (fun _ => mI 0)))]) (a := q56) (rest := [.ref q56, .ref h0]) C hl.1 hw hE trivial nTT_ok (ct_X9_init 6 5 30 (by decide) rfl) nk_36 nk_37 nk_3 nk_38 rfl rfl ⟨by decide +kernel, by decide +kernel, by decide +kernel⟩ ⟨(Nat.le_of_ble_eq_true rfl), (Nat.le_of_ble_eq_true rfl)⟩ (Nat.le_of_ble_eq_true rfl) dX3_init_63 ⟨(Nat.le_of_ble_eq_true rfl), (Nat.le_of_ble_eq_true rfl)⟩ rfl (fun g63 H locs e63 hw9 => ?_)
  subst e63
  have hw : nWd D A s [(h0, .inr (2, [.int (mI 6), .int (mI 4), .int (mI 120), .int (mI 30), .ref (g36 0), .ref (g49 0), .null, .null, .null, .null])), ((g36 0), .inr (6, [.ref (g36 1), .int (mI 8), .int (mI 7), .int (mI 0)])), ((g36 1), .inl (cyI, 56, .inl (fun _ => mI 0))), ((g49 0), .inr (6, [.ref (g49 1), .int (mI 5), .int (mI 2), .int (mI 0)])), ((g49 1), .inl (cyI, 10, .inl (fun _ => mI 0))), ((g63 0), .inr (6, [.ref (g63 1), .int (mI 6), .int (mI 5), .int (mI 0)])), ((g63 1), .inl (cyI, 30, .inl (fun _ => mI 0)))] H _ := hw9
  refine n_putF (k := 6) C hin hw 0 zc_X3 rfl (by decide) rfl rfl rfl rfl (Nat.le_of_ble_eq_true rfl) nk_90 dX3_init_66 (fun H locs hw => ?_)
  have hw : nWd D A s [(h0, .inr (2, [.int (mI 6), .int (mI 4), .int (mI 120), .int (mI 30), .ref (g36 0), .ref (g49 0), .ref (g63 0), .null, .null, .null])), ((g36 0), .inr (6, [.ref (g36 1), .int (mI 8), .int (mI 7), .int (mI 0)])), ((g36 1), .inl (cyI, 56, .inl (fun _ => mI 0))), ((g49 0), .inr (6, [.ref (g49 1), .int (mI 5), .int (mI 2), .int (mI 0)])), ((g49 1), .inl (cyI, 10, .inl (fun _ => mI 0))), ((g63 0), .inr (6, [.ref (g63 1), .int (mI 6), .int (mI 5), .int (mI 0)])), ((g63 1), .inl (cyI, 30, .inl (fun _ => mI 0)))] H _ := hw
  refine lv_aload_n hx hb dX3_init_69 rfl (lv_at hl 0 rfl) ?_
  refine n_new C hw (fs := [.null, .int (mI 0), .int (mI 0), .int (mI 0)]) zc_X9 (fun j hj => by rcases (show j = 0 ∨ j = 1 ∨ j = 2 ∨ j = 3 by omega) with rfl | rfl | rfl | rfl <;> rfl) nk_34 nk_35 nk_3 dX3_init_70 (Nat.le_of_ble_eq_true rfl) (Nat.le_of_ble_eq_true rfl) (fun q70 H hw => ?_)
  have hw : nWd D A s [(h0, .inr (2, [.int (mI 6), .int (mI 4), .int (mI 120), .int (mI 30), .ref (g36 0), .ref (g49 0), .ref (g63 0), .null, .null, .null])), ((g36 0), .inr (6, [.ref (g36 1), .int (mI 8), .int (mI 7), .int (mI 0)])), ((g36 1), .inl (cyI, 56, .inl (fun _ => mI 0))), ((g49 0), .inr (6, [.ref (g49 1), .int (mI 5), .int (mI 2), .int (mI 0)])), ((g49 1), .inl (cyI, 10, .inl (fun _ => mI 0))), ((g63 0), .inr (6, [.ref (g63 1), .int (mI 6), .int (mI 5), .int (mI 0)])), ((g63 1), .inl (cyI, 30, .inl (fun _ => mI 0))), (q70, .inr (6, [.null, .int (mI 0), .int (mI 0), .int (mI 0)]))] H _ := hw
  refine lv_dup hx hb dX3_init_73 rfl ?_
  refine lv_iconst (v := mI 3) hx hb dX3_init_74 rfl ?_
  refine lv_iconst (v := mI 1) hx hb dX3_init_75 rfl ?_
  refine n_call (wr := [(h0, .inr (2, [.int (mI 6), .int (mI 4), .int (mI 120), .int (mI 30), .ref (g36 0), .ref (g49 0), .ref (g63 0), .null, .null, .null])), ((g36 0), .inr (6, [.ref (g36 1), .int (mI 8), .int (mI 7), .int (mI 0)])), ((g36 1), .inl (cyI, 56, .inl (fun _ => mI 0))), ((g49 0), .inr (6, [.ref (g49 1), .int (mI 5), .int (mI 2), .int (mI 0)])), ((g49 1), .inl (cyI, 10, .inl (fun _ => mI 0))), ((g63 0), .inr (6, [.ref (g63 1), .int (mI 6), .int (mI 5), .int (mI 0)])), ((g63 1), .inl (cyI, 30, .inl (fun _ => mI 0)))]) (a := q70) (rest := [.ref q70, .ref h0]) C hl.1 hw hE trivial nTT_ok (ct_X9_init 3 1 3 (by decide) rfl) nk_36 nk_37 nk_3 nk_38 rfl rfl ⟨by decide +kernel, by decide +kernel, by decide +kernel⟩ ⟨(Nat.le_of_ble_eq_true rfl), (Nat.le_of_ble_eq_true rfl)⟩ (Nat.le_of_ble_eq_true rfl) dX3_init_76 ⟨(Nat.le_of_ble_eq_true rfl), (Nat.le_of_ble_eq_true rfl)⟩ rfl (fun g76 H locs e76 hw9 => ?_)
  subst e76
  have hw : nWd D A s [(h0, .inr (2, [.int (mI 6), .int (mI 4), .int (mI 120), .int (mI 30), .ref (g36 0), .ref (g49 0), .ref (g63 0), .null, .null, .null])), ((g36 0), .inr (6, [.ref (g36 1), .int (mI 8), .int (mI 7), .int (mI 0)])), ((g36 1), .inl (cyI, 56, .inl (fun _ => mI 0))), ((g49 0), .inr (6, [.ref (g49 1), .int (mI 5), .int (mI 2), .int (mI 0)])), ((g49 1), .inl (cyI, 10, .inl (fun _ => mI 0))), ((g63 0), .inr (6, [.ref (g63 1), .int (mI 6), .int (mI 5), .int (mI 0)])), ((g63 1), .inl (cyI, 30, .inl (fun _ => mI 0))), ((g76 0), .inr (6, [.ref (g76 1), .int (mI 3), .int (mI 1), .int (mI 0)])), ((g76 1), .inl (cyI, 3, .inl (fun _ => mI 0)))] H _ := hw9
  refine n_putF (k := 7) C hin hw 0 zc_X3 rfl (by decide) rfl rfl rfl rfl (Nat.le_of_ble_eq_true rfl) nk_94 dX3_init_79 (fun H locs hw => ?_)
  have hw : nWd D A s [(h0, .inr (2, [.int (mI 6), .int (mI 4), .int (mI 120), .int (mI 30), .ref (g36 0), .ref (g49 0), .ref (g63 0), .ref (g76 0), .null, .null])), ((g36 0), .inr (6, [.ref (g36 1), .int (mI 8), .int (mI 7), .int (mI 0)])), ((g36 1), .inl (cyI, 56, .inl (fun _ => mI 0))), ((g49 0), .inr (6, [.ref (g49 1), .int (mI 5), .int (mI 2), .int (mI 0)])), ((g49 1), .inl (cyI, 10, .inl (fun _ => mI 0))), ((g63 0), .inr (6, [.ref (g63 1), .int (mI 6), .int (mI 5), .int (mI 0)])), ((g63 1), .inl (cyI, 30, .inl (fun _ => mI 0))), ((g76 0), .inr (6, [.ref (g76 1), .int (mI 3), .int (mI 1), .int (mI 0)])), ((g76 1), .inl (cyI, 3, .inl (fun _ => mI 0)))] H _ := hw
  refine lv_aload_n hx hb dX3_init_82 rfl (lv_at hl 0 rfl) ?_
  refine n_new C hw (fs := [.null, .int (mI 0), .int (mI 0), .int (mI 0)]) zc_X9 (fun j hj => by rcases (show j = 0 ∨ j = 1 ∨ j = 2 ∨ j = 3 by omega) with rfl | rfl | rfl | rfl <;> rfl) nk_34 nk_35 nk_3 dX3_init_83 (Nat.le_of_ble_eq_true rfl) (Nat.le_of_ble_eq_true rfl) (fun q83 H hw => ?_)
  have hw : nWd D A s [(h0, .inr (2, [.int (mI 6), .int (mI 4), .int (mI 120), .int (mI 30), .ref (g36 0), .ref (g49 0), .ref (g63 0), .ref (g76 0), .null, .null])), ((g36 0), .inr (6, [.ref (g36 1), .int (mI 8), .int (mI 7), .int (mI 0)])), ((g36 1), .inl (cyI, 56, .inl (fun _ => mI 0))), ((g49 0), .inr (6, [.ref (g49 1), .int (mI 5), .int (mI 2), .int (mI 0)])), ((g49 1), .inl (cyI, 10, .inl (fun _ => mI 0))), ((g63 0), .inr (6, [.ref (g63 1), .int (mI 6), .int (mI 5), .int (mI 0)])), ((g63 1), .inl (cyI, 30, .inl (fun _ => mI 0))), ((g76 0), .inr (6, [.ref (g76 1), .int (mI 3), .int (mI 1), .int (mI 0)])), ((g76 1), .inl (cyI, 3, .inl (fun _ => mI 0))), (q83, .inr (6, [.null, .int (mI 0), .int (mI 0), .int (mI 0)]))] H _ := hw
  refine lv_dup hx hb dX3_init_86 rfl ?_
  refine lv_iconst (v := mI 5) hx hb dX3_init_87 rfl ?_
  refine lv_iconst (v := mI 1) hx hb dX3_init_88 rfl ?_
  refine n_call (wr := [(h0, .inr (2, [.int (mI 6), .int (mI 4), .int (mI 120), .int (mI 30), .ref (g36 0), .ref (g49 0), .ref (g63 0), .ref (g76 0), .null, .null])), ((g36 0), .inr (6, [.ref (g36 1), .int (mI 8), .int (mI 7), .int (mI 0)])), ((g36 1), .inl (cyI, 56, .inl (fun _ => mI 0))), ((g49 0), .inr (6, [.ref (g49 1), .int (mI 5), .int (mI 2), .int (mI 0)])), ((g49 1), .inl (cyI, 10, .inl (fun _ => mI 0))), ((g63 0), .inr (6, [.ref (g63 1), .int (mI 6), .int (mI 5), .int (mI 0)])), ((g63 1), .inl (cyI, 30, .inl (fun _ => mI 0))), ((g76 0), .inr (6, [.ref (g76 1), .int (mI 3), .int (mI 1), .int (mI 0)])), ((g76 1), .inl (cyI, 3, .inl (fun _ => mI 0)))]) (a := q83) (rest := [.ref q83, .ref h0]) C hl.1 hw hE trivial nTT_ok (ct_X9_init 5 1 5 (by decide) rfl) nk_36 nk_37 nk_3 nk_38 rfl rfl ⟨by decide +kernel, by decide +kernel, by decide +kernel⟩ ⟨(Nat.le_of_ble_eq_true rfl), (Nat.le_of_ble_eq_true rfl)⟩ (Nat.le_of_ble_eq_true rfl) dX3_init_89 ⟨(Nat.le_of_ble_eq_true rfl), (Nat.le_of_ble_eq_true rfl)⟩ rfl (fun g89 H locs e89 hw9 => ?_)
  subst e89
  have hw : nWd D A s [(h0, .inr (2, [.int (mI 6), .int (mI 4), .int (mI 120), .int (mI 30), .ref (g36 0), .ref (g49 0), .ref (g63 0), .ref (g76 0), .null, .null])), ((g36 0), .inr (6, [.ref (g36 1), .int (mI 8), .int (mI 7), .int (mI 0)])), ((g36 1), .inl (cyI, 56, .inl (fun _ => mI 0))), ((g49 0), .inr (6, [.ref (g49 1), .int (mI 5), .int (mI 2), .int (mI 0)])), ((g49 1), .inl (cyI, 10, .inl (fun _ => mI 0))), ((g63 0), .inr (6, [.ref (g63 1), .int (mI 6), .int (mI 5), .int (mI 0)])), ((g63 1), .inl (cyI, 30, .inl (fun _ => mI 0))), ((g76 0), .inr (6, [.ref (g76 1), .int (mI 3), .int (mI 1), .int (mI 0)])), ((g76 1), .inl (cyI, 3, .inl (fun _ => mI 0))), ((g89 0), .inr (6, [.ref (g89 1), .int (mI 5), .int (mI 1), .int (mI 0)])), ((g89 1), .inl (cyI, 5, .inl (fun _ => mI 0)))] H _ := hw9
  refine n_putF (k := 8) C hin hw 0 zc_X3 rfl (by decide) rfl rfl rfl rfl (Nat.le_of_ble_eq_true rfl) nk_97 dX3_init_92 (fun H locs hw => ?_)
  have hw : nWd D A s [(h0, .inr (2, [.int (mI 6), .int (mI 4), .int (mI 120), .int (mI 30), .ref (g36 0), .ref (g49 0), .ref (g63 0), .ref (g76 0), .ref (g89 0), .null])), ((g36 0), .inr (6, [.ref (g36 1), .int (mI 8), .int (mI 7), .int (mI 0)])), ((g36 1), .inl (cyI, 56, .inl (fun _ => mI 0))), ((g49 0), .inr (6, [.ref (g49 1), .int (mI 5), .int (mI 2), .int (mI 0)])), ((g49 1), .inl (cyI, 10, .inl (fun _ => mI 0))), ((g63 0), .inr (6, [.ref (g63 1), .int (mI 6), .int (mI 5), .int (mI 0)])), ((g63 1), .inl (cyI, 30, .inl (fun _ => mI 0))), ((g76 0), .inr (6, [.ref (g76 1), .int (mI 3), .int (mI 1), .int (mI 0)])), ((g76 1), .inl (cyI, 3, .inl (fun _ => mI 0))), ((g89 0), .inr (6, [.ref (g89 1), .int (mI 5), .int (mI 1), .int (mI 0)])), ((g89 1), .inl (cyI, 5, .inl (fun _ => mI 0)))] H _ := hw
  refine lv_aload_n hx hb dX3_init_95 rfl (lv_at hl 0 rfl) ?_
  refine n_new C hw (fs := [.null, .int (mI 0), .int (mI 0), .int (mI 0)]) zc_X9 (fun j hj => by rcases (show j = 0 ∨ j = 1 ∨ j = 2 ∨ j = 3 by omega) with rfl | rfl | rfl | rfl <;> rfl) nk_34 nk_35 nk_3 dX3_init_96 (Nat.le_of_ble_eq_true rfl) (Nat.le_of_ble_eq_true rfl) (fun q96 H hw => ?_)
  have hw : nWd D A s [(h0, .inr (2, [.int (mI 6), .int (mI 4), .int (mI 120), .int (mI 30), .ref (g36 0), .ref (g49 0), .ref (g63 0), .ref (g76 0), .ref (g89 0), .null])), ((g36 0), .inr (6, [.ref (g36 1), .int (mI 8), .int (mI 7), .int (mI 0)])), ((g36 1), .inl (cyI, 56, .inl (fun _ => mI 0))), ((g49 0), .inr (6, [.ref (g49 1), .int (mI 5), .int (mI 2), .int (mI 0)])), ((g49 1), .inl (cyI, 10, .inl (fun _ => mI 0))), ((g63 0), .inr (6, [.ref (g63 1), .int (mI 6), .int (mI 5), .int (mI 0)])), ((g63 1), .inl (cyI, 30, .inl (fun _ => mI 0))), ((g76 0), .inr (6, [.ref (g76 1), .int (mI 3), .int (mI 1), .int (mI 0)])), ((g76 1), .inl (cyI, 3, .inl (fun _ => mI 0))), ((g89 0), .inr (6, [.ref (g89 1), .int (mI 5), .int (mI 1), .int (mI 0)])), ((g89 1), .inl (cyI, 5, .inl (fun _ => mI 0))), (q96, .inr (6, [.null, .int (mI 0), .int (mI 0), .int (mI 0)]))] H _ := hw
  refine lv_dup hx hb dX3_init_99 rfl ?_
  refine lv_iconst (v := mI 4) hx hb dX3_init_100 rfl ?_
  refine lv_iconst (v := mI 5) hx hb dX3_init_101 rfl ?_
  refine n_call (wr := [(h0, .inr (2, [.int (mI 6), .int (mI 4), .int (mI 120), .int (mI 30), .ref (g36 0), .ref (g49 0), .ref (g63 0), .ref (g76 0), .ref (g89 0), .null])), ((g36 0), .inr (6, [.ref (g36 1), .int (mI 8), .int (mI 7), .int (mI 0)])), ((g36 1), .inl (cyI, 56, .inl (fun _ => mI 0))), ((g49 0), .inr (6, [.ref (g49 1), .int (mI 5), .int (mI 2), .int (mI 0)])), ((g49 1), .inl (cyI, 10, .inl (fun _ => mI 0))), ((g63 0), .inr (6, [.ref (g63 1), .int (mI 6), .int (mI 5), .int (mI 0)])), ((g63 1), .inl (cyI, 30, .inl (fun _ => mI 0))), ((g76 0), .inr (6, [.ref (g76 1), .int (mI 3), .int (mI 1), .int (mI 0)])), ((g76 1), .inl (cyI, 3, .inl (fun _ => mI 0))), ((g89 0), .inr (6, [.ref (g89 1), .int (mI 5), .int (mI 1), .int (mI 0)])), ((g89 1), .inl (cyI, 5, .inl (fun _ => mI 0)))]) (a := q96) (rest := [.ref q96, .ref h0]) C hl.1 hw hE trivial nTT_ok (ct_X9_init 4 5 20 (by decide) rfl) nk_36 nk_37 nk_3 nk_38 rfl rfl ⟨by decide +kernel, by decide +kernel, by decide +kernel⟩ ⟨(Nat.le_of_ble_eq_true rfl), (Nat.le_of_ble_eq_true rfl)⟩ (Nat.le_of_ble_eq_true rfl) dX3_init_102 ⟨(Nat.le_of_ble_eq_true rfl), (Nat.le_of_ble_eq_true rfl)⟩ rfl (fun g102 H locs e102 hw9 => ?_)
  subst e102
  have hw : nWd D A s [(h0, .inr (2, [.int (mI 6), .int (mI 4), .int (mI 120), .int (mI 30), .ref (g36 0), .ref (g49 0), .ref (g63 0), .ref (g76 0), .ref (g89 0), .null])), ((g36 0), .inr (6, [.ref (g36 1), .int (mI 8), .int (mI 7), .int (mI 0)])), ((g36 1), .inl (cyI, 56, .inl (fun _ => mI 0))), ((g49 0), .inr (6, [.ref (g49 1), .int (mI 5), .int (mI 2), .int (mI 0)])), ((g49 1), .inl (cyI, 10, .inl (fun _ => mI 0))), ((g63 0), .inr (6, [.ref (g63 1), .int (mI 6), .int (mI 5), .int (mI 0)])), ((g63 1), .inl (cyI, 30, .inl (fun _ => mI 0))), ((g76 0), .inr (6, [.ref (g76 1), .int (mI 3), .int (mI 1), .int (mI 0)])), ((g76 1), .inl (cyI, 3, .inl (fun _ => mI 0))), ((g89 0), .inr (6, [.ref (g89 1), .int (mI 5), .int (mI 1), .int (mI 0)])), ((g89 1), .inl (cyI, 5, .inl (fun _ => mI 0))), ((g102 0), .inr (6, [.ref (g102 1), .int (mI 4), .int (mI 5), .int (mI 0)])), ((g102 1), .inl (cyI, 20, .inl (fun _ => mI 0)))] H _ := hw9
  refine n_putF (k := 9) C hin hw 0 zc_X3 rfl (by decide) rfl rfl rfl rfl (Nat.le_of_ble_eq_true rfl) nk_99 dX3_init_105 (fun H locs hw => ?_)
  have hw : nWd D A s [(h0, .inr (2, [.int (mI 6), .int (mI 4), .int (mI 120), .int (mI 30), .ref (g36 0), .ref (g49 0), .ref (g63 0), .ref (g76 0), .ref (g89 0), .ref (g102 0)])), ((g36 0), .inr (6, [.ref (g36 1), .int (mI 8), .int (mI 7), .int (mI 0)])), ((g36 1), .inl (cyI, 56, .inl (fun _ => mI 0))), ((g49 0), .inr (6, [.ref (g49 1), .int (mI 5), .int (mI 2), .int (mI 0)])), ((g49 1), .inl (cyI, 10, .inl (fun _ => mI 0))), ((g63 0), .inr (6, [.ref (g63 1), .int (mI 6), .int (mI 5), .int (mI 0)])), ((g63 1), .inl (cyI, 30, .inl (fun _ => mI 0))), ((g76 0), .inr (6, [.ref (g76 1), .int (mI 3), .int (mI 1), .int (mI 0)])), ((g76 1), .inl (cyI, 3, .inl (fun _ => mI 0))), ((g89 0), .inr (6, [.ref (g89 1), .int (mI 5), .int (mI 1), .int (mI 0)])), ((g89 1), .inl (cyI, 5, .inl (fun _ => mI 0))), ((g102 0), .inr (6, [.ref (g102 1), .int (mI 4), .int (mI 5), .int (mI 0)])), ((g102 1), .inl (cyI, 20, .inl (fun _ => mI 0)))] H _ := hw
  refine lv_aload_n hx hb dX3_init_108 rfl (lv_at hl 0 rfl) ?_
  refine n_get (k := 7) C hw 0 zc_X3 rfl (by decide) rfl nk_94 dX3_init_109 ?_
  refine lv_iconst (v := mI 3) hx hb dX3_init_112 rfl ?_
  refine lv_iconst (v := mI 0) hx hb dX3_init_113 rfl ?_
  refine n_reset C hl.1 hw hE 7 8 (N := 3) (R := 3) (K := 3) (rest := []) rfl rfl (by decide) (by decide) (by decide) (by decide) nk_57 ⟨(Nat.le_of_ble_eq_true rfl), (Nat.le_of_ble_eq_true rfl)⟩ rfl dX3_init_114 ⟨(Nat.le_of_ble_eq_true rfl), (Nat.le_of_ble_eq_true rfl)⟩ rfl (fun H locs hw => ?_)
  have hw : nWd D A s [(h0, .inr (2, [.int (mI 6), .int (mI 4), .int (mI 120), .int (mI 30), .ref (g36 0), .ref (g49 0), .ref (g63 0), .ref (g76 0), .ref (g89 0), .ref (g102 0)])), ((g36 0), .inr (6, [.ref (g36 1), .int (mI 8), .int (mI 7), .int (mI 0)])), ((g36 1), .inl (cyI, 56, .inl (fun _ => mI 0))), ((g49 0), .inr (6, [.ref (g49 1), .int (mI 5), .int (mI 2), .int (mI 0)])), ((g49 1), .inl (cyI, 10, .inl (fun _ => mI 0))), ((g63 0), .inr (6, [.ref (g63 1), .int (mI 6), .int (mI 5), .int (mI 0)])), ((g63 1), .inl (cyI, 30, .inl (fun _ => mI 0))), ((g76 0), .inr (6, [.ref (g76 1), .int (mI 3), .int (mI 1), .int (mI 3)])), ((g76 1), .inl (cyI, 3, .inl (fun _ => mI 0))), ((g89 0), .inr (6, [.ref (g89 1), .int (mI 5), .int (mI 1), .int (mI 0)])), ((g89 1), .inl (cyI, 5, .inl (fun _ => mI 0))), ((g102 0), .inr (6, [.ref (g102 1), .int (mI 4), .int (mI 5), .int (mI 0)])), ((g102 1), .inl (cyI, 20, .inl (fun _ => mI 0)))] H _ := hw
  exact n_ret (g := fun i => [h0, (g36 0), (g36 1), (g49 0), (g49 1), (g63 0), (g63 1), (g76 0), (g76 1), (g89 0), (g89 1), (g102 0), (g102 1)].getD i 0) C hr hlk hw rfl dX3_init_117 (Nat.le_of_ble_eq_true rfl) (Nat.le_of_ble_eq_true rfl)
abbrev LX10 : List ZKD := [(0, 1, [some (some 1), some (some 3), none]), (0, 6, [some (some 2), none, none, none]), (1, 96, []), (0, 6, [some (some 4), none, none, none]), (1, 5, [])]
def mmX10 : ZMem := fun i k => match i with
  | 1 => tv0 96 1 0 k
  | 3 => tv0 5 1 0 k
  | _ => 0
abbrev M_X1_init : ZMI := (RX1, cX1_init, 1, none, 0, { frames := 2, cells := 4, slots := 109, locals := 44 })
set_option maxRecDepth 20000 in
set_option maxHeartbeats 4000000 in
theorem ct_X1_init : nCT yX1_init M_X1_init 1 [.null, .null, .int (mI 0)] [] LX10 mmX10 nTT := by
  refine nCT_of (lv := fun h0 => [(0, .ref h0)]) (by decide +kernel) rfl rfl (fun _ => Nat.le_of_ble_eq_true rfl) (fun _ => rfl) ?_
  intro p l e s m args below meth c D cyI cyZ sc sv h0 A ls C hr hlk hin hE hX hw hl
  have hx := C.1.1
  have hb := C.1.2.1
  refine lv_aload_n hx hb dX1_init_0 rfl (lv_at hl 0 rfl) ?_
  refine n_obj C hl.1 nk_128 dX1_init_1 (Nat.le_of_ble_eq_true rfl) (Nat.le_of_ble_eq_true rfl) ?_
  refine lv_aload_n hx hb dX1_init_4 rfl (lv_at hl 0 rfl) ?_
  refine n_new C hw (fs := [.null, .int (mI 0), .int (mI 0), .int (mI 0)]) zc_X9 (fun j hj => by rcases (show j = 0 ∨ j = 1 ∨ j = 2 ∨ j = 3 by omega) with rfl | rfl | rfl | rfl <;> rfl) nk_129 nk_35 nk_3 dX1_init_5 (Nat.le_of_ble_eq_true rfl) (Nat.le_of_ble_eq_true rfl) (fun q5 H hw => ?_)
  have hw : nWd D A s [(h0, .inr (1, [.null, .null, .int (mI 0)])), (q5, .inr (6, [.null, .int (mI 0), .int (mI 0), .int (mI 0)]))] H _ := hw
  refine lv_dup hx hb dX1_init_8 rfl ?_
  refine lv_bipush (v := mI 96) hx hb dX1_init_9 (by decide +kernel) ?_
  refine lv_iconst (v := mI 1) hx hb dX1_init_11 rfl ?_
  refine n_call (wr := [(h0, .inr (1, [.null, .null, .int (mI 0)]))]) (a := q5) (rest := [.ref q5, .ref h0]) C hl.1 hw hE trivial nTT_ok (ct_X9_init 96 1 96 (by decide) rfl) nk_130 nk_37 nk_3 nk_38 rfl rfl ⟨by decide +kernel, by decide +kernel, by decide +kernel⟩ ⟨(Nat.le_of_ble_eq_true rfl), (Nat.le_of_ble_eq_true rfl)⟩ (Nat.le_of_ble_eq_true rfl) dX1_init_12 ⟨(Nat.le_of_ble_eq_true rfl), (Nat.le_of_ble_eq_true rfl)⟩ rfl (fun g12 H locs e12 hw9 => ?_)
  subst e12
  have hw : nWd D A s [(h0, .inr (1, [.null, .null, .int (mI 0)])), ((g12 0), .inr (6, [.ref (g12 1), .int (mI 96), .int (mI 1), .int (mI 0)])), ((g12 1), .inl (cyI, 96, .inl (fun _ => mI 0)))] H _ := hw9
  refine n_putF (k := 0) C hin hw 0 zc_X1 rfl (by decide) rfl rfl rfl rfl (Nat.le_of_ble_eq_true rfl) nk_131 dX1_init_15 (fun H locs hw => ?_)
  have hw : nWd D A s [(h0, .inr (1, [.ref (g12 0), .null, .int (mI 0)])), ((g12 0), .inr (6, [.ref (g12 1), .int (mI 96), .int (mI 1), .int (mI 0)])), ((g12 1), .inl (cyI, 96, .inl (fun _ => mI 0)))] H _ := hw
  refine lv_aload_n hx hb dX1_init_18 rfl (lv_at hl 0 rfl) ?_
  refine n_new C hw (fs := [.null, .int (mI 0), .int (mI 0), .int (mI 0)]) zc_X9 (fun j hj => by rcases (show j = 0 ∨ j = 1 ∨ j = 2 ∨ j = 3 by omega) with rfl | rfl | rfl | rfl <;> rfl) nk_129 nk_35 nk_3 dX1_init_19 (Nat.le_of_ble_eq_true rfl) (Nat.le_of_ble_eq_true rfl) (fun q19 H hw => ?_)
  have hw : nWd D A s [(h0, .inr (1, [.ref (g12 0), .null, .int (mI 0)])), ((g12 0), .inr (6, [.ref (g12 1), .int (mI 96), .int (mI 1), .int (mI 0)])), ((g12 1), .inl (cyI, 96, .inl (fun _ => mI 0))), (q19, .inr (6, [.null, .int (mI 0), .int (mI 0), .int (mI 0)]))] H _ := hw
  refine lv_dup hx hb dX1_init_22 rfl ?_
  refine lv_iconst (v := mI 5) hx hb dX1_init_23 rfl ?_
  refine lv_iconst (v := mI 1) hx hb dX1_init_24 rfl ?_
  refine n_call (wr := [(h0, .inr (1, [.ref (g12 0), .null, .int (mI 0)])), ((g12 0), .inr (6, [.ref (g12 1), .int (mI 96), .int (mI 1), .int (mI 0)])), ((g12 1), .inl (cyI, 96, .inl (fun _ => mI 0)))]) (a := q19) (rest := [.ref q19, .ref h0]) C hl.1 hw hE trivial nTT_ok (ct_X9_init 5 1 5 (by decide) rfl) nk_130 nk_37 nk_3 nk_38 rfl rfl ⟨by decide +kernel, by decide +kernel, by decide +kernel⟩ ⟨(Nat.le_of_ble_eq_true rfl), (Nat.le_of_ble_eq_true rfl)⟩ (Nat.le_of_ble_eq_true rfl) dX1_init_25 ⟨(Nat.le_of_ble_eq_true rfl), (Nat.le_of_ble_eq_true rfl)⟩ rfl (fun g25 H locs e25 hw9 => ?_)
  subst e25
  have hw : nWd D A s [(h0, .inr (1, [.ref (g12 0), .null, .int (mI 0)])), ((g12 0), .inr (6, [.ref (g12 1), .int (mI 96), .int (mI 1), .int (mI 0)])), ((g12 1), .inl (cyI, 96, .inl (fun _ => mI 0))), ((g25 0), .inr (6, [.ref (g25 1), .int (mI 5), .int (mI 1), .int (mI 0)])), ((g25 1), .inl (cyI, 5, .inl (fun _ => mI 0)))] H _ := hw9
  refine n_putF (k := 1) C hin hw 0 zc_X1 rfl (by decide) rfl rfl rfl rfl (Nat.le_of_ble_eq_true rfl) nk_132 dX1_init_28 (fun H locs hw => ?_)
  have hw : nWd D A s [(h0, .inr (1, [.ref (g12 0), .ref (g25 0), .int (mI 0)])), ((g12 0), .inr (6, [.ref (g12 1), .int (mI 96), .int (mI 1), .int (mI 0)])), ((g12 1), .inl (cyI, 96, .inl (fun _ => mI 0))), ((g25 0), .inr (6, [.ref (g25 1), .int (mI 5), .int (mI 1), .int (mI 0)])), ((g25 1), .inl (cyI, 5, .inl (fun _ => mI 0)))] H _ := hw
  refine lv_aload_n hx hb dX1_init_31 rfl (lv_at hl 0 rfl) ?_
  refine lv_iconst (v := mI 0) hx hb dX1_init_32 rfl ?_
  refine n_put (k := 2) C hw 0 zc_X1 rfl (by decide) rfl rfl rfl (Nat.le_of_ble_eq_true rfl) nk_133 dX1_init_33 (fun H locs hw => ?_)
  have hw : nWd D A s [(h0, .inr (1, [.ref (g12 0), .ref (g25 0), .int (mI 0)])), ((g12 0), .inr (6, [.ref (g12 1), .int (mI 96), .int (mI 1), .int (mI 0)])), ((g12 1), .inl (cyI, 96, .inl (fun _ => mI 0))), ((g25 0), .inr (6, [.ref (g25 1), .int (mI 5), .int (mI 1), .int (mI 0)])), ((g25 1), .inl (cyI, 5, .inl (fun _ => mI 0)))] H _ := hw
  exact n_ret (g := fun i => [h0, (g12 0), (g12 1), (g25 0), (g25 1)].getD i 0) C hr hlk hw rfl dX1_init_36 (Nat.le_of_ble_eq_true rfl) (Nat.le_of_ble_eq_true rfl)
abbrev LX70 : List ZKD := [(0, 5, [some (some 1)]), (0, 6, [some (some 2), none, none, none]), (1, 100, [])]
def mmX70 : ZMem := fun i k => match i with
  | 1 => tv0 100 1 0 k
  | _ => 0
abbrev M_X7_init : ZMI := (RX7, cX7_init, 1, none, 0, { frames := 2, cells := 2, slots := 104, locals := 44 })
set_option maxRecDepth 20000 in
set_option maxHeartbeats 4000000 in
theorem ct_X7_init : nCT yX7_init M_X7_init 5 [.null] [] LX70 mmX70 nTT := by
  refine nCT_of (lv := fun h0 => [(0, .ref h0)]) (by decide +kernel) rfl rfl (fun _ => Nat.le_of_ble_eq_true rfl) (fun _ => rfl) ?_
  intro p l e s m args below meth c D cyI cyZ sc sv h0 A ls C hr hlk hin hE hX hw hl
  have hx := C.1.1
  have hb := C.1.2.1
  refine lv_aload_n hx hb dX7_init_0 rfl (lv_at hl 0 rfl) ?_
  refine n_obj C hl.1 nk_148 dX7_init_1 (Nat.le_of_ble_eq_true rfl) (Nat.le_of_ble_eq_true rfl) ?_
  refine lv_aload_n hx hb dX7_init_4 rfl (lv_at hl 0 rfl) ?_
  refine n_new C hw (fs := [.null, .int (mI 0), .int (mI 0), .int (mI 0)]) zc_X9 (fun j hj => by rcases (show j = 0 ∨ j = 1 ∨ j = 2 ∨ j = 3 by omega) with rfl | rfl | rfl | rfl <;> rfl) nk_149 nk_35 nk_3 dX7_init_5 (Nat.le_of_ble_eq_true rfl) (Nat.le_of_ble_eq_true rfl) (fun q5 H hw => ?_)
  have hw : nWd D A s [(h0, .inr (5, [.null])), (q5, .inr (6, [.null, .int (mI 0), .int (mI 0), .int (mI 0)]))] H _ := hw
  refine lv_dup hx hb dX7_init_8 rfl ?_
  refine lv_bipush (v := mI 100) hx hb dX7_init_9 (by decide +kernel) ?_
  refine lv_iconst (v := mI 1) hx hb dX7_init_11 rfl ?_
  refine n_call (wr := [(h0, .inr (5, [.null]))]) (a := q5) (rest := [.ref q5, .ref h0]) C hl.1 hw hE trivial nTT_ok (ct_X9_init 100 1 100 (by decide) rfl) nk_150 nk_37 nk_3 nk_38 rfl rfl ⟨by decide +kernel, by decide +kernel, by decide +kernel⟩ ⟨(Nat.le_of_ble_eq_true rfl), (Nat.le_of_ble_eq_true rfl)⟩ (Nat.le_of_ble_eq_true rfl) dX7_init_12 ⟨(Nat.le_of_ble_eq_true rfl), (Nat.le_of_ble_eq_true rfl)⟩ rfl (fun g12 H locs e12 hw9 => ?_)
  subst e12
  have hw : nWd D A s [(h0, .inr (5, [.null])), ((g12 0), .inr (6, [.ref (g12 1), .int (mI 100), .int (mI 1), .int (mI 0)])), ((g12 1), .inl (cyI, 100, .inl (fun _ => mI 0)))] H _ := hw9
  refine n_putF (k := 0) C hin hw 0 zc_X7 rfl (by decide) rfl rfl rfl rfl (Nat.le_of_ble_eq_true rfl) nk_151 dX7_init_15 (fun H locs hw => ?_)
  have hw : nWd D A s [(h0, .inr (5, [.ref (g12 0)])), ((g12 0), .inr (6, [.ref (g12 1), .int (mI 100), .int (mI 1), .int (mI 0)])), ((g12 1), .inl (cyI, 100, .inl (fun _ => mI 0)))] H _ := hw
  exact n_ret (g := fun i => [h0, (g12 0), (g12 1)].getD i 0) C hr hlk hw rfl dX7_init_18 (Nat.le_of_ble_eq_true rfl) (Nat.le_of_ble_eq_true rfl)
abbrev LX50 : List ZKD := [(0, 4, [some (some 1), some (some 3)]), (0, 6, [some (some 2), none, none, none]), (1, 2197, []), (0, 6, [some (some 4), none, none, none]), (1, 4394, [])]
def mmX50 : ZMem := fun i k => match i with
  | 1 => tv0 2197 1 0 k
  | 3 => tv0 2197 2 0 k
  | _ => 0
abbrev M_X5_init : ZMI := (RX5, cX5_init, 1, none, 0, { frames := 2, cells := 4, slots := 6599, locals := 44 })
set_option maxRecDepth 20000 in
set_option maxHeartbeats 4000000 in
theorem ct_X5_init : nCT yX5_init M_X5_init 4 [.null, .null] [] LX50 mmX50 nTT := by
  refine nCT_of (lv := fun h0 => [(0, .ref h0)]) (by decide +kernel) rfl rfl (fun _ => Nat.le_of_ble_eq_true rfl) (fun _ => rfl) ?_
  intro p l e s m args below meth c D cyI cyZ sc sv h0 A ls C hr hlk hin hE hX hw hl
  have hx := C.1.1
  have hb := C.1.2.1
  refine lv_aload_n hx hb dX5_init_0 rfl (lv_at hl 0 rfl) ?_
  refine n_obj C hl.1 nk_160 dX5_init_1 (Nat.le_of_ble_eq_true rfl) (Nat.le_of_ble_eq_true rfl) ?_
  refine lv_aload_n hx hb dX5_init_4 rfl (lv_at hl 0 rfl) ?_
  refine n_new C hw (fs := [.null, .int (mI 0), .int (mI 0), .int (mI 0)]) zc_X9 (fun j hj => by rcases (show j = 0 ∨ j = 1 ∨ j = 2 ∨ j = 3 by omega) with rfl | rfl | rfl | rfl <;> rfl) nk_161 nk_35 nk_3 dX5_init_5 (Nat.le_of_ble_eq_true rfl) (Nat.le_of_ble_eq_true rfl) (fun q5 H hw => ?_)
  have hw : nWd D A s [(h0, .inr (4, [.null, .null])), (q5, .inr (6, [.null, .int (mI 0), .int (mI 0), .int (mI 0)]))] H _ := hw
  refine lv_dup hx hb dX5_init_8 rfl ?_
  refine lv_sipush (v := mI 2197) hx hb dX5_init_9 (by decide +kernel) ?_
  refine lv_iconst (v := mI 1) hx hb dX5_init_12 rfl ?_
  refine n_call (wr := [(h0, .inr (4, [.null, .null]))]) (a := q5) (rest := [.ref q5, .ref h0]) C hl.1 hw hE trivial nTT_ok (ct_X9_init 2197 1 2197 (by decide) rfl) nk_162 nk_37 nk_3 nk_38 rfl rfl ⟨by decide +kernel, by decide +kernel, by decide +kernel⟩ ⟨(Nat.le_of_ble_eq_true rfl), (Nat.le_of_ble_eq_true rfl)⟩ (Nat.le_of_ble_eq_true rfl) dX5_init_13 ⟨(Nat.le_of_ble_eq_true rfl), (Nat.le_of_ble_eq_true rfl)⟩ rfl (fun g13 H locs e13 hw9 => ?_)
  subst e13
  have hw : nWd D A s [(h0, .inr (4, [.null, .null])), ((g13 0), .inr (6, [.ref (g13 1), .int (mI 2197), .int (mI 1), .int (mI 0)])), ((g13 1), .inl (cyI, 2197, .inl (fun _ => mI 0)))] H _ := hw9
  refine n_putF (k := 0) C hin hw 0 zc_X5 rfl (by decide) rfl rfl rfl rfl (Nat.le_of_ble_eq_true rfl) nk_163 dX5_init_16 (fun H locs hw => ?_)
  have hw : nWd D A s [(h0, .inr (4, [.ref (g13 0), .null])), ((g13 0), .inr (6, [.ref (g13 1), .int (mI 2197), .int (mI 1), .int (mI 0)])), ((g13 1), .inl (cyI, 2197, .inl (fun _ => mI 0)))] H _ := hw
  refine lv_aload_n hx hb dX5_init_19 rfl (lv_at hl 0 rfl) ?_
  refine n_new C hw (fs := [.null, .int (mI 0), .int (mI 0), .int (mI 0)]) zc_X9 (fun j hj => by rcases (show j = 0 ∨ j = 1 ∨ j = 2 ∨ j = 3 by omega) with rfl | rfl | rfl | rfl <;> rfl) nk_161 nk_35 nk_3 dX5_init_20 (Nat.le_of_ble_eq_true rfl) (Nat.le_of_ble_eq_true rfl) (fun q20 H hw => ?_)
  have hw : nWd D A s [(h0, .inr (4, [.ref (g13 0), .null])), ((g13 0), .inr (6, [.ref (g13 1), .int (mI 2197), .int (mI 1), .int (mI 0)])), ((g13 1), .inl (cyI, 2197, .inl (fun _ => mI 0))), (q20, .inr (6, [.null, .int (mI 0), .int (mI 0), .int (mI 0)]))] H _ := hw
  refine lv_dup hx hb dX5_init_23 rfl ?_
  refine lv_sipush (v := mI 2197) hx hb dX5_init_24 (by decide +kernel) ?_
  refine lv_iconst (v := mI 2) hx hb dX5_init_27 rfl ?_
  refine n_call (wr := [(h0, .inr (4, [.ref (g13 0), .null])), ((g13 0), .inr (6, [.ref (g13 1), .int (mI 2197), .int (mI 1), .int (mI 0)])), ((g13 1), .inl (cyI, 2197, .inl (fun _ => mI 0)))]) (a := q20) (rest := [.ref q20, .ref h0]) C hl.1 hw hE trivial nTT_ok (ct_X9_init 2197 2 4394 (by decide) rfl) nk_162 nk_37 nk_3 nk_38 rfl rfl ⟨by decide +kernel, by decide +kernel, by decide +kernel⟩ ⟨(Nat.le_of_ble_eq_true rfl), (Nat.le_of_ble_eq_true rfl)⟩ (Nat.le_of_ble_eq_true rfl) dX5_init_28 ⟨(Nat.le_of_ble_eq_true rfl), (Nat.le_of_ble_eq_true rfl)⟩ rfl (fun g28 H locs e28 hw9 => ?_)
  subst e28
  have hw : nWd D A s [(h0, .inr (4, [.ref (g13 0), .null])), ((g13 0), .inr (6, [.ref (g13 1), .int (mI 2197), .int (mI 1), .int (mI 0)])), ((g13 1), .inl (cyI, 2197, .inl (fun _ => mI 0))), ((g28 0), .inr (6, [.ref (g28 1), .int (mI 2197), .int (mI 2), .int (mI 0)])), ((g28 1), .inl (cyI, 4394, .inl (fun _ => mI 0)))] H _ := hw9
  refine n_putF (k := 1) C hin hw 0 zc_X5 rfl (by decide) rfl rfl rfl rfl (Nat.le_of_ble_eq_true rfl) nk_164 dX5_init_31 (fun H locs hw => ?_)
  have hw : nWd D A s [(h0, .inr (4, [.ref (g13 0), .ref (g28 0)])), ((g13 0), .inr (6, [.ref (g13 1), .int (mI 2197), .int (mI 1), .int (mI 0)])), ((g13 1), .inl (cyI, 2197, .inl (fun _ => mI 0))), ((g28 0), .inr (6, [.ref (g28 1), .int (mI 2197), .int (mI 2), .int (mI 0)])), ((g28 1), .inl (cyI, 4394, .inl (fun _ => mI 0)))] H _ := hw
  exact n_ret (g := fun i => [h0, (g13 0), (g13 1), (g28 0), (g28 1)].getD i 0) C hr hlk hw rfl dX5_init_34 (Nat.le_of_ble_eq_true rfl) (Nat.le_of_ble_eq_true rfl)
abbrev LX00 : List ZKD := [(0, 0, [some (some 1)]), (0, 6, [some (some 2), none, none, none]), (1, 201, [])]
def mmX00 : ZMem := fun i k => match i with
  | 1 => tv0 201 1 0 k
  | _ => 0
abbrev M_X0_init : ZMI := (RX0, cX0_init, 1, none, 0, { frames := 2, cells := 2, slots := 205, locals := 44 })
set_option maxRecDepth 20000 in
set_option maxHeartbeats 4000000 in
theorem ct_X0_init : nCT yX0_init M_X0_init 0 [.null] [] LX00 mmX00 nTT := by
  refine nCT_of (lv := fun h0 => [(0, .ref h0)]) (by decide +kernel) rfl rfl (fun _ => Nat.le_of_ble_eq_true rfl) (fun _ => rfl) ?_
  intro p l e s m args below meth c D cyI cyZ sc sv h0 A ls C hr hlk hin hE hX hw hl
  have hx := C.1.1
  have hb := C.1.2.1
  refine lv_aload_n hx hb dX0_init_0 rfl (lv_at hl 0 rfl) ?_
  refine n_obj C hl.1 nk_175 dX0_init_1 (Nat.le_of_ble_eq_true rfl) (Nat.le_of_ble_eq_true rfl) ?_
  refine lv_aload_n hx hb dX0_init_4 rfl (lv_at hl 0 rfl) ?_
  refine n_new C hw (fs := [.null, .int (mI 0), .int (mI 0), .int (mI 0)]) zc_X9 (fun j hj => by rcases (show j = 0 ∨ j = 1 ∨ j = 2 ∨ j = 3 by omega) with rfl | rfl | rfl | rfl <;> rfl) nk_176 nk_35 nk_3 dX0_init_5 (Nat.le_of_ble_eq_true rfl) (Nat.le_of_ble_eq_true rfl) (fun q5 H hw => ?_)
  have hw : nWd D A s [(h0, .inr (0, [.null])), (q5, .inr (6, [.null, .int (mI 0), .int (mI 0), .int (mI 0)]))] H _ := hw
  refine lv_dup hx hb dX0_init_8 rfl ?_
  refine lv_sipush (v := mI 201) hx hb dX0_init_9 (by decide +kernel) ?_
  refine lv_iconst (v := mI 1) hx hb dX0_init_12 rfl ?_
  refine n_call (wr := [(h0, .inr (0, [.null]))]) (a := q5) (rest := [.ref q5, .ref h0]) C hl.1 hw hE trivial nTT_ok (ct_X9_init 201 1 201 (by decide) rfl) nk_177 nk_37 nk_3 nk_38 rfl rfl ⟨by decide +kernel, by decide +kernel, by decide +kernel⟩ ⟨(Nat.le_of_ble_eq_true rfl), (Nat.le_of_ble_eq_true rfl)⟩ (Nat.le_of_ble_eq_true rfl) dX0_init_13 ⟨(Nat.le_of_ble_eq_true rfl), (Nat.le_of_ble_eq_true rfl)⟩ rfl (fun g13 H locs e13 hw9 => ?_)
  subst e13
  have hw : nWd D A s [(h0, .inr (0, [.null])), ((g13 0), .inr (6, [.ref (g13 1), .int (mI 201), .int (mI 1), .int (mI 0)])), ((g13 1), .inl (cyI, 201, .inl (fun _ => mI 0)))] H _ := hw9
  refine n_putF (k := 0) C hin hw 0 zc_X0 rfl (by decide) rfl rfl rfl rfl (Nat.le_of_ble_eq_true rfl) nk_178 dX0_init_16 (fun H locs hw => ?_)
  have hw : nWd D A s [(h0, .inr (0, [.ref (g13 0)])), ((g13 0), .inr (6, [.ref (g13 1), .int (mI 201), .int (mI 1), .int (mI 0)])), ((g13 1), .inl (cyI, 201, .inl (fun _ => mI 0)))] H _ := hw
  exact n_ret (g := fun i => [h0, (g13 0), (g13 1)].getD i 0) C hr hlk hw rfl dX0_init_19 (Nat.le_of_ble_eq_true rfl) (Nat.le_of_ble_eq_true rfl)
abbrev LX40 : List ZKD := [(0, 3, [some (some 1)]), (0, 6, [some (some 2), none, none, none]), (1, 3, [])]
def mmX40 : ZMem := fun i k => match i with
  | 1 => tv0 3 1 0 k
  | _ => 0
abbrev M_X4_init : ZMI := (RX4, cX4_init, 1, none, 0, { frames := 2, cells := 2, slots := 7, locals := 44 })
set_option maxRecDepth 20000 in
set_option maxHeartbeats 4000000 in
theorem ct_X4_init : nCT yX4_init M_X4_init 3 [.null] [] LX40 mmX40 nTT := by
  refine nCT_of (lv := fun h0 => [(0, .ref h0)]) (by decide +kernel) rfl rfl (fun _ => Nat.le_of_ble_eq_true rfl) (fun _ => rfl) ?_
  intro p l e s m args below meth c D cyI cyZ sc sv h0 A ls C hr hlk hin hE hX hw hl
  have hx := C.1.1
  have hb := C.1.2.1
  refine lv_aload_n hx hb dX4_init_0 rfl (lv_at hl 0 rfl) ?_
  refine n_obj C hl.1 nk_187 dX4_init_1 (Nat.le_of_ble_eq_true rfl) (Nat.le_of_ble_eq_true rfl) ?_
  refine lv_aload_n hx hb dX4_init_4 rfl (lv_at hl 0 rfl) ?_
  refine n_new C hw (fs := [.null, .int (mI 0), .int (mI 0), .int (mI 0)]) zc_X9 (fun j hj => by rcases (show j = 0 ∨ j = 1 ∨ j = 2 ∨ j = 3 by omega) with rfl | rfl | rfl | rfl <;> rfl) nk_188 nk_35 nk_3 dX4_init_5 (Nat.le_of_ble_eq_true rfl) (Nat.le_of_ble_eq_true rfl) (fun q5 H hw => ?_)
  have hw : nWd D A s [(h0, .inr (3, [.null])), (q5, .inr (6, [.null, .int (mI 0), .int (mI 0), .int (mI 0)]))] H _ := hw
  refine lv_dup hx hb dX4_init_8 rfl ?_
  refine lv_iconst (v := mI 3) hx hb dX4_init_9 rfl ?_
  refine lv_iconst (v := mI 1) hx hb dX4_init_10 rfl ?_
  refine n_call (wr := [(h0, .inr (3, [.null]))]) (a := q5) (rest := [.ref q5, .ref h0]) C hl.1 hw hE trivial nTT_ok (ct_X9_init 3 1 3 (by decide) rfl) nk_189 nk_37 nk_3 nk_38 rfl rfl ⟨by decide +kernel, by decide +kernel, by decide +kernel⟩ ⟨(Nat.le_of_ble_eq_true rfl), (Nat.le_of_ble_eq_true rfl)⟩ (Nat.le_of_ble_eq_true rfl) dX4_init_11 ⟨(Nat.le_of_ble_eq_true rfl), (Nat.le_of_ble_eq_true rfl)⟩ rfl (fun g11 H locs e11 hw9 => ?_)
  subst e11
  have hw : nWd D A s [(h0, .inr (3, [.null])), ((g11 0), .inr (6, [.ref (g11 1), .int (mI 3), .int (mI 1), .int (mI 0)])), ((g11 1), .inl (cyI, 3, .inl (fun _ => mI 0)))] H _ := hw9
  refine n_putF (k := 0) C hin hw 0 zc_X4 rfl (by decide) rfl rfl rfl rfl (Nat.le_of_ble_eq_true rfl) nk_190 dX4_init_14 (fun H locs hw => ?_)
  have hw : nWd D A s [(h0, .inr (3, [.ref (g11 0)])), ((g11 0), .inr (6, [.ref (g11 1), .int (mI 3), .int (mI 1), .int (mI 0)])), ((g11 1), .inl (cyI, 3, .inl (fun _ => mI 0)))] H _ := hw
  exact n_ret (g := fun i => [h0, (g11 0), (g11 1)].getD i 0) C hr hlk hw rfl dX4_init_17 (Nat.le_of_ble_eq_true rfl) (Nat.le_of_ble_eq_true rfl)
