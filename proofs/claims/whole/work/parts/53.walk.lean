theorem dX6_ask_0 : decode cX6_ask 0 = .ok (.iload_n 1, 1) := by decide +kernel
theorem dX6_ask_1 : decode cX6_ask 1 = .ok (.invokestatic 279, 3) := by decide +kernel
theorem dX6_ask_4 : decode cX6_ask 4 = .ok (.ifCond .eq 10, 3) := by decide +kernel
theorem dX6_ask_7 : decode cX6_ask 7 = .ok (.iload_n 2, 1) := by decide +kernel
theorem dX6_ask_8 : decode cX6_ask 8 = .ok (.invokestatic 71, 3) := by decide +kernel
theorem dX6_ask_11 : decode cX6_ask 11 = .ok (.ifCond .ne 6, 3) := by decide +kernel
theorem dX6_ask_14 : decode cX6_ask 14 = .ok (.ldc 79, 2) := by decide +kernel
theorem dX6_ask_16 : decode cX6_ask 16 = .ok (.ireturn, 1) := by decide +kernel
theorem dX6_ask_17 : decode cX6_ask 17 = .ok (.aload_n 0, 1) := by decide +kernel
theorem dX6_ask_18 : decode cX6_ask 18 = .ok (.getfield 56, 3) := by decide +kernel
theorem dX6_ask_21 : decode cX6_ask 21 = .ok (.iload_n 1, 1) := by decide +kernel
theorem dX6_ask_22 : decode cX6_ask 22 = .ok (.aaload, 1) := by decide +kernel
theorem dX6_ask_23 : decode cX6_ask 23 = .ok (.astore_n 3, 1) := by decide +kernel
theorem dX6_ask_24 : decode cX6_ask 24 = .ok (.aload_n 3, 1) := by decide +kernel
theorem dX6_ask_25 : decode cX6_ask 25 = .ok (.getfield 282, 3) := by decide +kernel
theorem dX6_ask_28 : decode cX6_ask 28 = .ok (.ifCond .ne 6, 3) := by decide +kernel
theorem dX6_ask_31 : decode cX6_ask 31 = .ok (.ldc 213, 2) := by decide +kernel
theorem dX6_ask_33 : decode cX6_ask 33 = .ok (.ireturn, 1) := by decide +kernel
theorem dX6_ask_34 : decode cX6_ask 34 = .ok (.aload_n 3, 1) := by decide +kernel
theorem dX6_ask_35 : decode cX6_ask 35 = .ok (.getfield 282, 3) := by decide +kernel
theorem dX6_ask_38 : decode cX6_ask 38 = .ok (.iconst 1, 1) := by decide +kernel
theorem dX6_ask_39 : decode cX6_ask 39 = .ok (.if_icmp .ne 14, 3) := by decide +kernel
theorem dX6_ask_42 : decode cX6_ask 42 = .ok (.aload_n 3, 1) := by decide +kernel
theorem dX6_ask_43 : decode cX6_ask 43 = .ok (.getfield 285, 3) := by decide +kernel
theorem dX6_ask_46 : decode cX6_ask 46 = .ok (.iload_n 2, 1) := by decide +kernel
theorem dX6_ask_47 : decode cX6_ask 47 = .ok (.invokestatic 99, 3) := by decide +kernel
theorem dX6_ask_50 : decode cX6_ask 50 = .ok (.ifCond .ne 6, 3) := by decide +kernel
theorem dX6_ask_53 : decode cX6_ask 53 = .ok (.ldc 103, 2) := by decide +kernel
theorem dX6_ask_55 : decode cX6_ask 55 = .ok (.ireturn, 1) := by decide +kernel
theorem dX6_ask_56 : decode cX6_ask 56 = .ok (.aload_n 3, 1) := by decide +kernel
theorem dX6_ask_57 : decode cX6_ask 57 = .ok (.getfield 285, 3) := by decide +kernel
theorem dX6_ask_60 : decode cX6_ask 60 = .ok (.aload_n 3, 1) := by decide +kernel
theorem dX6_ask_61 : decode cX6_ask 61 = .ok (.getfield 288, 3) := by decide +kernel
theorem dX6_ask_64 : decode cX6_ask 64 = .ok (.invokestatic 93, 3) := by decide +kernel
theorem dX6_ask_67 : decode cX6_ask 67 = .ok (.ireturn, 1) := by decide +kernel
set_option maxHeartbeats 4000000 in
set_option maxRecDepth 100000 in
theorem c_X6_ask (g : sk_G) (l : Launch) (a1 : Int32) (a2 : Int32) (M : sk_M) {rr : Int32} (h : f_X6_ask a1 a2 M = some rr) : sk_MI g l yX6_ask cX6_ask 4 (some .int) 4 [.ref (sk_ad g 0), .int a1, .int a2] M rr M := by
  refine sk_go [(0, .ref (sk_ad g 0)), (1, .int a1), (2, .int a2)] (by decide) (Nat.le_of_ble_eq_true rfl) rfl ?_
  intro p e s m av below meth c C ls hl hM hS
  obtain ⟨hx, hb, hml, hown, hts, hK, hE, hr, hlocks⟩ := id C
  rw [f_X6_ask] at h
  refine lv_iload_n hx hb dX6_ask_0 rfl (lv_at hl 1 rfl) ?_
  refine sk_contI (sk_runS (As := [.int a1]) (rest := []) C (c_X6_isSlot g l a1 M rfl) yo_X6_isSlot kw_870 (by decide) hM hS hl.1 rfl rfl (Nat.le_of_ble_eq_true rfl) dX6_ask_1) hS (fun H locs hM hS => ?_)
  refine lv_if_eq hx hb dX6_ask_4 rfl (fun hc => ?_) (fun hc => ?_)
  · have h := sk_pos h hc
    refine lv_ldc (v := (-1000000001)) hx hb hown (hts _ kw_347) dX6_ask_14 ?_
    exact sk_iret C hM hS ⟨Option.some.inj h, rfl⟩ dX6_ask_16
  · have h := sk_neg h hc
    refine lv_iload_n hx hb dX6_ask_7 rfl (lv_at hl 2 rfl) ?_
    refine sk_contI (sk_runS (As := [.int a2]) (rest := []) C (c_X6_isKind g l a2 M rfl) yo_X6_isKind kw_341 (by decide) hM hS hl.1 rfl rfl (Nat.le_of_ble_eq_true rfl) dX6_ask_8) hS (fun H locs hM hS => ?_)
    refine lv_if_ne hx hb dX6_ask_11 rfl (fun hc => ?_) (fun hc => ?_)
    · have h := sk_neg h hc
      refine lv_aload_n hx hb dX6_ask_17 rfl (lv_at hl 0 rfl) ?_
      refine sk_getR (o := 0) (ci := 6) (j := 7) (t := 2) C hM rfl rfl (by decide) rfl rfl kw_304 dX6_ask_18 ?_
      refine lv_iload_n hx hb dX6_ask_21 rfl (lv_at hl 1 rfl) ?_
      obtain ⟨i_3, h⟩ := sk_chkE h
      refine sk_aald (o := 2) (k := 2) (t := (73 + 3 * a1.toNatClampNeg)) C hM rfl (by decide) i_3 rfl dX6_ask_22 ?_
      refine lv_astore_n (lv' := [(3, .ref (sk_ad g (73 + 3 * a1.toNatClampNeg))), (0, .ref (sk_ad g 0)), (1, .int a1), (2, .int a2)]) hx hb dX6_ask_23 rfl hl (by decide) rfl (fun ls hl => ?_)
      refine lv_aload_n hx hb dX6_ask_24 rfl (lv_at hl 0 rfl) ?_
      refine sk_getI (o := (73 + 3 * a1.toNatClampNeg)) (ci := 2) (j := 1) C hM (sk_isL_kd (sk_isL_a (sk_in_lt i_3))) rfl (by decide) rfl kw_282 dX6_ask_25 ?_
      refine lv_if_ne hx hb dX6_ask_28 rfl (fun hc => ?_) (fun hc => ?_)
      · have h := sk_neg h hc
        refine lv_aload_n hx hb dX6_ask_34 rfl (lv_at hl 0 rfl) ?_
        refine sk_getI (o := (73 + 3 * a1.toNatClampNeg)) (ci := 2) (j := 1) C hM (sk_isL_kd (sk_isL_a (sk_in_lt i_3))) rfl (by decide) rfl kw_282 dX6_ask_35 ?_
        refine lv_iconst (v := 1) hx hb dX6_ask_38 (by decide) ?_
        refine lv_icmp_ne hx hb dX6_ask_39 rfl (fun hc => ?_) (fun hc => ?_)
        · have h := sk_neg h hc
          refine lv_ldc (v := (-1000000012)) hx hb hown (hts _ kw_373) dX6_ask_53 ?_
          exact sk_iret C hM hS ⟨Option.some.inj h, rfl⟩ dX6_ask_55
        · have h := sk_pos h hc
          refine lv_aload_n hx hb dX6_ask_42 rfl (lv_at hl 0 rfl) ?_
          refine sk_getI (o := (73 + 3 * a1.toNatClampNeg)) (ci := 2) (j := 2) C hM (sk_isL_kd (sk_isL_a (sk_in_lt i_3))) rfl (by decide) rfl kw_283 dX6_ask_43 ?_
          refine lv_iload_n hx hb dX6_ask_46 rfl (lv_at hl 3 rfl) ?_
          obtain ⟨x_4, h_5, h⟩ := sk_b1E h
          refine sk_contI (sk_runS (As := [.int (M (73 + 3 * a1.toNatClampNeg) 2), .int a2]) (rest := []) C (c_X6_isUnder g l (M (73 + 3 * a1.toNatClampNeg) 2) a2 M h_5) yo_X6_isUnder kw_368 (by decide) hM hS hl.1 rfl rfl (Nat.le_of_ble_eq_true rfl) dX6_ask_47) hS (fun H locs hM hS => ?_)
          refine lv_if_ne hx hb dX6_ask_50 rfl (fun hc => ?_) (fun hc => ?_)
          · have h := sk_neg h hc
            refine lv_aload_n hx hb dX6_ask_56 rfl (lv_at hl 0 rfl) ?_
            refine sk_getI (o := (73 + 3 * a1.toNatClampNeg)) (ci := 2) (j := 2) C hM (sk_isL_kd (sk_isL_a (sk_in_lt i_3))) rfl (by decide) rfl kw_283 dX6_ask_57 ?_
            refine lv_aload_n hx hb dX6_ask_60 rfl (lv_at hl 0 rfl) ?_
            refine sk_getI (o := (73 + 3 * a1.toNatClampNeg)) (ci := 2) (j := 3) C hM (sk_isL_kd (sk_isL_a (sk_in_lt i_3))) rfl (by decide) rfl kw_284 dX6_ask_61 ?_
            refine sk_contI (sk_runS (As := [.int (M (73 + 3 * a1.toNatClampNeg) 2), .int (M (73 + 3 * a1.toNatClampNeg) 3)]) (rest := []) C (c_X6_worth g l (M (73 + 3 * a1.toNatClampNeg) 2) (M (73 + 3 * a1.toNatClampNeg) 3) M rfl) yo_X6_worth kw_361 (by decide) hM hS hl.1 rfl rfl (Nat.le_of_ble_eq_true rfl) dX6_ask_64) hS (fun H locs hM hS => ?_)
            exact sk_iret C hM hS ⟨Option.some.inj h, rfl⟩ dX6_ask_67
          · have h := sk_pos h hc
            refine lv_ldc (v := (-1000000012)) hx hb hown (hts _ kw_373) dX6_ask_53 ?_
            exact sk_iret C hM hS ⟨Option.some.inj h, rfl⟩ dX6_ask_55
      · have h := sk_pos h hc
        refine lv_ldc (v := (-1000000011)) hx hb hown (hts _ kw_597) dX6_ask_31 ?_
        exact sk_iret C hM hS ⟨Option.some.inj h, rfl⟩ dX6_ask_33
    · have h := sk_pos h hc
      refine lv_ldc (v := (-1000000001)) hx hb hown (hts _ kw_347) dX6_ask_14 ?_
      exact sk_iret C hM hS ⟨Option.some.inj h, rfl⟩ dX6_ask_16
theorem dX6_item_0 : decode cX6_item 0 = .ok (.iload_n 1, 1) := by decide +kernel
theorem dX6_item_1 : decode cX6_item 1 = .ok (.invokestatic 279, 3) := by decide +kernel
theorem dX6_item_4 : decode cX6_item 4 = .ok (.ifCond .ne 6, 3) := by decide +kernel
theorem dX6_item_7 : decode cX6_item 7 = .ok (.ldc 79, 2) := by decide +kernel
theorem dX6_item_9 : decode cX6_item 9 = .ok (.ireturn, 1) := by decide +kernel
theorem dX6_item_10 : decode cX6_item 10 = .ok (.aload_n 0, 1) := by decide +kernel
theorem dX6_item_11 : decode cX6_item 11 = .ok (.getfield 56, 3) := by decide +kernel
theorem dX6_item_14 : decode cX6_item 14 = .ok (.iload_n 1, 1) := by decide +kernel
theorem dX6_item_15 : decode cX6_item 15 = .ok (.aaload, 1) := by decide +kernel
theorem dX6_item_16 : decode cX6_item 16 = .ok (.astore_n 3, 1) := by decide +kernel
theorem dX6_item_17 : decode cX6_item 17 = .ok (.aload_n 3, 1) := by decide +kernel
theorem dX6_item_18 : decode cX6_item 18 = .ok (.getfield 282, 3) := by decide +kernel
theorem dX6_item_21 : decode cX6_item 21 = .ok (.ifCond .ne 6, 3) := by decide +kernel
theorem dX6_item_24 : decode cX6_item 24 = .ok (.ldc 213, 2) := by decide +kernel
theorem dX6_item_26 : decode cX6_item 26 = .ok (.ireturn, 1) := by decide +kernel
theorem dX6_item_27 : decode cX6_item 27 = .ok (.aload_n 3, 1) := by decide +kernel
theorem dX6_item_28 : decode cX6_item 28 = .ok (.getfield 282, 3) := by decide +kernel
theorem dX6_item_31 : decode cX6_item 31 = .ok (.iconst 2, 1) := by decide +kernel
theorem dX6_item_32 : decode cX6_item 32 = .ok (.if_icmp .eq 6, 3) := by decide +kernel
theorem dX6_item_35 : decode cX6_item 35 = .ok (.ldc 103, 2) := by decide +kernel
theorem dX6_item_37 : decode cX6_item 37 = .ok (.ireturn, 1) := by decide +kernel
theorem dX6_item_38 : decode cX6_item 38 = .ok (.iload_n 2, 1) := by decide +kernel
theorem dX6_item_39 : decode cX6_item 39 = .ok (.iconst 0, 1) := by decide +kernel
theorem dX6_item_40 : decode cX6_item 40 = .ok (.aload_n 3, 1) := by decide +kernel
theorem dX6_item_41 : decode cX6_item 41 = .ok (.getfield 291, 3) := by decide +kernel
theorem dX6_item_44 : decode cX6_item 44 = .ok (.getfield 267, 3) := by decide +kernel
theorem dX6_item_47 : decode cX6_item 47 = .ok (.iconst 1, 1) := by decide +kernel
theorem dX6_item_48 : decode cX6_item 48 = .ok (.isub, 1) := by decide +kernel
theorem dX6_item_49 : decode cX6_item 49 = .ok (.invokestatic 75, 3) := by decide +kernel
theorem dX6_item_52 : decode cX6_item 52 = .ok (.ifCond .ne 7, 3) := by decide +kernel
theorem dX6_item_55 : decode cX6_item 55 = .ok (.ldc_w 270, 3) := by decide +kernel
theorem dX6_item_58 : decode cX6_item 58 = .ok (.ireturn, 1) := by decide +kernel
theorem dX6_item_59 : decode cX6_item 59 = .ok (.aload_n 3, 1) := by decide +kernel
theorem dX6_item_60 : decode cX6_item 60 = .ok (.getfield 291, 3) := by decide +kernel
theorem dX6_item_63 : decode cX6_item 63 = .ok (.getfield 271, 3) := by decide +kernel
theorem dX6_item_66 : decode cX6_item 66 = .ok (.iload_n 2, 1) := by decide +kernel
theorem dX6_item_67 : decode cX6_item 67 = .ok (.iaload, 1) := by decide +kernel
theorem dX6_item_68 : decode cX6_item 68 = .ok (.istore 4, 2) := by decide +kernel
theorem dX6_item_70 : decode cX6_item 70 = .ok (.iload 4, 2) := by decide +kernel
theorem dX6_item_72 : decode cX6_item 72 = .ok (.ldc 188, 2) := by decide +kernel
theorem dX6_item_74 : decode cX6_item 74 = .ok (.if_icmp .ne 8, 3) := by decide +kernel
theorem dX6_item_77 : decode cX6_item 77 = .ok (.ldc 103, 2) := by decide +kernel
theorem dX6_item_79 : decode cX6_item 79 = .ok (.goto 5, 3) := by decide +kernel
theorem dX6_item_82 : decode cX6_item 82 = .ok (.iload 4, 2) := by decide +kernel
theorem dX6_item_84 : decode cX6_item 84 = .ok (.ireturn, 1) := by decide +kernel
set_option maxHeartbeats 4000000 in
set_option maxRecDepth 100000 in
theorem c_X6_item (g : sk_G) (l : Launch) (a1 : Int32) (a2 : Int32) (M : sk_M) {rr : Int32} (h : f_X6_item a1 a2 M = some rr) : sk_MI g l yX6_item cX6_item 5 (some .int) 3 [.ref (sk_ad g 0), .int a1, .int a2] M rr M := by
  refine sk_go [(0, .ref (sk_ad g 0)), (1, .int a1), (2, .int a2)] (by decide) (Nat.le_of_ble_eq_true rfl) rfl ?_
  intro p e s m av below meth c C ls hl hM hS
  obtain ⟨hx, hb, hml, hown, hts, hK, hE, hr, hlocks⟩ := id C
  rw [f_X6_item] at h
  refine lv_iload_n hx hb dX6_item_0 rfl (lv_at hl 1 rfl) ?_
  refine sk_contI (sk_runS (As := [.int a1]) (rest := []) C (c_X6_isSlot g l a1 M rfl) yo_X6_isSlot kw_870 (by decide) hM hS hl.1 rfl rfl (Nat.le_of_ble_eq_true rfl) dX6_item_1) hS (fun H locs hM hS => ?_)
  refine lv_if_ne hx hb dX6_item_4 rfl (fun hc => ?_) (fun hc => ?_)
  · have h := sk_neg h hc
    refine lv_aload_n hx hb dX6_item_10 rfl (lv_at hl 0 rfl) ?_
    refine sk_getR (o := 0) (ci := 6) (j := 7) (t := 2) C hM rfl rfl (by decide) rfl rfl kw_304 dX6_item_11 ?_
    refine lv_iload_n hx hb dX6_item_14 rfl (lv_at hl 1 rfl) ?_
    obtain ⟨i_2, h⟩ := sk_chkE h
    refine sk_aald (o := 2) (k := 2) (t := (73 + 3 * a1.toNatClampNeg)) C hM rfl (by decide) i_2 rfl dX6_item_15 ?_
    refine lv_astore_n (lv' := [(3, .ref (sk_ad g (73 + 3 * a1.toNatClampNeg))), (0, .ref (sk_ad g 0)), (1, .int a1), (2, .int a2)]) hx hb dX6_item_16 rfl hl (by decide) rfl (fun ls hl => ?_)
    refine lv_aload_n hx hb dX6_item_17 rfl (lv_at hl 0 rfl) ?_
    refine sk_getI (o := (73 + 3 * a1.toNatClampNeg)) (ci := 2) (j := 1) C hM (sk_isL_kd (sk_isL_a (sk_in_lt i_2))) rfl (by decide) rfl kw_282 dX6_item_18 ?_
    refine lv_if_ne hx hb dX6_item_21 rfl (fun hc => ?_) (fun hc => ?_)
    · have h := sk_neg h hc
      refine lv_aload_n hx hb dX6_item_27 rfl (lv_at hl 0 rfl) ?_
      refine sk_getI (o := (73 + 3 * a1.toNatClampNeg)) (ci := 2) (j := 1) C hM (sk_isL_kd (sk_isL_a (sk_in_lt i_2))) rfl (by decide) rfl kw_282 dX6_item_28 ?_
      refine lv_iconst (v := 2) hx hb dX6_item_31 (by decide) ?_
      refine lv_icmp_eq hx hb dX6_item_32 rfl (fun hc => ?_) (fun hc => ?_)
      · have h := sk_pos h hc
        refine lv_iload_n hx hb dX6_item_38 rfl (lv_at hl 3 rfl) ?_
        refine lv_iconst (v := 0) hx hb dX6_item_39 (by decide) ?_
        refine lv_aload_n hx hb dX6_item_40 rfl (lv_at hl 0 rfl) ?_
        refine sk_getR (o := (73 + 3 * a1.toNatClampNeg)) (ci := 2) (j := 0) (t := ((73 + 3 * a1.toNatClampNeg) + 1)) C hM (sk_isL_kd (sk_isL_a (sk_in_lt i_2))) rfl (by decide) rfl (sk_isL_r0 (sk_isL_a (sk_in_lt i_2))) kw_280 dX6_item_41 ?_
        refine sk_getI (o := ((73 + 3 * a1.toNatClampNeg) + 1)) (ci := 1) (j := 2) C hM (sk_isH_kd (sk_isL_h (sk_isL_a (sk_in_lt i_2)))) rfl (by decide) rfl kw_262 dX6_item_44 ?_
        refine lv_iconst (v := 1) hx hb dX6_item_47 (by decide) ?_
        refine lv_isub hx hb dX6_item_48 ?_
        refine sk_contI (sk_runS (As := [.int a2, .int 0, .int ((M ((73 + 3 * a1.toNatClampNeg) + 1) 2) - 1)]) (rest := []) C (c_X6_within g l a2 0 ((M ((73 + 3 * a1.toNatClampNeg) + 1) 2) - 1) M rfl) yo_X6_within kw_344 (by decide) hM hS hl.1 rfl rfl (Nat.le_of_ble_eq_true rfl) dX6_item_49) hS (fun H locs hM hS => ?_)
        refine lv_if_ne hx hb dX6_item_52 rfl (fun hc => ?_) (fun hc => ?_)
        · have h := sk_neg h hc
          refine lv_aload_n hx hb dX6_item_59 rfl (lv_at hl 0 rfl) ?_
          refine sk_getR (o := (73 + 3 * a1.toNatClampNeg)) (ci := 2) (j := 0) (t := ((73 + 3 * a1.toNatClampNeg) + 1)) C hM (sk_isL_kd (sk_isL_a (sk_in_lt i_2))) rfl (by decide) rfl (sk_isL_r0 (sk_isL_a (sk_in_lt i_2))) kw_280 dX6_item_60 ?_
          refine sk_getR (o := ((73 + 3 * a1.toNatClampNeg) + 1)) (ci := 1) (j := 0) (t := (((73 + 3 * a1.toNatClampNeg) + 1) + 1)) C hM (sk_isH_kd (sk_isL_h (sk_isL_a (sk_in_lt i_2)))) rfl (by decide) rfl (sk_isH_r0 (sk_isL_h (sk_isL_a (sk_in_lt i_2)))) kw_258 dX6_item_63 ?_
          refine lv_iload_n hx hb dX6_item_66 rfl (lv_at hl 3 rfl) ?_
          obtain ⟨i_4, h⟩ := sk_chkE h
          refine sk_iald (o := (((73 + 3 * a1.toNatClampNeg) + 1) + 1)) C hM (sk_isH_k1 (sk_isL_h (sk_isL_a (sk_in_lt i_2)))) i_4 dX6_item_67 ?_
          refine lv_topi (fun x_5 ex_5 => ?_)
          have h := sk_letU h ex_5
          refine lv_istore (lv' := [(4, .int x_5), (3, .ref (sk_ad g (73 + 3 * a1.toNatClampNeg))), (0, .ref (sk_ad g 0)), (1, .int a1), (2, .int a2)]) hx hb dX6_item_68 hl (by decide) rfl (fun ls hl => ?_)
          refine lv_iload hx hb dX6_item_70 (lv_at hl 0 rfl) ?_
          refine lv_ldc (v := (-1000000005)) hx hb hown (hts _ kw_544) dX6_item_72 ?_
          have J : ∀ (vv : Int32) (H : Heap) (locs : List Loc), (if x_5 = (-1000000005) then (-1000000012) else x_5 : Int32) = vv → sk_P g M H → va_S (sk_A g) s.heap H locs → W p l e (sk_rm 3) s m av below meth c H locs 0 0 (MQ below (sk_QI g rr M) av s 0 0 (sk_A g)) (F0 m 84 ls [.int vv]) := by
            intro vv H locs hvv hM hS
            subst hvv
            exact sk_iret C hM hS ⟨Option.some.inj h, rfl⟩ dX6_item_84
          refine lv_icmp_ne hx hb dX6_item_74 rfl (fun hc => ?_) (fun hc => ?_)
          · have J := fun vv H locs q => J vv H locs ((if_neg hc).trans q)
            refine lv_iload hx hb dX6_item_82 (lv_at hl 0 rfl) ?_
            exact J _ _ _ rfl hM hS
          · have J := fun vv H locs q => J vv H locs ((if_pos hc).trans q)
            refine lv_ldc (v := (-1000000012)) hx hb hown (hts _ kw_373) dX6_item_77 ?_
            refine lv_goto hx hb dX6_item_79 rfl ?_
            exact J _ _ _ rfl hM hS
        · have h := sk_pos h hc
          refine lv_ldcw (v := (-1000000013)) hx hb hown (hts _ kw_851) dX6_item_55 ?_
          exact sk_iret C hM hS ⟨Option.some.inj h, rfl⟩ dX6_item_58
      · have h := sk_neg h hc
        refine lv_ldc (v := (-1000000012)) hx hb hown (hts _ kw_373) dX6_item_35 ?_
        exact sk_iret C hM hS ⟨Option.some.inj h, rfl⟩ dX6_item_37
    · have h := sk_pos h hc
      refine lv_ldc (v := (-1000000011)) hx hb hown (hts _ kw_597) dX6_item_24 ?_
      exact sk_iret C hM hS ⟨Option.some.inj h, rfl⟩ dX6_item_26
  · have h := sk_pos h hc
    refine lv_ldc (v := (-1000000001)) hx hb hown (hts _ kw_347) dX6_item_7 ?_
    exact sk_iret C hM hS ⟨Option.some.inj h, rfl⟩ dX6_item_9
theorem dX6_rest_0 : decode cX6_rest 0 = .ok (.iload_n 1, 1) := by decide +kernel
theorem dX6_rest_1 : decode cX6_rest 1 = .ok (.invokestatic 279, 3) := by decide +kernel
theorem dX6_rest_4 : decode cX6_rest 4 = .ok (.ifCond .ne 6, 3) := by decide +kernel
theorem dX6_rest_7 : decode cX6_rest 7 = .ok (.ldc 79, 2) := by decide +kernel
theorem dX6_rest_9 : decode cX6_rest 9 = .ok (.ireturn, 1) := by decide +kernel
theorem dX6_rest_10 : decode cX6_rest 10 = .ok (.aload_n 0, 1) := by decide +kernel
theorem dX6_rest_11 : decode cX6_rest 11 = .ok (.getfield 56, 3) := by decide +kernel
theorem dX6_rest_14 : decode cX6_rest 14 = .ok (.iload_n 1, 1) := by decide +kernel
theorem dX6_rest_15 : decode cX6_rest 15 = .ok (.aaload, 1) := by decide +kernel
theorem dX6_rest_16 : decode cX6_rest 16 = .ok (.astore_n 3, 1) := by decide +kernel
theorem dX6_rest_17 : decode cX6_rest 17 = .ok (.aload_n 3, 1) := by decide +kernel
theorem dX6_rest_18 : decode cX6_rest 18 = .ok (.getfield 282, 3) := by decide +kernel
theorem dX6_rest_21 : decode cX6_rest 21 = .ok (.ifCond .ne 6, 3) := by decide +kernel
theorem dX6_rest_24 : decode cX6_rest 24 = .ok (.ldc 213, 2) := by decide +kernel
theorem dX6_rest_26 : decode cX6_rest 26 = .ok (.ireturn, 1) := by decide +kernel
theorem dX6_rest_27 : decode cX6_rest 27 = .ok (.aload_n 3, 1) := by decide +kernel
theorem dX6_rest_28 : decode cX6_rest 28 = .ok (.getfield 282, 3) := by decide +kernel
theorem dX6_rest_31 : decode cX6_rest 31 = .ok (.iconst 3, 1) := by decide +kernel
theorem dX6_rest_32 : decode cX6_rest 32 = .ok (.if_icmp .eq 6, 3) := by decide +kernel
theorem dX6_rest_35 : decode cX6_rest 35 = .ok (.ldc 103, 2) := by decide +kernel
theorem dX6_rest_37 : decode cX6_rest 37 = .ok (.ireturn, 1) := by decide +kernel
theorem dX6_rest_38 : decode cX6_rest 38 = .ok (.iload_n 2, 1) := by decide +kernel
theorem dX6_rest_39 : decode cX6_rest 39 = .ok (.ifCond .ne 8, 3) := by decide +kernel
theorem dX6_rest_42 : decode cX6_rest 42 = .ok (.ldc 200, 2) := by decide +kernel
theorem dX6_rest_44 : decode cX6_rest 44 = .ok (.goto 9, 3) := by decide +kernel
theorem dX6_rest_47 : decode cX6_rest 47 = .ok (.aload_n 3, 1) := by decide +kernel
theorem dX6_rest_48 : decode cX6_rest 48 = .ok (.getfield 299, 3) := by decide +kernel
theorem dX6_rest_51 : decode cX6_rest 51 = .ok (.iload_n 2, 1) := by decide +kernel
theorem dX6_rest_52 : decode cX6_rest 52 = .ok (.irem, 1) := by decide +kernel
theorem dX6_rest_53 : decode cX6_rest 53 = .ok (.ireturn, 1) := by decide +kernel
set_option maxHeartbeats 4000000 in
set_option maxRecDepth 100000 in
theorem c_X6_rest (g : sk_G) (l : Launch) (a1 : Int32) (a2 : Int32) (M : sk_M) {rr : Int32} (h : f_X6_rest a1 a2 M = some rr) : sk_MI g l yX6_rest cX6_rest 4 (some .int) 3 [.ref (sk_ad g 0), .int a1, .int a2] M rr M := by
  refine sk_go [(0, .ref (sk_ad g 0)), (1, .int a1), (2, .int a2)] (by decide) (Nat.le_of_ble_eq_true rfl) rfl ?_
  intro p e s m av below meth c C ls hl hM hS
  obtain ⟨hx, hb, hml, hown, hts, hK, hE, hr, hlocks⟩ := id C
  rw [f_X6_rest] at h
  refine lv_iload_n hx hb dX6_rest_0 rfl (lv_at hl 1 rfl) ?_
  refine sk_contI (sk_runS (As := [.int a1]) (rest := []) C (c_X6_isSlot g l a1 M rfl) yo_X6_isSlot kw_870 (by decide) hM hS hl.1 rfl rfl (Nat.le_of_ble_eq_true rfl) dX6_rest_1) hS (fun H locs hM hS => ?_)
  refine lv_if_ne hx hb dX6_rest_4 rfl (fun hc => ?_) (fun hc => ?_)
  · have h := sk_neg h hc
    refine lv_aload_n hx hb dX6_rest_10 rfl (lv_at hl 0 rfl) ?_
    refine sk_getR (o := 0) (ci := 6) (j := 7) (t := 2) C hM rfl rfl (by decide) rfl rfl kw_304 dX6_rest_11 ?_
    refine lv_iload_n hx hb dX6_rest_14 rfl (lv_at hl 1 rfl) ?_
    obtain ⟨i_2, h⟩ := sk_chkE h
    refine sk_aald (o := 2) (k := 2) (t := (73 + 3 * a1.toNatClampNeg)) C hM rfl (by decide) i_2 rfl dX6_rest_15 ?_
    refine lv_astore_n (lv' := [(3, .ref (sk_ad g (73 + 3 * a1.toNatClampNeg))), (0, .ref (sk_ad g 0)), (1, .int a1), (2, .int a2)]) hx hb dX6_rest_16 rfl hl (by decide) rfl (fun ls hl => ?_)
    refine lv_aload_n hx hb dX6_rest_17 rfl (lv_at hl 0 rfl) ?_
    refine sk_getI (o := (73 + 3 * a1.toNatClampNeg)) (ci := 2) (j := 1) C hM (sk_isL_kd (sk_isL_a (sk_in_lt i_2))) rfl (by decide) rfl kw_282 dX6_rest_18 ?_
    refine lv_if_ne hx hb dX6_rest_21 rfl (fun hc => ?_) (fun hc => ?_)
    · have h := sk_neg h hc
      refine lv_aload_n hx hb dX6_rest_27 rfl (lv_at hl 0 rfl) ?_
      refine sk_getI (o := (73 + 3 * a1.toNatClampNeg)) (ci := 2) (j := 1) C hM (sk_isL_kd (sk_isL_a (sk_in_lt i_2))) rfl (by decide) rfl kw_282 dX6_rest_28 ?_
      refine lv_iconst (v := 3) hx hb dX6_rest_31 (by decide) ?_
      refine lv_icmp_eq hx hb dX6_rest_32 rfl (fun hc => ?_) (fun hc => ?_)
      · have h := sk_pos h hc
        refine lv_iload_n hx hb dX6_rest_38 rfl (lv_at hl 3 rfl) ?_
        refine lv_if_ne hx hb dX6_rest_39 rfl (fun hc => ?_) (fun hc => ?_)
        · have h := sk_neg h hc
          refine lv_aload_n hx hb dX6_rest_47 rfl (lv_at hl 0 rfl) ?_
          refine sk_getI (o := (73 + 3 * a1.toNatClampNeg)) (ci := 2) (j := 4) C hM (sk_isL_kd (sk_isL_a (sk_in_lt i_2))) rfl (by decide) rfl kw_285 dX6_rest_48 ?_
          refine lv_iload_n hx hb dX6_rest_51 rfl (lv_at hl 3 rfl) ?_
          obtain ⟨i_3, h⟩ := sk_chkE h
          refine lv_irem hx hb dX6_rest_52 (of_decide_eq_true i_3) ?_
          exact sk_iret C hM hS ⟨Option.some.inj h, rfl⟩ dX6_rest_53
        · have h := sk_pos h hc
          refine lv_ldc (v := (-1000000002)) hx hb hown (hts _ kw_588) dX6_rest_42 ?_
          refine lv_goto hx hb dX6_rest_44 rfl ?_
          exact sk_iret C hM hS ⟨Option.some.inj h, rfl⟩ dX6_rest_53
      · have h := sk_neg h hc
        refine lv_ldc (v := (-1000000012)) hx hb hown (hts _ kw_373) dX6_rest_35 ?_
        exact sk_iret C hM hS ⟨Option.some.inj h, rfl⟩ dX6_rest_37
    · have h := sk_pos h hc
      refine lv_ldc (v := (-1000000011)) hx hb hown (hts _ kw_597) dX6_rest_24 ?_
      exact sk_iret C hM hS ⟨Option.some.inj h, rfl⟩ dX6_rest_26
  · have h := sk_pos h hc
    refine lv_ldc (v := (-1000000001)) hx hb hown (hts _ kw_347) dX6_rest_7 ?_
    exact sk_iret C hM hS ⟨Option.some.inj h, rfl⟩ dX6_rest_9
theorem dX6_tell_0 : decode cX6_tell 0 = .ok (.aload_n 0, 1) := by decide +kernel
theorem dX6_tell_1 : decode cX6_tell 1 = .ok (.getfield 302, 3) := by decide +kernel
theorem dX6_tell_4 : decode cX6_tell 4 = .ok (.bipush 60, 2) := by decide +kernel
theorem dX6_tell_6 : decode cX6_tell 6 = .ok (.if_icmp .lt 6, 3) := by decide +kernel
theorem dX6_tell_9 : decode cX6_tell 9 = .ok (.ldc 117, 2) := by decide +kernel
theorem dX6_tell_11 : decode cX6_tell 11 = .ok (.ireturn, 1) := by decide +kernel
theorem dX6_tell_12 : decode cX6_tell 12 = .ok (.aload_n 0, 1) := by decide +kernel
theorem dX6_tell_13 : decode cX6_tell 13 = .ok (.getfield 61, 3) := by decide +kernel
theorem dX6_tell_16 : decode cX6_tell 16 = .ok (.aload_n 0, 1) := by decide +kernel
theorem dX6_tell_17 : decode cX6_tell 17 = .ok (.getfield 302, 3) := by decide +kernel
theorem dX6_tell_20 : decode cX6_tell 20 = .ok (.iload_n 1, 1) := by decide +kernel
theorem dX6_tell_21 : decode cX6_tell 21 = .ok (.iastore, 1) := by decide +kernel
theorem dX6_tell_22 : decode cX6_tell 22 = .ok (.aload_n 0, 1) := by decide +kernel
theorem dX6_tell_23 : decode cX6_tell 23 = .ok (.dup, 1) := by decide +kernel
theorem dX6_tell_24 : decode cX6_tell 24 = .ok (.getfield 302, 3) := by decide +kernel
theorem dX6_tell_27 : decode cX6_tell 27 = .ok (.iconst 1, 1) := by decide +kernel
theorem dX6_tell_28 : decode cX6_tell 28 = .ok (.iadd, 1) := by decide +kernel
theorem dX6_tell_29 : decode cX6_tell 29 = .ok (.putfield 302, 3) := by decide +kernel
theorem dX6_tell_32 : decode cX6_tell 32 = .ok (.aload_n 0, 1) := by decide +kernel
theorem dX6_tell_33 : decode cX6_tell 33 = .ok (.getfield 302, 3) := by decide +kernel
theorem dX6_tell_36 : decode cX6_tell 36 = .ok (.ireturn, 1) := by decide +kernel
set_option maxHeartbeats 4000000 in
set_option maxRecDepth 100000 in
theorem c_X6_tell (g : sk_G) (l : Launch) (a1 : Int32) (M : sk_M) {rr : Int32} {MM : sk_M} (h : f_X6_tell a1 M = some (rr, MM)) : sk_MI g l yX6_tell cX6_tell 2 (some .int) 1 [.ref (sk_ad g 0), .int a1] M rr MM := by
  refine sk_go [(0, .ref (sk_ad g 0)), (1, .int a1)] (by decide) (Nat.le_of_ble_eq_true rfl) rfl ?_
  intro p e s m av below meth c C ls hl hM hS
  obtain ⟨hx, hb, hml, hown, hts, hK, hE, hr, hlocks⟩ := id C
  rw [f_X6_tell] at h
  refine lv_aload_n hx hb dX6_tell_0 rfl (lv_at hl 0 rfl) ?_
  refine sk_getI (o := 0) (ci := 6) (j := 11) C hM rfl rfl (by decide) rfl kw_308 dX6_tell_1 ?_
  refine lv_bipush (v := 60) hx hb dX6_tell_4 (by decide) ?_
  refine lv_icmp_lt hx hb dX6_tell_6 rfl (fun hc => ?_) (fun hc => ?_)
  · have h := sk_pos h hc
    refine lv_aload_n hx hb dX6_tell_12 rfl (lv_at hl 0 rfl) ?_
    refine sk_getR (o := 0) (ci := 6) (j := 8) (t := 3) C hM rfl rfl (by decide) rfl rfl kw_305 dX6_tell_13 ?_
    refine lv_aload_n hx hb dX6_tell_16 rfl (lv_at hl 0 rfl) ?_
    refine sk_getI (o := 0) (ci := 6) (j := 11) C hM rfl rfl (by decide) rfl kw_308 dX6_tell_17 ?_
    refine lv_iload_n hx hb dX6_tell_20 rfl (lv_at hl 1 rfl) ?_
    obtain ⟨i_1, h⟩ := sk_chkE h
    refine sk_iast (o := 3) C hM hS rfl i_1 dX6_tell_21 (fun M_2 eM_2 H locs hM hS => ?_)
    have h := sk_letU h eM_2
    refine lv_aload_n hx hb dX6_tell_22 rfl (lv_at hl 0 rfl) ?_
    refine lv_dup hx hb dX6_tell_23 rfl ?_
    refine sk_getI (o := 0) (ci := 6) (j := 11) C hM rfl rfl (by decide) rfl kw_308 dX6_tell_24 ?_
    refine lv_iconst (v := 1) hx hb dX6_tell_27 (by decide) ?_
    refine lv_iadd hx hb dX6_tell_28 ?_
    refine sk_putI (o := 0) (ci := 6) (j := 11) C hM hS rfl rfl (by decide) rfl rfl (tyX6_ok 11 (by decide)) kw_308 dX6_tell_29 (fun M_3 eM_3 H locs hM hS => ?_)
    have h := sk_letU h eM_3
    refine lv_aload_n hx hb dX6_tell_32 rfl (lv_at hl 0 rfl) ?_
    refine sk_getI (o := 0) (ci := 6) (j := 11) C hM rfl rfl (by decide) rfl kw_308 dX6_tell_33 ?_
    exact sk_iret C hM hS (sk_e2 h) dX6_tell_36
  · have h := sk_neg h hc
    refine lv_ldc (v := (-1000000003)) hx hb hown (hts _ kw_397) dX6_tell_9 ?_
    exact sk_iret C hM hS (sk_e2 h) dX6_tell_11
theorem dX6_rightAhead_0 : decode cX6_rightAhead 0 = .ok (.aload_n 0, 1) := by decide +kernel
theorem dX6_rightAhead_1 : decode cX6_rightAhead 1 = .ok (.getfield 44, 3) := by decide +kernel
theorem dX6_rightAhead_4 : decode cX6_rightAhead 4 = .ok (.iload_n 1, 1) := by decide +kernel
theorem dX6_rightAhead_5 : decode cX6_rightAhead 5 = .ok (.invokevirtual 177, 3) := by decide +kernel
theorem dX6_rightAhead_8 : decode cX6_rightAhead 8 = .ok (.iconst 0, 1) := by decide +kernel
theorem dX6_rightAhead_9 : decode cX6_rightAhead 9 = .ok (.istore_n 3, 1) := by decide +kernel
theorem dX6_rightAhead_10 : decode cX6_rightAhead 10 = .ok (.iload_n 3, 1) := by decide +kernel
theorem dX6_rightAhead_11 : decode cX6_rightAhead 11 = .ok (.iload_n 2, 1) := by decide +kernel
theorem dX6_rightAhead_12 : decode cX6_rightAhead 12 = .ok (.if_icmp .ge 64, 3) := by decide +kernel
theorem dX6_rightAhead_15 : decode cX6_rightAhead 15 = .ok (.iload_n 3, 1) := by decide +kernel
theorem dX6_rightAhead_16 : decode cX6_rightAhead 16 = .ok (.iconst 2, 1) := by decide +kernel
theorem dX6_rightAhead_17 : decode cX6_rightAhead 17 = .ok (.irem, 1) := by decide +kernel
theorem dX6_rightAhead_18 : decode cX6_rightAhead 18 = .ok (.ifCond .ne 10, 3) := by decide +kernel
theorem dX6_rightAhead_21 : decode cX6_rightAhead 21 = .ok (.aload_n 0, 1) := by decide +kernel
theorem dX6_rightAhead_22 : decode cX6_rightAhead 22 = .ok (.getfield 44, 3) := by decide +kernel
theorem dX6_rightAhead_25 : decode cX6_rightAhead 25 = .ok (.invokevirtual 187, 3) := by decide +kernel
theorem dX6_rightAhead_28 : decode cX6_rightAhead 28 = .ok (.iload_n 3, 1) := by decide +kernel
theorem dX6_rightAhead_29 : decode cX6_rightAhead 29 = .ok (.iconst 2, 1) := by decide +kernel
theorem dX6_rightAhead_30 : decode cX6_rightAhead 30 = .ok (.irem, 1) := by decide +kernel
theorem dX6_rightAhead_31 : decode cX6_rightAhead 31 = .ok (.ifCond .ne 17, 3) := by decide +kernel
theorem dX6_rightAhead_34 : decode cX6_rightAhead 34 = .ok (.aload_n 0, 1) := by decide +kernel
theorem dX6_rightAhead_35 : decode cX6_rightAhead 35 = .ok (.getfield 44, 3) := by decide +kernel
theorem dX6_rightAhead_38 : decode cX6_rightAhead 38 = .ok (.iconst 0, 1) := by decide +kernel
theorem dX6_rightAhead_39 : decode cX6_rightAhead 39 = .ok (.invokevirtual 184, 3) := by decide +kernel
theorem dX6_rightAhead_42 : decode cX6_rightAhead 42 = .ok (.invokestatic 235, 3) := by decide +kernel
theorem dX6_rightAhead_45 : decode cX6_rightAhead 45 = .ok (.goto 10, 3) := by decide +kernel
theorem dX6_rightAhead_48 : decode cX6_rightAhead 48 = .ok (.aload_n 0, 1) := by decide +kernel
theorem dX6_rightAhead_49 : decode cX6_rightAhead 49 = .ok (.getfield 44, 3) := by decide +kernel
theorem dX6_rightAhead_52 : decode cX6_rightAhead 52 = .ok (.invokevirtual 326, 3) := by decide +kernel
theorem dX6_rightAhead_55 : decode cX6_rightAhead 55 = .ok (.istore 4, 2) := by decide +kernel
theorem dX6_rightAhead_57 : decode cX6_rightAhead 57 = .ok (.aload_n 0, 1) := by decide +kernel
theorem dX6_rightAhead_58 : decode cX6_rightAhead 58 = .ok (.getfield 61, 3) := by decide +kernel
theorem dX6_rightAhead_61 : decode cX6_rightAhead 61 = .ok (.iload_n 3, 1) := by decide +kernel
theorem dX6_rightAhead_62 : decode cX6_rightAhead 62 = .ok (.iaload, 1) := by decide +kernel
theorem dX6_rightAhead_63 : decode cX6_rightAhead 63 = .ok (.iload 4, 2) := by decide +kernel
theorem dX6_rightAhead_65 : decode cX6_rightAhead 65 = .ok (.if_icmp .eq 5, 3) := by decide +kernel
theorem dX6_rightAhead_68 : decode cX6_rightAhead 68 = .ok (.iload_n 3, 1) := by decide +kernel
theorem dX6_rightAhead_69 : decode cX6_rightAhead 69 = .ok (.ireturn, 1) := by decide +kernel
theorem dX6_rightAhead_70 : decode cX6_rightAhead 70 = .ok (.iinc 3 1, 3) := by decide +kernel
theorem dX6_rightAhead_73 : decode cX6_rightAhead 73 = .ok (.goto (-63), 3) := by decide +kernel
theorem dX6_rightAhead_76 : decode cX6_rightAhead 76 = .ok (.iload_n 2, 1) := by decide +kernel
theorem dX6_rightAhead_77 : decode cX6_rightAhead 77 = .ok (.ireturn, 1) := by decide +kernel
set_option maxHeartbeats 4000000 in
set_option maxRecDepth 100000 in
theorem w_X6_rightAhead_L10 {g : sk_G} {l : Launch} {p : Program} {e : Env} {s : State} {m : MethodId} {av : Array Value} {below : List Frame} {meth : Method} {c : Code} (C : sk_C g p s m av meth c cX6_rightAhead 5 RX6 (some .int)) (a2 : Int32) {rr : Int32} {MM : sk_M} :
    ∀ (n : Nat) (a3 : Int32) (M : sk_M) (H : Heap) (locs : List Loc) (ls : Array Slot), lv_has ls 5 [(0, .ref (sk_ad g 0)), (2, .int a2), (3, .int a3)] → sk_P g M H → va_S (sk_A g) s.heap H locs → ∀ {out : (Int32 × sk_M) ⊕ (sk_M)}, f_X6_rightAhead_L10 a2 n a3 M = some out → (∀ r, out = Sum.inl r → some r = some (rr, MM)) → (∀ (M1 : sk_M) (H : Heap) (locs : List Loc) (ls : Array Slot), some (Sum.inr M1) = some out → lv_has ls 5 [(2, .int a2)] → sk_P g M1 H → va_S (sk_A g) s.heap H locs → W p l e (sk_rm 6) s m av below meth c H locs 0 0 (MQ below (sk_QI g rr MM) av s 0 0 (sk_A g)) (F0 m 76 ls [])) → W p l e (sk_rm 6) s m av below meth c H locs 0 0 (MQ below (sk_QI g rr MM) av s 0 0 (sk_A g)) (F0 m 10 ls []) := by
  obtain ⟨hx, hb, hml, hown, hts, hK, hE, hr, hlocks⟩ := id C
  intro n
  induction n with
  | zero =>
    intro a3 M H locs ls hl hM hS out h
    cases h
  | succ n ih =>
    intro a3 M H locs ls hl hM hS out h kr kx
    rw [f_X6_rightAhead_L10] at h
    refine lv_iload_n hx hb dX6_rightAhead_10 rfl (lv_at hl 2 rfl) ?_
    refine lv_iload_n hx hb dX6_rightAhead_11 rfl (lv_at hl 1 rfl) ?_
    refine lv_icmp_ge hx hb dX6_rightAhead_12 rfl (fun hc => ?_) (fun hc => ?_)
    · have h := sk_pos h hc
      exact kx _ _ _ _ h (lv_sub hl [1] rfl) hM hS
    · have h := sk_neg h hc
      refine lv_iload_n hx hb dX6_rightAhead_15 rfl (lv_at hl 2 rfl) ?_
      refine lv_iconst (v := 2) hx hb dX6_rightAhead_16 (by decide) ?_
      refine lv_irem hx hb dX6_rightAhead_17 (by decide) ?_
      obtain ⟨y0_3, h_3, kg_3⟩ := sk_b1E h
      have J_3 : ∀ (M_6 : sk_M) (H : Heap) (locs : List Loc) (ls : Array Slot), some M_6 = some y0_3 → lv_has ls 5 [(0, .ref (sk_ad g 0)), (2, .int a2), (3, .int a3)] → sk_P g M_6 H → va_S (sk_A g) s.heap H locs → W p l e (sk_rm 6) s m av below meth c H locs 0 0 (MQ below (sk_QI g rr MM) av s 0 0 (sk_A g)) (F0 m 28 ls []) := by
        intro M_6 H locs ls he hl hM hS
        obtain rfl := Option.some.inj he
        have h := kg_3
        refine lv_iload_n hx hb dX6_rightAhead_28 rfl (lv_at hl 2 rfl) ?_
        refine lv_iconst (v := 2) hx hb dX6_rightAhead_29 (by decide) ?_
        refine lv_irem hx hb dX6_rightAhead_30 (by decide) ?_
        obtain ⟨y0_7, h_7, kg_7⟩ := sk_b1E h
        have J_7 : ∀ (x_13 : Int32) (H : Heap) (locs : List Loc) (ls : Array Slot), some x_13 = some y0_7 → lv_has ls 5 [(0, .ref (sk_ad g 0)), (2, .int a2), (3, .int a3)] → sk_P g M_6 H → va_S (sk_A g) s.heap H locs → W p l e (sk_rm 6) s m av below meth c H locs 0 0 (MQ below (sk_QI g rr MM) av s 0 0 (sk_A g)) (F0 m 55 ls [.int x_13]) := by
          intro x_13 H locs ls he hl hM hS
          obtain rfl := Option.some.inj he
          have h := kg_7
          refine lv_istore (lv' := [(4, .int x_13), (0, .ref (sk_ad g 0)), (2, .int a2), (3, .int a3)]) hx hb dX6_rightAhead_55 hl (by decide) rfl (fun ls hl => ?_)
          refine lv_aload_n hx hb dX6_rightAhead_57 rfl (lv_at hl 1 rfl) ?_
          refine sk_getR (o := 0) (ci := 6) (j := 8) (t := 3) C hM rfl rfl (by decide) rfl rfl kw_305 dX6_rightAhead_58 ?_
          refine lv_iload_n hx hb dX6_rightAhead_61 rfl (lv_at hl 3 rfl) ?_
          obtain ⟨i_14, h⟩ := sk_chkE h
          refine sk_iald (o := 3) C hM rfl i_14 dX6_rightAhead_62 ?_
          refine lv_iload hx hb dX6_rightAhead_63 (lv_at hl 0 rfl) ?_
          refine lv_icmp_eq hx hb dX6_rightAhead_65 rfl (fun hc => ?_) (fun hc => ?_)
          · have h := sk_pos h hc
            refine lv_iinc (v := (a3 + 1)) (lv' := [(3, .int (a3 + 1)), (4, .int x_13), (0, .ref (sk_ad g 0)), (2, .int a2)]) hx hb dX6_rightAhead_70 hl (k := 3) rfl rfl (by decide) rfl (fun ls hl => ?_)
            refine lv_goto hx hb dX6_rightAhead_73 rfl ?_
            exact ih (a3 + 1) M_6 _ _ _ (lv_sub hl [2, 3, 0] rfl) hM hS h kr kx
          · have h := sk_neg h hc
            refine lv_iload_n hx hb dX6_rightAhead_68 rfl (lv_at hl 3 rfl) ?_
            have h := kr _ (Option.some.inj h).symm
            exact sk_iret C hM hS (sk_e2 h) dX6_rightAhead_69
        have h := h_7
        refine lv_if_ne hx hb dX6_rightAhead_31 rfl (fun hc => ?_) (fun hc => ?_)
        · have h := sk_neg h hc
          refine lv_aload_n hx hb dX6_rightAhead_48 rfl (lv_at hl 0 rfl) ?_
          refine sk_getR (o := 0) (ci := 6) (j := 3) (t := 8) C hM rfl rfl (by decide) rfl rfl kw_300 dX6_rightAhead_49 ?_
          obtain ⟨x_8, h_9, h⟩ := sk_b1E h
          refine sk_contI (sk_runV (As := []) (rest := []) C (c_X4_sum g l 8 (Or.inr rfl) M_6 h_9) yo_X4_sum kw_902 (sk_recv (ci := 4) C hM rfl rfl) (by decide) hM hS hl.1 rfl rfl (Nat.le_of_ble_eq_true rfl) dX6_rightAhead_52) hS (fun H locs hM hS => ?_)
          exact J_7 _ _ _ _ h (lv_sub hl [0, 1, 2] rfl) hM hS
        · have h := sk_pos h hc
          refine lv_aload_n hx hb dX6_rightAhead_34 rfl (lv_at hl 0 rfl) ?_
          refine sk_getR (o := 0) (ci := 6) (j := 3) (t := 8) C hM rfl rfl (by decide) rfl rfl kw_300 dX6_rightAhead_35 ?_
          refine lv_iconst (v := 0) hx hb dX6_rightAhead_38 (by decide) ?_
          obtain ⟨x_10, h_11, h⟩ := sk_b1E h
          refine sk_contI (sk_runV (As := [.int 0]) (rest := []) C (c_X4_saidTo g l 8 (Or.inr rfl) 0 M_6 h_11) yo_X4_saidTo kw_534 (sk_recv (ci := 4) C hM rfl rfl) (by decide) hM hS hl.1 rfl rfl (Nat.le_of_ble_eq_true rfl) dX6_rightAhead_39) hS (fun H locs hM hS => ?_)
          refine sk_contI (sk_runS (As := [.int x_10]) (rest := []) C (c_X6_wordOr99 g l x_10 M_6 rfl) yo_X6_wordOr99 kw_626 (by decide) hM hS hl.1 rfl rfl (Nat.le_of_ble_eq_true rfl) dX6_rightAhead_42) hS (fun H locs hM hS => ?_)
          refine lv_goto hx hb dX6_rightAhead_45 rfl ?_
          exact J_7 _ _ _ _ h (lv_sub hl [0, 1, 2] rfl) hM hS
      have h := h_3
      refine lv_if_ne hx hb dX6_rightAhead_18 rfl (fun hc => ?_) (fun hc => ?_)
      · have h := sk_neg h hc
        exact J_3 _ _ _ _ h (lv_sub hl [0, 1, 2] rfl) hM hS
      · have h := sk_pos h hc
        refine lv_aload_n hx hb dX6_rightAhead_21 rfl (lv_at hl 0 rfl) ?_
        refine sk_getR (o := 0) (ci := 6) (j := 3) (t := 8) C hM rfl rfl (by decide) rfl rfl kw_300 dX6_rightAhead_22 ?_
        obtain ⟨M_4, h_5, h⟩ := sk_b1E h
        refine sk_contV (sk_runV (As := []) (rest := []) C (c_X4_passDay g l 8 (Or.inr rfl) M h_5) yo_X4_passDay kw_543 (sk_recv (ci := 4) C hM rfl rfl) (by decide) hM hS hl.1 rfl rfl (Nat.le_of_ble_eq_true rfl) dX6_rightAhead_25) hS (fun H locs hM hS => ?_)
        exact J_3 _ _ _ _ h (lv_sub hl [0, 1, 2] rfl) hM hS
set_option maxHeartbeats 4000000 in
set_option maxRecDepth 100000 in
theorem c_X6_rightAhead (g : sk_G) (l : Launch) (a1 : Int32) (a2 : Int32) (M : sk_M) {rr : Int32} {MM : sk_M} (h : f_X6_rightAhead a1 a2 M = some (rr, MM)) : sk_MI g l yX6_rightAhead cX6_rightAhead 5 (some .int) 6 [.ref (sk_ad g 0), .int a1, .int a2] M rr MM := by
  refine sk_go [(0, .ref (sk_ad g 0)), (1, .int a1), (2, .int a2)] (by decide) (Nat.le_of_ble_eq_true rfl) rfl ?_
  intro p e s m av below meth c C ls hl hM hS
  obtain ⟨hx, hb, hml, hown, hts, hK, hE, hr, hlocks⟩ := id C
  rw [f_X6_rightAhead] at h
  refine lv_aload_n hx hb dX6_rightAhead_0 rfl (lv_at hl 0 rfl) ?_
  refine sk_getR (o := 0) (ci := 6) (j := 3) (t := 8) C hM rfl rfl (by decide) rfl rfl kw_300 dX6_rightAhead_1 ?_
  refine lv_iload_n hx hb dX6_rightAhead_4 rfl (lv_at hl 1 rfl) ?_
  obtain ⟨M_1, h_2, h⟩ := sk_b1E h
  refine sk_contV (sk_runV (As := [.int a1]) (rest := []) C (c_X4_begin g l 8 (Or.inr rfl) a1 M h_2) yo_X4_begin kw_518 (sk_recv (ci := 4) C hM rfl rfl) (by decide) hM hS hl.1 rfl rfl (Nat.le_of_ble_eq_true rfl) dX6_rightAhead_5) hS (fun H locs hM hS => ?_)
  refine lv_iconst (v := 0) hx hb dX6_rightAhead_8 (by decide) ?_
  refine lv_istore_n (lv' := [(3, .int 0), (0, .ref (sk_ad g 0)), (1, .int a1), (2, .int a2)]) hx hb dX6_rightAhead_9 rfl hl (by decide) rfl (fun ls hl => ?_)
  obtain ⟨out_17, h_16, kf_18, kg_19⟩ := sk_s1E h
  refine w_X6_rightAhead_L10 C a2 sk_FU 0 M_1 _ _ _ (lv_sub hl [1, 3, 0] rfl) hM hS h_16 kf_18 (fun M_15 H locs ls he hl hM hS => ?_)
  have h := kg_19 M_15 (Option.some.inj he).symm
  refine lv_iload_n hx hb dX6_rightAhead_76 rfl (lv_at hl 0 rfl) ?_
  exact sk_iret C hM hS (sk_e2 h) dX6_rightAhead_77
theorem dX6_check_0 : decode cX6_check 0 = .ok (.aload_n 0, 1) := by decide +kernel
theorem dX6_check_1 : decode cX6_check 1 = .ok (.getfield 302, 3) := by decide +kernel
theorem dX6_check_4 : decode cX6_check 4 = .ok (.istore_n 3, 1) := by decide +kernel
theorem dX6_check_5 : decode cX6_check 5 = .ok (.aload_n 0, 1) := by decide +kernel
theorem dX6_check_6 : decode cX6_check 6 = .ok (.iconst 0, 1) := by decide +kernel
theorem dX6_check_7 : decode cX6_check 7 = .ok (.putfield 302, 3) := by decide +kernel
theorem dX6_check_10 : decode cX6_check 10 = .ok (.iload_n 2, 1) := by decide +kernel
theorem dX6_check_11 : decode cX6_check 11 = .ok (.iconst 1, 1) := by decide +kernel
theorem dX6_check_12 : decode cX6_check 12 = .ok (.bipush 30, 2) := by decide +kernel
theorem dX6_check_14 : decode cX6_check 14 = .ok (.invokestatic 75, 3) := by decide +kernel
theorem dX6_check_17 : decode cX6_check 17 = .ok (.ifCond .eq 12, 3) := by decide +kernel
theorem dX6_check_20 : decode cX6_check 20 = .ok (.iload_n 1, 1) := by decide +kernel
theorem dX6_check_21 : decode cX6_check 21 = .ok (.iconst 0, 1) := by decide +kernel
theorem dX6_check_22 : decode cX6_check 22 = .ok (.iconst 5, 1) := by decide +kernel
theorem dX6_check_23 : decode cX6_check 23 = .ok (.invokestatic 75, 3) := by decide +kernel
theorem dX6_check_26 : decode cX6_check 26 = .ok (.ifCond .ne 6, 3) := by decide +kernel
theorem dX6_check_29 : decode cX6_check 29 = .ok (.ldc 79, 2) := by decide +kernel
theorem dX6_check_31 : decode cX6_check 31 = .ok (.ireturn, 1) := by decide +kernel
theorem dX6_check_32 : decode cX6_check 32 = .ok (.aload_n 0, 1) := by decide +kernel
theorem dX6_check_33 : decode cX6_check 33 = .ok (.getfield 305, 3) := by decide +kernel
theorem dX6_check_36 : decode cX6_check 36 = .ok (.ifCond .eq 14, 3) := by decide +kernel
theorem dX6_check_39 : decode cX6_check 39 = .ok (.iload_n 1, 1) := by decide +kernel
theorem dX6_check_40 : decode cX6_check 40 = .ok (.aload_n 0, 1) := by decide +kernel
theorem dX6_check_41 : decode cX6_check 41 = .ok (.getfield 32, 3) := by decide +kernel
theorem dX6_check_44 : decode cX6_check 44 = .ok (.getfield 136, 3) := by decide +kernel
theorem dX6_check_47 : decode cX6_check 47 = .ok (.if_icmp .lt 6, 3) := by decide +kernel
theorem dX6_check_50 : decode cX6_check 50 = .ok (.ldc 200, 2) := by decide +kernel
theorem dX6_check_52 : decode cX6_check 52 = .ok (.ireturn, 1) := by decide +kernel
theorem dX6_check_53 : decode cX6_check 53 = .ok (.iconst 2, 1) := by decide +kernel
theorem dX6_check_54 : decode cX6_check 54 = .ok (.iload_n 2, 1) := by decide +kernel
theorem dX6_check_55 : decode cX6_check 55 = .ok (.sipush 9999, 3) := by decide +kernel
theorem dX6_check_58 : decode cX6_check 58 = .ok (.aload_n 0, 1) := by decide +kernel
theorem dX6_check_59 : decode cX6_check 59 = .ok (.getfield 32, 3) := by decide +kernel
theorem dX6_check_62 : decode cX6_check 62 = .ok (.getfield 149, 3) := by decide +kernel
theorem dX6_check_65 : decode cX6_check 65 = .ok (.isub, 1) := by decide +kernel
theorem dX6_check_66 : decode cX6_check 66 = .ok (.invokestatic 124, 3) := by decide +kernel
theorem dX6_check_69 : decode cX6_check 69 = .ok (.imul, 1) := by decide +kernel
theorem dX6_check_70 : decode cX6_check 70 = .ok (.istore 4, 2) := by decide +kernel
theorem dX6_check_72 : decode cX6_check 72 = .ok (.aload_n 0, 1) := by decide +kernel
theorem dX6_check_73 : decode cX6_check 73 = .ok (.iload_n 1, 1) := by decide +kernel
theorem dX6_check_74 : decode cX6_check 74 = .ok (.iload_n 3, 1) := by decide +kernel
theorem dX6_check_75 : decode cX6_check 75 = .ok (.iload 4, 2) := by decide +kernel
theorem dX6_check_77 : decode cX6_check 77 = .ok (.invokestatic 124, 3) := by decide +kernel
theorem dX6_check_80 : decode cX6_check 80 = .ok (.invokevirtual 309, 3) := by decide +kernel
theorem dX6_check_83 : decode cX6_check 83 = .ok (.istore 5, 2) := by decide +kernel
theorem dX6_check_85 : decode cX6_check 85 = .ok (.iload 5, 2) := by decide +kernel
theorem dX6_check_87 : decode cX6_check 87 = .ok (.iload 4, 2) := by decide +kernel
theorem dX6_check_89 : decode cX6_check 89 = .ok (.if_icmp .ne 13, 3) := by decide +kernel
theorem dX6_check_92 : decode cX6_check 92 = .ok (.iload_n 3, 1) := by decide +kernel
theorem dX6_check_93 : decode cX6_check 93 = .ok (.iload 4, 2) := by decide +kernel
theorem dX6_check_95 : decode cX6_check 95 = .ok (.if_icmp .ne 7, 3) := by decide +kernel
theorem dX6_check_98 : decode cX6_check 98 = .ok (.iconst 0, 1) := by decide +kernel
theorem dX6_check_99 : decode cX6_check 99 = .ok (.goto 7, 3) := by decide +kernel
theorem dX6_check_102 : decode cX6_check 102 = .ok (.iconst 1, 1) := by decide +kernel
theorem dX6_check_103 : decode cX6_check 103 = .ok (.iload 5, 2) := by decide +kernel
theorem dX6_check_105 : decode cX6_check 105 = .ok (.iadd, 1) := by decide +kernel
theorem dX6_check_106 : decode cX6_check 106 = .ok (.ireturn, 1) := by decide +kernel
set_option maxHeartbeats 4000000 in
set_option maxRecDepth 100000 in
theorem c_X6_check (g : sk_G) (l : Launch) (a1 : Int32) (a2 : Int32) (M : sk_M) {rr : Int32} {MM : sk_M} (h : f_X6_check a1 a2 M = some (rr, MM)) : sk_MI g l yX6_check cX6_check 6 (some .int) 7 [.ref (sk_ad g 0), .int a1, .int a2] M rr MM := by
  refine sk_go [(0, .ref (sk_ad g 0)), (1, .int a1), (2, .int a2)] (by decide) (Nat.le_of_ble_eq_true rfl) rfl ?_
  intro p e s m av below meth c C ls hl hM hS
  obtain ⟨hx, hb, hml, hown, hts, hK, hE, hr, hlocks⟩ := id C
  rw [f_X6_check] at h
  refine lv_aload_n hx hb dX6_check_0 rfl (lv_at hl 0 rfl) ?_
  refine sk_getI (o := 0) (ci := 6) (j := 11) C hM rfl rfl (by decide) rfl kw_308 dX6_check_1 ?_
  refine lv_topi (fun x_1 ex_1 => ?_)
  have h := sk_letU h ex_1
  refine lv_istore_n (lv' := [(3, .int x_1), (0, .ref (sk_ad g 0)), (1, .int a1), (2, .int a2)]) hx hb dX6_check_4 rfl hl (by decide) rfl (fun ls hl => ?_)
  refine lv_aload_n hx hb dX6_check_5 rfl (lv_at hl 1 rfl) ?_
  refine lv_iconst (v := 0) hx hb dX6_check_6 (by decide) ?_
  refine sk_putI (o := 0) (ci := 6) (j := 11) C hM hS rfl rfl (by decide) rfl rfl (tyX6_ok 11 (by decide)) kw_308 dX6_check_7 (fun M_2 eM_2 H locs hM hS => ?_)
  have h := sk_letU h eM_2
  refine lv_iload_n hx hb dX6_check_10 rfl (lv_at hl 3 rfl) ?_
  refine lv_iconst (v := 1) hx hb dX6_check_11 (by decide) ?_
  refine lv_bipush (v := 30) hx hb dX6_check_12 (by decide) ?_
  refine sk_contI (sk_runS (As := [.int a2, .int 1, .int 30]) (rest := []) C (c_X6_within g l a2 1 30 M_2 rfl) yo_X6_within kw_344 (by decide) hM hS hl.1 rfl rfl (Nat.le_of_ble_eq_true rfl) dX6_check_14) hS (fun H locs hM hS => ?_)
  refine lv_if_eq hx hb dX6_check_17 rfl (fun hc => ?_) (fun hc => ?_)
  · have h := sk_pos h hc
    refine lv_ldc (v := (-1000000001)) hx hb hown (hts _ kw_347) dX6_check_29 ?_
    exact sk_iret C hM hS (sk_e2 h) dX6_check_31
  · have h := sk_neg h hc
    refine lv_iload_n hx hb dX6_check_20 rfl (lv_at hl 2 rfl) ?_
    refine lv_iconst (v := 0) hx hb dX6_check_21 (by decide) ?_
    refine lv_iconst (v := 5) hx hb dX6_check_22 (by decide) ?_
    refine sk_contI (sk_runS (As := [.int a1, .int 0, .int 5]) (rest := []) C (c_X6_within g l a1 0 5 M_2 rfl) yo_X6_within kw_344 (by decide) hM hS hl.1 rfl rfl (Nat.le_of_ble_eq_true rfl) dX6_check_23) hS (fun H locs hM hS => ?_)
    refine lv_if_ne hx hb dX6_check_26 rfl (fun hc => ?_) (fun hc => ?_)
    · have h := sk_neg h hc
      refine lv_aload_n hx hb dX6_check_32 rfl (lv_at hl 1 rfl) ?_
      refine sk_getI (o := 0) (ci := 6) (j := 12) C hM rfl rfl (by decide) rfl kw_309 dX6_check_33 ?_
      refine lv_if_eq hx hb dX6_check_36 rfl (fun hc => ?_) (fun hc => ?_)
      · have h := sk_pos h hc
        refine lv_ldc (v := (-1000000002)) hx hb hown (hts _ kw_588) dX6_check_50 ?_
        exact sk_iret C hM hS (sk_e2 h) dX6_check_52
      · have h := sk_neg h hc
        refine lv_iload_n hx hb dX6_check_39 rfl (lv_at hl 2 rfl) ?_
        refine lv_aload_n hx hb dX6_check_40 rfl (lv_at hl 1 rfl) ?_
        refine sk_getR (o := 0) (ci := 6) (j := 1) (t := 26) C hM rfl rfl (by decide) rfl rfl kw_298 dX6_check_41 ?_
        refine sk_getI (o := 26) (ci := 5) (j := 12) C hM rfl rfl (by decide) rfl kw_190 dX6_check_44 ?_
        refine lv_icmp_lt hx hb dX6_check_47 rfl (fun hc => ?_) (fun hc => ?_)
        · have h := sk_pos h hc
          refine lv_iconst (v := 2) hx hb dX6_check_53 (by decide) ?_
          refine lv_iload_n hx hb dX6_check_54 rfl (lv_at hl 3 rfl) ?_
          refine lv_sipush (v := 9999) hx hb dX6_check_55 (by decide) ?_
          refine lv_aload_n hx hb dX6_check_58 rfl (lv_at hl 1 rfl) ?_
          refine sk_getR (o := 0) (ci := 6) (j := 1) (t := 26) C hM rfl rfl (by decide) rfl rfl kw_298 dX6_check_59 ?_
          refine sk_getI (o := 26) (ci := 5) (j := 14) C hM rfl rfl (by decide) rfl kw_195 dX6_check_62 ?_
          refine lv_isub hx hb dX6_check_65 ?_
          refine sk_mmin (d := 7) C hl.1 sk_wmin kw_410 (by decide) (Nat.le_of_ble_eq_true rfl) dX6_check_66 ?_
          refine lv_topi (fun x_5 ex_5 => ?_)
          have h := sk_letU h ex_5
          refine lv_imul hx hb dX6_check_69 ?_
          refine lv_topi (fun x_6 ex_6 => ?_)
          have h := sk_letU h ex_6
          refine lv_istore (lv' := [(4, .int x_6), (3, .int x_1), (0, .ref (sk_ad g 0)), (1, .int a1), (2, .int a2)]) hx hb dX6_check_70 hl (by decide) rfl (fun ls hl => ?_)
          refine lv_aload_n hx hb dX6_check_72 rfl (lv_at hl 2 rfl) ?_
          refine lv_iload_n hx hb dX6_check_73 rfl (lv_at hl 3 rfl) ?_
          refine lv_iload_n hx hb dX6_check_74 rfl (lv_at hl 1 rfl) ?_
          refine lv_iload hx hb dX6_check_75 (lv_at hl 0 rfl) ?_
          refine sk_mmin (d := 7) C hl.1 sk_wmin kw_410 (by decide) (Nat.le_of_ble_eq_true rfl) dX6_check_77 ?_
          obtain ⟨x_7, M_8, h_9, h⟩ := sk_b2E h
          refine sk_contI (sk_runV (As := [.int a1, .int (if x_6 < x_1 then x_6 else x_1)]) (rest := []) C (c_X6_rightAhead g l a1 (if x_6 < x_1 then x_6 else x_1) M_2 h_9) yo_X6_rightAhead kw_898 (sk_recv (ci := 6) C hM rfl rfl) (by decide) hM hS hl.1 rfl rfl (Nat.le_of_ble_eq_true rfl) dX6_check_80) hS (fun H locs hM hS => ?_)
          refine lv_istore (lv' := [(5, .int x_7), (4, .int x_6), (3, .int x_1), (0, .ref (sk_ad g 0)), (1, .int a1), (2, .int a2)]) hx hb dX6_check_83 hl (by decide) rfl (fun ls hl => ?_)
          refine lv_iload hx hb dX6_check_85 (lv_at hl 0 rfl) ?_
          refine lv_iload hx hb dX6_check_87 (lv_at hl 1 rfl) ?_
          have J : ∀ (vv : Int32) (H : Heap) (locs : List Loc), (if x_7 = x_6 then (if x_1 = x_6 then 0 else (1 + x_7) : Int32) else (1 + x_7) : Int32) = vv → sk_P g M_8 H → va_S (sk_A g) s.heap H locs → W p l e (sk_rm 7) s m av below meth c H locs 0 0 (MQ below (sk_QI g rr MM) av s 0 0 (sk_A g)) (F0 m 106 ls [.int vv]) := by
            intro vv H locs hvv hM hS
            subst hvv
            exact sk_iret C hM hS (sk_e2 h) dX6_check_106
          refine lv_icmp_ne hx hb dX6_check_89 rfl (fun hc => ?_) (fun hc => ?_)
          · have J := fun vv H locs q => J vv H locs ((if_neg hc).trans q)
            refine lv_iconst (v := 1) hx hb dX6_check_102 (by decide) ?_
            refine lv_iload hx hb dX6_check_103 (lv_at hl 0 rfl) ?_
            refine lv_iadd hx hb dX6_check_105 ?_
            exact J _ _ _ rfl hM hS
          · have J := fun vv H locs q => J vv H locs ((if_pos hc).trans q)
            refine lv_iload_n hx hb dX6_check_92 rfl (lv_at hl 2 rfl) ?_
            refine lv_iload hx hb dX6_check_93 (lv_at hl 1 rfl) ?_
            refine lv_icmp_ne hx hb dX6_check_95 rfl (fun hc => ?_) (fun hc => ?_)
            · have J := fun vv H locs q => J vv H locs ((if_neg hc).trans q)
              refine lv_iconst (v := 1) hx hb dX6_check_102 (by decide) ?_
              refine lv_iload hx hb dX6_check_103 (lv_at hl 0 rfl) ?_
              refine lv_iadd hx hb dX6_check_105 ?_
              exact J _ _ _ rfl hM hS
            · have J := fun vv H locs q => J vv H locs ((if_pos hc).trans q)
              refine lv_iconst (v := 0) hx hb dX6_check_98 (by decide) ?_
              refine lv_goto hx hb dX6_check_99 rfl ?_
              exact J _ _ _ rfl hM hS
        · have h := sk_neg h hc
          refine lv_ldc (v := (-1000000002)) hx hb hown (hts _ kw_588) dX6_check_50 ?_
          exact sk_iret C hM hS (sk_e2 h) dX6_check_52
    · have h := sk_pos h hc
      refine lv_ldc (v := (-1000000001)) hx hb hown (hts _ kw_347) dX6_check_29 ?_
      exact sk_iret C hM hS (sk_e2 h) dX6_check_31
theorem dX6_keep_0 : decode cX6_keep 0 = .ok (.aload_n 0, 1) := by decide +kernel
theorem dX6_keep_1 : decode cX6_keep 1 = .ok (.getfield 32, 3) := by decide +kernel
theorem dX6_keep_4 : decode cX6_keep 4 = .ok (.aload_n 0, 1) := by decide +kernel
theorem dX6_keep_5 : decode cX6_keep 5 = .ok (.getfield 28, 3) := by decide +kernel
theorem dX6_keep_8 : decode cX6_keep 8 = .ok (.invokevirtual 312, 3) := by decide +kernel
theorem dX6_keep_11 : decode cX6_keep 11 = .ok (.aload_n 0, 1) := by decide +kernel
theorem dX6_keep_12 : decode cX6_keep 12 = .ok (.iconst 1, 1) := by decide +kernel
theorem dX6_keep_13 : decode cX6_keep 13 = .ok (.putfield 305, 3) := by decide +kernel
theorem dX6_keep_16 : decode cX6_keep 16 = .ok (.aload_n 0, 1) := by decide +kernel
theorem dX6_keep_17 : decode cX6_keep 17 = .ok (.getfield 28, 3) := by decide +kernel
theorem dX6_keep_20 : decode cX6_keep 20 = .ok (.getfield 136, 3) := by decide +kernel
theorem dX6_keep_23 : decode cX6_keep 23 = .ok (.ireturn, 1) := by decide +kernel
set_option maxHeartbeats 4000000 in
set_option maxRecDepth 100000 in
theorem c_X6_keep (g : sk_G) (l : Launch)  (M : sk_M) {rr : Int32} {MM : sk_M} (h : f_X6_keep M = some (rr, MM)) : sk_MI g l yX6_keep cX6_keep 1 (some .int) 2 [.ref (sk_ad g 0)] M rr MM := by
  refine sk_go [(0, .ref (sk_ad g 0))] (by decide) (Nat.le_of_ble_eq_true rfl) rfl ?_
  intro p e s m av below meth c C ls hl hM hS
  obtain ⟨hx, hb, hml, hown, hts, hK, hE, hr, hlocks⟩ := id C
  rw [f_X6_keep] at h
  refine lv_aload_n hx hb dX6_keep_0 rfl (lv_at hl 0 rfl) ?_
  refine sk_getR (o := 0) (ci := 6) (j := 1) (t := 26) C hM rfl rfl (by decide) rfl rfl kw_298 dX6_keep_1 ?_
  refine lv_aload_n hx hb dX6_keep_4 rfl (lv_at hl 0 rfl) ?_
  refine sk_getR (o := 0) (ci := 6) (j := 0) (t := 10) C hM rfl rfl (by decide) rfl rfl kw_297 dX6_keep_5 ?_
  obtain ⟨M_1, h_2, h⟩ := sk_b1E h
  refine sk_contV (sk_runV (As := [.ref (sk_ad g 10)]) (rest := []) C (c_X5_becomeLike g l 26 (Or.inr rfl) 10 (Or.inl rfl) M h_2) yo_X5_becomeLike kw_911 (sk_recv (ci := 5) C hM rfl rfl) (by decide) hM hS hl.1 rfl rfl (Nat.le_of_ble_eq_true rfl) dX6_keep_8) hS (fun H locs hM hS => ?_)
  refine lv_aload_n hx hb dX6_keep_11 rfl (lv_at hl 0 rfl) ?_
  refine lv_iconst (v := 1) hx hb dX6_keep_12 (by decide) ?_
  refine sk_put (o := 0) (ci := 6) (j := 12) C hM hS rfl rfl (by decide) rfl rfl (tyX6_ok 12 (by decide)) (by decide) (by decide) kw_309 dX6_keep_13 (fun M_3 eM_3 H locs hM hS => ?_)
  have h := sk_letU h eM_3
  refine lv_aload_n hx hb dX6_keep_16 rfl (lv_at hl 0 rfl) ?_
  refine sk_getR (o := 0) (ci := 6) (j := 0) (t := 10) C hM rfl rfl (by decide) rfl rfl kw_297 dX6_keep_17 ?_
  refine sk_getI (o := 10) (ci := 5) (j := 12) C hM rfl rfl (by decide) rfl kw_190 dX6_keep_20 ?_
  exact sk_iret C hM hS (sk_e2 h) dX6_keep_23
theorem dX6_back_0 : decode cX6_back 0 = .ok (.aload_n 0, 1) := by decide +kernel
theorem dX6_back_1 : decode cX6_back 1 = .ok (.getfield 305, 3) := by decide +kernel
theorem dX6_back_4 : decode cX6_back 4 = .ok (.ifCond .ne 6, 3) := by decide +kernel
theorem dX6_back_7 : decode cX6_back 7 = .ok (.ldc 200, 2) := by decide +kernel
theorem dX6_back_9 : decode cX6_back 9 = .ok (.ireturn, 1) := by decide +kernel
theorem dX6_back_10 : decode cX6_back 10 = .ok (.aload_n 0, 1) := by decide +kernel
theorem dX6_back_11 : decode cX6_back 11 = .ok (.getfield 28, 3) := by decide +kernel
theorem dX6_back_14 : decode cX6_back 14 = .ok (.aload_n 0, 1) := by decide +kernel
theorem dX6_back_15 : decode cX6_back 15 = .ok (.getfield 32, 3) := by decide +kernel
theorem dX6_back_18 : decode cX6_back 18 = .ok (.invokevirtual 312, 3) := by decide +kernel
theorem dX6_back_21 : decode cX6_back 21 = .ok (.aload_n 0, 1) := by decide +kernel
theorem dX6_back_22 : decode cX6_back 22 = .ok (.getfield 28, 3) := by decide +kernel
theorem dX6_back_25 : decode cX6_back 25 = .ok (.getfield 136, 3) := by decide +kernel
theorem dX6_back_28 : decode cX6_back 28 = .ok (.ireturn, 1) := by decide +kernel
set_option maxHeartbeats 4000000 in
set_option maxRecDepth 100000 in
theorem c_X6_back (g : sk_G) (l : Launch)  (M : sk_M) {rr : Int32} {MM : sk_M} (h : f_X6_back M = some (rr, MM)) : sk_MI g l yX6_back cX6_back 1 (some .int) 2 [.ref (sk_ad g 0)] M rr MM := by
  refine sk_go [(0, .ref (sk_ad g 0))] (by decide) (Nat.le_of_ble_eq_true rfl) rfl ?_
  intro p e s m av below meth c C ls hl hM hS
  obtain ⟨hx, hb, hml, hown, hts, hK, hE, hr, hlocks⟩ := id C
  rw [f_X6_back] at h
  refine lv_aload_n hx hb dX6_back_0 rfl (lv_at hl 0 rfl) ?_
  refine sk_getI (o := 0) (ci := 6) (j := 12) C hM rfl rfl (by decide) rfl kw_309 dX6_back_1 ?_
  refine lv_if_ne hx hb dX6_back_4 rfl (fun hc => ?_) (fun hc => ?_)
  · have h := sk_neg h hc
    refine lv_aload_n hx hb dX6_back_10 rfl (lv_at hl 0 rfl) ?_
    refine sk_getR (o := 0) (ci := 6) (j := 0) (t := 10) C hM rfl rfl (by decide) rfl rfl kw_297 dX6_back_11 ?_
    refine lv_aload_n hx hb dX6_back_14 rfl (lv_at hl 0 rfl) ?_
    refine sk_getR (o := 0) (ci := 6) (j := 1) (t := 26) C hM rfl rfl (by decide) rfl rfl kw_298 dX6_back_15 ?_
    obtain ⟨M_1, h_2, h⟩ := sk_b1E h
    refine sk_contV (sk_runV (As := [.ref (sk_ad g 26)]) (rest := []) C (c_X5_becomeLike g l 10 (Or.inl rfl) 26 (Or.inr rfl) M h_2) yo_X5_becomeLike kw_911 (sk_recv (ci := 5) C hM rfl rfl) (by decide) hM hS hl.1 rfl rfl (Nat.le_of_ble_eq_true rfl) dX6_back_18) hS (fun H locs hM hS => ?_)
    refine lv_aload_n hx hb dX6_back_21 rfl (lv_at hl 0 rfl) ?_
    refine sk_getR (o := 0) (ci := 6) (j := 0) (t := 10) C hM rfl rfl (by decide) rfl rfl kw_297 dX6_back_22 ?_
    refine sk_getI (o := 10) (ci := 5) (j := 12) C hM rfl rfl (by decide) rfl kw_190 dX6_back_25 ?_
    exact sk_iret C hM hS (sk_e2 h) dX6_back_28
  · have h := sk_pos h hc
    refine lv_ldc (v := (-1000000002)) hx hb hown (hts _ kw_588) dX6_back_7 ?_
    exact sk_iret C hM hS (sk_e2 h) dX6_back_9
theorem dX6_count_0 : decode cX6_count 0 = .ok (.iload_n 1, 1) := by decide +kernel
theorem dX6_count_1 : decode cX6_count 1 = .ok (.tableswitch 120 0 8 #[51, 59, 67, 75, 83, 91, 99, 104, 112], 51) := by decide +kernel
theorem dX6_count_52 : decode cX6_count 52 = .ok (.aload_n 0, 1) := by decide +kernel
theorem dX6_count_53 : decode cX6_count 53 = .ok (.getfield 28, 3) := by decide +kernel
theorem dX6_count_56 : decode cX6_count 56 = .ok (.getfield 110, 3) := by decide +kernel
theorem dX6_count_59 : decode cX6_count 59 = .ok (.ireturn, 1) := by decide +kernel
theorem dX6_count_60 : decode cX6_count 60 = .ok (.aload_n 0, 1) := by decide +kernel
theorem dX6_count_61 : decode cX6_count 61 = .ok (.getfield 28, 3) := by decide +kernel
theorem dX6_count_64 : decode cX6_count 64 = .ok (.getfield 136, 3) := by decide +kernel
theorem dX6_count_67 : decode cX6_count 67 = .ok (.ireturn, 1) := by decide +kernel
theorem dX6_count_68 : decode cX6_count 68 = .ok (.aload_n 0, 1) := by decide +kernel
theorem dX6_count_69 : decode cX6_count 69 = .ok (.getfield 28, 3) := by decide +kernel
theorem dX6_count_72 : decode cX6_count 72 = .ok (.getfield 114, 3) := by decide +kernel
theorem dX6_count_75 : decode cX6_count 75 = .ok (.ireturn, 1) := by decide +kernel
theorem dX6_count_76 : decode cX6_count 76 = .ok (.aload_n 0, 1) := by decide +kernel
theorem dX6_count_77 : decode cX6_count 77 = .ok (.getfield 28, 3) := by decide +kernel
theorem dX6_count_80 : decode cX6_count 80 = .ok (.getfield 149, 3) := by decide +kernel
theorem dX6_count_83 : decode cX6_count 83 = .ok (.ireturn, 1) := by decide +kernel
theorem dX6_count_84 : decode cX6_count 84 = .ok (.aload_n 0, 1) := by decide +kernel
theorem dX6_count_85 : decode cX6_count 85 = .ok (.getfield 28, 3) := by decide +kernel
theorem dX6_count_88 : decode cX6_count 88 = .ok (.invokevirtual 314, 3) := by decide +kernel
theorem dX6_count_91 : decode cX6_count 91 = .ok (.ireturn, 1) := by decide +kernel
theorem dX6_count_92 : decode cX6_count 92 = .ok (.aload_n 0, 1) := by decide +kernel
theorem dX6_count_93 : decode cX6_count 93 = .ok (.getfield 28, 3) := by decide +kernel
theorem dX6_count_96 : decode cX6_count 96 = .ok (.getfield 247, 3) := by decide +kernel
theorem dX6_count_99 : decode cX6_count 99 = .ok (.ireturn, 1) := by decide +kernel
theorem dX6_count_100 : decode cX6_count 100 = .ok (.aload_n 0, 1) := by decide +kernel
theorem dX6_count_101 : decode cX6_count 101 = .ok (.getfield 302, 3) := by decide +kernel
theorem dX6_count_104 : decode cX6_count 104 = .ok (.ireturn, 1) := by decide +kernel
theorem dX6_count_105 : decode cX6_count 105 = .ok (.aload_n 0, 1) := by decide +kernel
theorem dX6_count_106 : decode cX6_count 106 = .ok (.getfield 19, 3) := by decide +kernel
theorem dX6_count_109 : decode cX6_count 109 = .ok (.getfield 238, 3) := by decide +kernel
theorem dX6_count_112 : decode cX6_count 112 = .ok (.ireturn, 1) := by decide +kernel
theorem dX6_count_113 : decode cX6_count 113 = .ok (.aload_n 0, 1) := by decide +kernel
theorem dX6_count_114 : decode cX6_count 114 = .ok (.getfield 28, 3) := by decide +kernel
theorem dX6_count_117 : decode cX6_count 117 = .ok (.getfield 133, 3) := by decide +kernel
theorem dX6_count_120 : decode cX6_count 120 = .ok (.ireturn, 1) := by decide +kernel
theorem dX6_count_121 : decode cX6_count 121 = .ok (.ldc 79, 2) := by decide +kernel
theorem dX6_count_123 : decode cX6_count 123 = .ok (.ireturn, 1) := by decide +kernel
set_option maxHeartbeats 4000000 in
set_option maxRecDepth 100000 in
theorem c_X6_count (g : sk_G) (l : Launch) (a1 : Int32) (M : sk_M) {rr : Int32} (h : f_X6_count a1 M = some rr) : sk_MI g l yX6_count cX6_count 2 (some .int) 3 [.ref (sk_ad g 0), .int a1] M rr M := by
  refine sk_go [(0, .ref (sk_ad g 0)), (1, .int a1)] (by decide) (Nat.le_of_ble_eq_true rfl) rfl ?_
  intro p e s m av below meth c C ls hl hM hS
  obtain ⟨hx, hb, hml, hown, hts, hK, hE, hr, hlocks⟩ := id C
  rw [f_X6_count] at h
  refine lv_iload_n hx hb dX6_count_0 rfl (lv_at hl 1 rfl) ?_
  by_cases hk_1 : a1 = 0
  · refine lv_tableIn (off := 51) hx hb dX6_count_1 (by rw [hk_1]; decide) (by rw [hk_1]; decide) (by rw [hk_1]; rfl) rfl ?_
    have h := sk_pos h hk_1
    refine lv_aload_n hx hb dX6_count_52 rfl (lv_at hl 0 rfl) ?_
    refine sk_getR (o := 0) (ci := 6) (j := 0) (t := 10) C hM rfl rfl (by decide) rfl rfl kw_297 dX6_count_53 ?_
    refine sk_getI (o := 10) (ci := 5) (j := 10) C hM rfl rfl (by decide) rfl kw_186 dX6_count_56 ?_
    exact sk_iret C hM hS ⟨Option.some.inj h, rfl⟩ dX6_count_59
  have h := sk_neg h hk_1
  by_cases hk_2 : a1 = 1
  · refine lv_tableIn (off := 59) hx hb dX6_count_1 (by rw [hk_2]; decide) (by rw [hk_2]; decide) (by rw [hk_2]; rfl) rfl ?_
    have h := sk_pos h hk_2
    refine lv_aload_n hx hb dX6_count_60 rfl (lv_at hl 0 rfl) ?_
    refine sk_getR (o := 0) (ci := 6) (j := 0) (t := 10) C hM rfl rfl (by decide) rfl rfl kw_297 dX6_count_61 ?_
    refine sk_getI (o := 10) (ci := 5) (j := 12) C hM rfl rfl (by decide) rfl kw_190 dX6_count_64 ?_
    exact sk_iret C hM hS ⟨Option.some.inj h, rfl⟩ dX6_count_67
  have h := sk_neg h hk_2
  by_cases hk_3 : a1 = 2
  · refine lv_tableIn (off := 67) hx hb dX6_count_1 (by rw [hk_3]; decide) (by rw [hk_3]; decide) (by rw [hk_3]; rfl) rfl ?_
    have h := sk_pos h hk_3
    refine lv_aload_n hx hb dX6_count_68 rfl (lv_at hl 0 rfl) ?_
    refine sk_getR (o := 0) (ci := 6) (j := 0) (t := 10) C hM rfl rfl (by decide) rfl rfl kw_297 dX6_count_69 ?_
    refine sk_getI (o := 10) (ci := 5) (j := 11) C hM rfl rfl (by decide) rfl kw_188 dX6_count_72 ?_
    exact sk_iret C hM hS ⟨Option.some.inj h, rfl⟩ dX6_count_75
  have h := sk_neg h hk_3
  by_cases hk_4 : a1 = 3
  · refine lv_tableIn (off := 75) hx hb dX6_count_1 (by rw [hk_4]; decide) (by rw [hk_4]; decide) (by rw [hk_4]; rfl) rfl ?_
    have h := sk_pos h hk_4
    refine lv_aload_n hx hb dX6_count_76 rfl (lv_at hl 0 rfl) ?_
    refine sk_getR (o := 0) (ci := 6) (j := 0) (t := 10) C hM rfl rfl (by decide) rfl rfl kw_297 dX6_count_77 ?_
    refine sk_getI (o := 10) (ci := 5) (j := 14) C hM rfl rfl (by decide) rfl kw_195 dX6_count_80 ?_
    exact sk_iret C hM hS ⟨Option.some.inj h, rfl⟩ dX6_count_83
  have h := sk_neg h hk_4
  by_cases hk_7 : a1 = 4
  · refine lv_tableIn (off := 83) hx hb dX6_count_1 (by rw [hk_7]; decide) (by rw [hk_7]; decide) (by rw [hk_7]; rfl) rfl ?_
    have h := sk_pos h hk_7
    refine lv_aload_n hx hb dX6_count_84 rfl (lv_at hl 0 rfl) ?_
    refine sk_getR (o := 0) (ci := 6) (j := 0) (t := 10) C hM rfl rfl (by decide) rfl rfl kw_297 dX6_count_85 ?_
    obtain ⟨x_5, h_6, h⟩ := sk_b1E h
    refine sk_contI (sk_runV (As := []) (rest := []) C (c_X5_sumOfAll g l 10 (Or.inl rfl) M h_6) yo_X5_sumOfAll kw_924 (sk_recv (ci := 5) C hM rfl rfl) (by decide) hM hS hl.1 rfl rfl (Nat.le_of_ble_eq_true rfl) dX6_count_88) hS (fun H locs hM hS => ?_)
    exact sk_iret C hM hS ⟨Option.some.inj h, rfl⟩ dX6_count_91
  have h := sk_neg h hk_7
  by_cases hk_8 : a1 = 5
  · refine lv_tableIn (off := 91) hx hb dX6_count_1 (by rw [hk_8]; decide) (by rw [hk_8]; decide) (by rw [hk_8]; rfl) rfl ?_
    have h := sk_pos h hk_8
    refine lv_aload_n hx hb dX6_count_92 rfl (lv_at hl 0 rfl) ?_
    refine sk_getR (o := 0) (ci := 6) (j := 0) (t := 10) C hM rfl rfl (by decide) rfl rfl kw_297 dX6_count_93 ?_
    refine sk_getI (o := 10) (ci := 5) (j := 13) C hM rfl rfl (by decide) rfl kw_192 dX6_count_96 ?_
    exact sk_iret C hM hS ⟨Option.some.inj h, rfl⟩ dX6_count_99
  have h := sk_neg h hk_8
  by_cases hk_9 : a1 = 6
  · refine lv_tableIn (off := 99) hx hb dX6_count_1 (by rw [hk_9]; decide) (by rw [hk_9]; decide) (by rw [hk_9]; rfl) rfl ?_
    have h := sk_pos h hk_9
    refine lv_aload_n hx hb dX6_count_100 rfl (lv_at hl 0 rfl) ?_
    refine sk_getI (o := 0) (ci := 6) (j := 11) C hM rfl rfl (by decide) rfl kw_308 dX6_count_101 ?_
    exact sk_iret C hM hS ⟨Option.some.inj h, rfl⟩ dX6_count_104
  have h := sk_neg h hk_9
  by_cases hk_10 : a1 = 7
  · refine lv_tableIn (off := 104) hx hb dX6_count_1 (by rw [hk_10]; decide) (by rw [hk_10]; decide) (by rw [hk_10]; rfl) rfl ?_
    have h := sk_pos h hk_10
    refine lv_aload_n hx hb dX6_count_105 rfl (lv_at hl 0 rfl) ?_
    refine sk_getR (o := 0) (ci := 6) (j := 5) (t := 62) C hM rfl rfl (by decide) rfl rfl kw_302 dX6_count_106 ?_
    refine sk_getI (o := 62) (ci := 0) (j := 2) C hM rfl rfl (by decide) rfl kw_124 dX6_count_109 ?_
    exact sk_iret C hM hS ⟨Option.some.inj h, rfl⟩ dX6_count_112
  have h := sk_neg h hk_10
  by_cases hk_11 : a1 = 8
  · refine lv_tableIn (off := 112) hx hb dX6_count_1 (by rw [hk_11]; decide) (by rw [hk_11]; decide) (by rw [hk_11]; rfl) rfl ?_
    have h := sk_pos h hk_11
    refine lv_aload_n hx hb dX6_count_113 rfl (lv_at hl 0 rfl) ?_
    refine sk_getR (o := 0) (ci := 6) (j := 0) (t := 10) C hM rfl rfl (by decide) rfl rfl kw_297 dX6_count_114 ?_
    refine sk_getI (o := 10) (ci := 5) (j := 15) C hM rfl rfl (by decide) rfl kw_197 dX6_count_117 ?_
    exact sk_iret C hM hS ⟨Option.some.inj h, rfl⟩ dX6_count_120
  have h := sk_neg h hk_11
  refine lv_tableOut hx hb dX6_count_1 (by have zhk_1 := sk_tn hk_1 (z := 0) rfl; have zhk_2 := sk_tn hk_2 (z := 1) rfl; have zhk_3 := sk_tn hk_3 (z := 2) rfl; have zhk_4 := sk_tn hk_4 (z := 3) rfl; have zhk_7 := sk_tn hk_7 (z := 4) rfl; have zhk_8 := sk_tn hk_8 (z := 5) rfl; have zhk_9 := sk_tn hk_9 (z := 6) rfl; have zhk_10 := sk_tn hk_10 (z := 7) rfl; have zhk_11 := sk_tn hk_11 (z := 8) rfl; omega) rfl ?_
  refine lv_ldc (v := (-1000000001)) hx hb hown (hts _ kw_347) dX6_count_121 ?_
  exact sk_iret C hM hS ⟨Option.some.inj h, rfl⟩ dX6_count_123
theorem dX7_isIn_0 : decode cX7_isIn 0 = .ok (.lload_n 0, 1) := by decide +kernel
theorem dX7_isIn_1 : decode cX7_isIn 1 = .ok (.lload_n 2, 1) := by decide +kernel
theorem dX7_isIn_2 : decode cX7_isIn 2 = .ok (.lcmp, 1) := by decide +kernel
theorem dX7_isIn_3 : decode cX7_isIn 3 = .ok (.ifCond .lt 14, 3) := by decide +kernel
theorem dX7_isIn_6 : decode cX7_isIn 6 = .ok (.lload_n 0, 1) := by decide +kernel
theorem dX7_isIn_7 : decode cX7_isIn 7 = .ok (.lload 4, 2) := by decide +kernel
theorem dX7_isIn_9 : decode cX7_isIn 9 = .ok (.lcmp, 1) := by decide +kernel
theorem dX7_isIn_10 : decode cX7_isIn 10 = .ok (.ifCond .gt 7, 3) := by decide +kernel
theorem dX7_isIn_13 : decode cX7_isIn 13 = .ok (.iconst 1, 1) := by decide +kernel
theorem dX7_isIn_14 : decode cX7_isIn 14 = .ok (.goto 4, 3) := by decide +kernel
theorem dX7_isIn_17 : decode cX7_isIn 17 = .ok (.iconst 0, 1) := by decide +kernel
theorem dX7_isIn_18 : decode cX7_isIn 18 = .ok (.ireturn, 1) := by decide +kernel
set_option maxHeartbeats 4000000 in
set_option maxRecDepth 100000 in
theorem c_X7_isIn (g : sk_G) (l : Launch) (a0 : Int64) (a2 : Int64) (a4 : Int64) (M : sk_M) {rr : Int32} (h : f_X7_isIn a0 a2 a4 = rr) : sk_MI g l yX7_isIn cX7_isIn 6 (some .boolean) 1 [.long a0, .long a2, .long a4] M rr M := by
  refine sk_go [(0, .long a0), (2, .long a2), (4, .long a4)] (by decide) (Nat.le_of_ble_eq_true rfl) rfl ?_
  intro p e s m av below meth c C ls hl hM hS
  obtain ⟨hx, hb, hml, hown, hts, hK, hE, hr, hlocks⟩ := id C
  rw [f_X7_isIn] at h
  refine lv_lload_n hx hb dX7_isIn_0 rfl (lv_at hl 0 rfl) ?_
  refine lv_lload_n hx hb dX7_isIn_1 rfl (lv_at hl 1 rfl) ?_
  refine W.lcmp hx hb dX7_isIn_2 ?_
  have J : ∀ (vv : Int32) (H : Heap) (locs : List Loc), (if (lg_cmp a0 a2) < 0 then 0 else (if 0 < (lg_cmp a0 a4) then 0 else 1 : Int32) : Int32) = vv → sk_P g M H → va_S (sk_A g) s.heap H locs → W p l e (sk_rm 1) s m av below meth c H locs 0 0 (MQ below (sk_QI g rr M) av s 0 0 (sk_A g)) (F0 m 18 ls [.int vv]) := by
    intro vv H locs hvv hM hS
    subst hvv
    exact sk_zret C hM hS (sk_nz (sk_zi (Or.inl rfl) (sk_zi (Or.inl rfl) (Or.inr rfl)))) ⟨h, rfl⟩ dX7_isIn_18
  refine lv_if_lt hx hb dX7_isIn_3 rfl (fun hc => ?_) (fun hc => ?_)
  · have J := fun vv H locs q => J vv H locs ((if_pos hc).trans q)
    refine lv_iconst (v := 0) hx hb dX7_isIn_17 (by decide) ?_
    exact J _ _ _ rfl hM hS
  · have J := fun vv H locs q => J vv H locs ((if_neg hc).trans q)
    refine lv_lload_n hx hb dX7_isIn_6 rfl (lv_at hl 0 rfl) ?_
    refine lv_lload hx hb dX7_isIn_7 (lv_at hl 2 rfl) ?_
    refine W.lcmp hx hb dX7_isIn_9 ?_
    refine lv_if_gt hx hb dX7_isIn_10 rfl (fun hc => ?_) (fun hc => ?_)
    · have J := fun vv H locs q => J vv H locs ((if_pos hc).trans q)
      refine lv_iconst (v := 0) hx hb dX7_isIn_17 (by decide) ?_
      exact J _ _ _ rfl hM hS
    · have J := fun vv H locs q => J vv H locs ((if_neg hc).trans q)
      refine lv_iconst (v := 1) hx hb dX7_isIn_13 (by decide) ?_
      refine lv_goto hx hb dX7_isIn_14 rfl ?_
      exact J _ _ _ rfl hM hS
theorem dX7_orNone_0 : decode cX7_orNone 0 = .ok (.iload_n 0, 1) := by decide +kernel
theorem dX7_orNone_1 : decode cX7_orNone 1 = .ok (.ifCond .ge 8, 3) := by decide +kernel
theorem dX7_orNone_4 : decode cX7_orNone 4 = .ok (.ldc 70, 2) := by decide +kernel
theorem dX7_orNone_6 : decode cX7_orNone 6 = .ok (.goto 4, 3) := by decide +kernel
theorem dX7_orNone_9 : decode cX7_orNone 9 = .ok (.iload_n 0, 1) := by decide +kernel
theorem dX7_orNone_10 : decode cX7_orNone 10 = .ok (.ireturn, 1) := by decide +kernel
set_option maxHeartbeats 4000000 in
set_option maxRecDepth 100000 in
theorem c_X7_orNone (g : sk_G) (l : Launch) (a0 : Int32) (M : sk_M) {rr : Int32} (h : f_X7_orNone a0 = rr) : sk_MI g l yX7_orNone cX7_orNone 1 (some .int) 1 [.int a0] M rr M := by
  refine sk_go [(0, .int a0)] (by decide) (Nat.le_of_ble_eq_true rfl) rfl ?_
  intro p e s m av below meth c C ls hl hM hS
  obtain ⟨hx, hb, hml, hown, hts, hK, hE, hr, hlocks⟩ := id C
  rw [f_X7_orNone] at h
  refine lv_iload_n hx hb dX7_orNone_0 rfl (lv_at hl 0 rfl) ?_
  have J : ∀ (vv : Int32) (H : Heap) (locs : List Loc), (if 0 ≤ a0 then a0 else (-1000000005) : Int32) = vv → sk_P g M H → va_S (sk_A g) s.heap H locs → W p l e (sk_rm 1) s m av below meth c H locs 0 0 (MQ below (sk_QI g rr M) av s 0 0 (sk_A g)) (F0 m 10 ls [.int vv]) := by
    intro vv H locs hvv hM hS
    subst hvv
    exact sk_iret C hM hS ⟨h, rfl⟩ dX7_orNone_10
  refine lv_if_ge hx hb dX7_orNone_1 rfl (fun hc => ?_) (fun hc => ?_)
  · have J := fun vv H locs q => J vv H locs ((if_pos hc).trans q)
    refine lv_iload_n hx hb dX7_orNone_9 rfl (lv_at hl 0 rfl) ?_
    exact J _ _ _ rfl hM hS
  · have J := fun vv H locs q => J vv H locs ((if_neg hc).trans q)
    refine lv_ldc (v := (-1000000005)) hx hb hown (hts _ kw_1212) dX7_orNone_4 ?_
    refine lv_goto hx hb dX7_orNone_6 rfl ?_
    exact J _ _ _ rfl hM hS
theorem dX7_within_0 : decode cX7_within 0 = .ok (.iload_n 0, 1) := by decide +kernel
theorem dX7_within_1 : decode cX7_within 1 = .ok (.ifCond .ge 7, 3) := by decide +kernel
theorem dX7_within_4 : decode cX7_within 4 = .ok (.iconst 0, 1) := by decide +kernel
theorem dX7_within_5 : decode cX7_within 5 = .ok (.goto 13, 3) := by decide +kernel
theorem dX7_within_8 : decode cX7_within 8 = .ok (.iload_n 0, 1) := by decide +kernel
theorem dX7_within_9 : decode cX7_within 9 = .ok (.iload_n 1, 1) := by decide +kernel
theorem dX7_within_10 : decode cX7_within 10 = .ok (.if_icmp .le 7, 3) := by decide +kernel
theorem dX7_within_13 : decode cX7_within 13 = .ok (.iload_n 1, 1) := by decide +kernel
theorem dX7_within_14 : decode cX7_within 14 = .ok (.goto 4, 3) := by decide +kernel
theorem dX7_within_17 : decode cX7_within 17 = .ok (.iload_n 0, 1) := by decide +kernel
theorem dX7_within_18 : decode cX7_within 18 = .ok (.ireturn, 1) := by decide +kernel
set_option maxHeartbeats 4000000 in
set_option maxRecDepth 100000 in
theorem c_X7_within (g : sk_G) (l : Launch) (a0 : Int32) (a1 : Int32) (M : sk_M) {rr : Int32} (h : f_X7_within a0 a1 = rr) : sk_MI g l yX7_within cX7_within 2 (some .int) 1 [.int a0, .int a1] M rr M := by
  refine sk_go [(0, .int a0), (1, .int a1)] (by decide) (Nat.le_of_ble_eq_true rfl) rfl ?_
  intro p e s m av below meth c C ls hl hM hS
  obtain ⟨hx, hb, hml, hown, hts, hK, hE, hr, hlocks⟩ := id C
  rw [f_X7_within] at h
  refine lv_iload_n hx hb dX7_within_0 rfl (lv_at hl 0 rfl) ?_
  have J : ∀ (vv : Int32) (H : Heap) (locs : List Loc), (if 0 ≤ a0 then (if a0 ≤ a1 then a0 else a1 : Int32) else 0 : Int32) = vv → sk_P g M H → va_S (sk_A g) s.heap H locs → W p l e (sk_rm 1) s m av below meth c H locs 0 0 (MQ below (sk_QI g rr M) av s 0 0 (sk_A g)) (F0 m 18 ls [.int vv]) := by
    intro vv H locs hvv hM hS
    subst hvv
    exact sk_iret C hM hS ⟨h, rfl⟩ dX7_within_18
  refine lv_if_ge hx hb dX7_within_1 rfl (fun hc => ?_) (fun hc => ?_)
  · have J := fun vv H locs q => J vv H locs ((if_pos hc).trans q)
    refine lv_iload_n hx hb dX7_within_8 rfl (lv_at hl 0 rfl) ?_
    refine lv_iload_n hx hb dX7_within_9 rfl (lv_at hl 1 rfl) ?_
    refine lv_icmp_le hx hb dX7_within_10 rfl (fun hc => ?_) (fun hc => ?_)
    · have J := fun vv H locs q => J vv H locs ((if_pos hc).trans q)
      refine lv_iload_n hx hb dX7_within_17 rfl (lv_at hl 0 rfl) ?_
      exact J _ _ _ rfl hM hS
    · have J := fun vv H locs q => J vv H locs ((if_neg hc).trans q)
      refine lv_iload_n hx hb dX7_within_13 rfl (lv_at hl 1 rfl) ?_
      refine lv_goto hx hb dX7_within_14 rfl ?_
      exact J _ _ _ rfl hM hS
  · have J := fun vv H locs q => J vv H locs ((if_neg hc).trans q)
    refine lv_iconst (v := 0) hx hb dX7_within_4 (by decide) ?_
    refine lv_goto hx hb dX7_within_5 rfl ?_
    exact J _ _ _ rfl hM hS
theorem dX7_becomes_0 : decode cX7_becomes 0 = .ok (.aload_n 0, 1) := by decide +kernel
theorem dX7_becomes_1 : decode cX7_becomes 1 = .ok (.getfield 7, 3) := by decide +kernel
theorem dX7_becomes_4 : decode cX7_becomes 4 = .ok (.iload_n 1, 1) := by decide +kernel
theorem dX7_becomes_5 : decode cX7_becomes 5 = .ok (.iaload, 1) := by decide +kernel
theorem dX7_becomes_6 : decode cX7_becomes 6 = .ok (.istore_n 3, 1) := by decide +kernel
theorem dX7_becomes_7 : decode cX7_becomes 7 = .ok (.aload_n 0, 1) := by decide +kernel
theorem dX7_becomes_8 : decode cX7_becomes 8 = .ok (.getfield 7, 3) := by decide +kernel
theorem dX7_becomes_11 : decode cX7_becomes 11 = .ok (.iload_n 1, 1) := by decide +kernel
theorem dX7_becomes_12 : decode cX7_becomes 12 = .ok (.iload_n 2, 1) := by decide +kernel
theorem dX7_becomes_13 : decode cX7_becomes 13 = .ok (.iastore, 1) := by decide +kernel
theorem dX7_becomes_14 : decode cX7_becomes 14 = .ok (.iload_n 3, 1) := by decide +kernel
theorem dX7_becomes_15 : decode cX7_becomes 15 = .ok (.ireturn, 1) := by decide +kernel
set_option maxHeartbeats 4000000 in
set_option maxRecDepth 100000 in
theorem c_X7_becomes (g : sk_G) (l : Launch) (a1 : Int32) (a2 : Int32) (M : sk_M) {rr : Int32} {MM : sk_M} (h : f_X7_becomes a1 a2 M = some (rr, MM)) : sk_MI g l yX7_becomes cX7_becomes 4 (some .int) 1 [.ref (sk_ad g 88), .int a1, .int a2] M rr MM := by
  refine sk_go [(0, .ref (sk_ad g 88)), (1, .int a1), (2, .int a2)] (by decide) (Nat.le_of_ble_eq_true rfl) rfl ?_
  intro p e s m av below meth c C ls hl hM hS
  obtain ⟨hx, hb, hml, hown, hts, hK, hE, hr, hlocks⟩ := id C
  rw [f_X7_becomes] at h
  refine lv_aload_n hx hb dX7_becomes_0 rfl (lv_at hl 0 rfl) ?_
  refine sk_getR (o := 88) (ci := 7) (j := 0) (t := 89) C hM rfl rfl (by decide) rfl rfl kw_935 dX7_becomes_1 ?_
  refine lv_iload_n hx hb dX7_becomes_4 rfl (lv_at hl 1 rfl) ?_
  obtain ⟨i_1, h⟩ := sk_chkE h
  refine sk_iald (o := 89) C hM rfl i_1 dX7_becomes_5 ?_
  refine lv_topi (fun x_2 ex_2 => ?_)
  have h := sk_letU h ex_2
  refine lv_istore_n (lv' := [(3, .int x_2), (0, .ref (sk_ad g 88)), (1, .int a1), (2, .int a2)]) hx hb dX7_becomes_6 rfl hl (by decide) rfl (fun ls hl => ?_)
  refine lv_aload_n hx hb dX7_becomes_7 rfl (lv_at hl 1 rfl) ?_
  refine sk_getR (o := 88) (ci := 7) (j := 0) (t := 89) C hM rfl rfl (by decide) rfl rfl kw_935 dX7_becomes_8 ?_
  refine lv_iload_n hx hb dX7_becomes_11 rfl (lv_at hl 2 rfl) ?_
  refine lv_iload_n hx hb dX7_becomes_12 rfl (lv_at hl 3 rfl) ?_
  obtain ⟨i_3, h⟩ := sk_chkE h
  refine sk_iast (o := 89) C hM hS rfl i_3 dX7_becomes_13 (fun M_4 eM_4 H locs hM hS => ?_)
  have h := sk_letU h eM_4
  refine lv_iload_n hx hb dX7_becomes_14 rfl (lv_at hl 0 rfl) ?_
  exact sk_iret C hM hS (sk_e2 h) dX7_becomes_15
theorem dX7_textAt_0 : decode cX7_textAt 0 = .ok (.bipush 109, 2) := by decide +kernel
theorem dX7_textAt_2 : decode cX7_textAt 2 = .ok (.sipush 200, 3) := by decide +kernel
theorem dX7_textAt_5 : decode cX7_textAt 5 = .ok (.iload_n 1, 1) := by decide +kernel
theorem dX7_textAt_6 : decode cX7_textAt 6 = .ok (.imul, 1) := by decide +kernel
theorem dX7_textAt_7 : decode cX7_textAt 7 = .ok (.iadd, 1) := by decide +kernel
theorem dX7_textAt_8 : decode cX7_textAt 8 = .ok (.ireturn, 1) := by decide +kernel
set_option maxHeartbeats 4000000 in
set_option maxRecDepth 100000 in
theorem c_X7_textAt (g : sk_G) (l : Launch) (a1 : Int32) (M : sk_M) {rr : Int32} (h : f_X7_textAt a1 = rr) : sk_MI g l yX7_textAt cX7_textAt 2 (some .int) 1 [.ref (sk_ad g 88), .int a1] M rr M := by
  refine sk_go [(0, .ref (sk_ad g 88)), (1, .int a1)] (by decide) (Nat.le_of_ble_eq_true rfl) rfl ?_
  intro p e s m av below meth c C ls hl hM hS
  obtain ⟨hx, hb, hml, hown, hts, hK, hE, hr, hlocks⟩ := id C
  rw [f_X7_textAt] at h
  refine lv_bipush (v := 109) hx hb dX7_textAt_0 (by decide) ?_
  refine lv_sipush (v := 200) hx hb dX7_textAt_2 (by decide) ?_
  refine lv_iload_n hx hb dX7_textAt_5 rfl (lv_at hl 1 rfl) ?_
  refine lv_imul hx hb dX7_textAt_6 ?_
  refine lv_iadd hx hb dX7_textAt_7 ?_
  exact sk_iret C hM hS ⟨h, rfl⟩ dX7_textAt_8
theorem dX7_of_0 : decode cX7_of 0 = .ok (.aload_n 0, 1) := by decide +kernel
theorem dX7_of_1 : decode cX7_of 1 = .ok (.getfield 7, 3) := by decide +kernel
theorem dX7_of_4 : decode cX7_of 4 = .ok (.bipush 10, 2) := by decide +kernel
theorem dX7_of_6 : decode cX7_of 6 = .ok (.iconst 3, 1) := by decide +kernel
theorem dX7_of_7 : decode cX7_of 7 = .ok (.iload_n 1, 1) := by decide +kernel
theorem dX7_of_8 : decode cX7_of 8 = .ok (.imul, 1) := by decide +kernel
theorem dX7_of_9 : decode cX7_of 9 = .ok (.iadd, 1) := by decide +kernel
theorem dX7_of_10 : decode cX7_of 10 = .ok (.iload_n 2, 1) := by decide +kernel
theorem dX7_of_11 : decode cX7_of 11 = .ok (.iadd, 1) := by decide +kernel
theorem dX7_of_12 : decode cX7_of 12 = .ok (.iaload, 1) := by decide +kernel
theorem dX7_of_13 : decode cX7_of 13 = .ok (.ireturn, 1) := by decide +kernel
set_option maxHeartbeats 4000000 in
set_option maxRecDepth 100000 in
theorem c_X7_of (g : sk_G) (l : Launch) (a1 : Int32) (a2 : Int32) (M : sk_M) {rr : Int32} (h : f_X7_of a1 a2 M = some rr) : sk_MI g l yX7_of cX7_of 3 (some .int) 1 [.ref (sk_ad g 88), .int a1, .int a2] M rr M := by
  refine sk_go [(0, .ref (sk_ad g 88)), (1, .int a1), (2, .int a2)] (by decide) (Nat.le_of_ble_eq_true rfl) rfl ?_
  intro p e s m av below meth c C ls hl hM hS
  obtain ⟨hx, hb, hml, hown, hts, hK, hE, hr, hlocks⟩ := id C
  rw [f_X7_of] at h
  refine lv_aload_n hx hb dX7_of_0 rfl (lv_at hl 0 rfl) ?_
  refine sk_getR (o := 88) (ci := 7) (j := 0) (t := 89) C hM rfl rfl (by decide) rfl rfl kw_935 dX7_of_1 ?_
  refine lv_bipush (v := 10) hx hb dX7_of_4 (by decide) ?_
  refine lv_iconst (v := 3) hx hb dX7_of_6 (by decide) ?_
  refine lv_iload_n hx hb dX7_of_7 rfl (lv_at hl 1 rfl) ?_
  refine lv_imul hx hb dX7_of_8 ?_
  refine lv_iadd hx hb dX7_of_9 ?_
  refine lv_iload_n hx hb dX7_of_10 rfl (lv_at hl 2 rfl) ?_
  refine lv_iadd hx hb dX7_of_11 ?_
  obtain ⟨i_1, h⟩ := sk_chkE h
  refine sk_iald (o := 89) C hM rfl i_1 dX7_of_12 ?_
  exact sk_iret C hM hS ⟨Option.some.inj h, rfl⟩ dX7_of_13
theorem dX7_on_0 : decode cX7_on 0 = .ok (.aload_n 0, 1) := by decide +kernel
theorem dX7_on_1 : decode cX7_on 1 = .ok (.getfield 7, 3) := by decide +kernel
theorem dX7_on_4 : decode cX7_on 4 = .ok (.bipush 43, 2) := by decide +kernel
theorem dX7_on_6 : decode cX7_on 6 = .ok (.bipush 9, 2) := by decide +kernel
theorem dX7_on_8 : decode cX7_on 8 = .ok (.iload_n 1, 1) := by decide +kernel
theorem dX7_on_9 : decode cX7_on 9 = .ok (.imul, 1) := by decide +kernel
theorem dX7_on_10 : decode cX7_on 10 = .ok (.iadd, 1) := by decide +kernel
theorem dX7_on_11 : decode cX7_on 11 = .ok (.iload_n 2, 1) := by decide +kernel
theorem dX7_on_12 : decode cX7_on 12 = .ok (.iadd, 1) := by decide +kernel
theorem dX7_on_13 : decode cX7_on 13 = .ok (.iaload, 1) := by decide +kernel
theorem dX7_on_14 : decode cX7_on 14 = .ok (.ireturn, 1) := by decide +kernel
set_option maxHeartbeats 4000000 in
set_option maxRecDepth 100000 in
theorem c_X7_on (g : sk_G) (l : Launch) (a1 : Int32) (a2 : Int32) (M : sk_M) {rr : Int32} (h : f_X7_on a1 a2 M = some rr) : sk_MI g l yX7_on cX7_on 3 (some .int) 1 [.ref (sk_ad g 88), .int a1, .int a2] M rr M := by
  refine sk_go [(0, .ref (sk_ad g 88)), (1, .int a1), (2, .int a2)] (by decide) (Nat.le_of_ble_eq_true rfl) rfl ?_
  intro p e s m av below meth c C ls hl hM hS
  obtain ⟨hx, hb, hml, hown, hts, hK, hE, hr, hlocks⟩ := id C
  rw [f_X7_on] at h
  refine lv_aload_n hx hb dX7_on_0 rfl (lv_at hl 0 rfl) ?_
  refine sk_getR (o := 88) (ci := 7) (j := 0) (t := 89) C hM rfl rfl (by decide) rfl rfl kw_935 dX7_on_1 ?_
  refine lv_bipush (v := 43) hx hb dX7_on_4 (by decide) ?_
  refine lv_bipush (v := 9) hx hb dX7_on_6 (by decide) ?_
  refine lv_iload_n hx hb dX7_on_8 rfl (lv_at hl 1 rfl) ?_
  refine lv_imul hx hb dX7_on_9 ?_
  refine lv_iadd hx hb dX7_on_10 ?_
  refine lv_iload_n hx hb dX7_on_11 rfl (lv_at hl 2 rfl) ?_
  refine lv_iadd hx hb dX7_on_12 ?_
  obtain ⟨i_1, h⟩ := sk_chkE h
  refine sk_iald (o := 89) C hM rfl i_1 dX7_on_13 ?_
  exact sk_iret C hM hS ⟨Option.some.inj h, rfl⟩ dX7_on_14
theorem dX7_isScent_0 : decode cX7_isScent 0 = .ok (.iload_n 1, 1) := by decide +kernel
theorem dX7_isScent_1 : decode cX7_isScent 1 = .ok (.i2l, 1) := by decide +kernel
theorem dX7_isScent_2 : decode cX7_isScent 2 = .ok (.lconst 0, 1) := by decide +kernel
theorem dX7_isScent_3 : decode cX7_isScent 3 = .ok (.aload_n 0, 1) := by decide +kernel
theorem dX7_isScent_4 : decode cX7_isScent 4 = .ok (.getfield 7, 3) := by decide +kernel
theorem dX7_isScent_7 : decode cX7_isScent 7 = .ok (.iconst 0, 1) := by decide +kernel
theorem dX7_isScent_8 : decode cX7_isScent 8 = .ok (.iaload, 1) := by decide +kernel
theorem dX7_isScent_9 : decode cX7_isScent 9 = .ok (.iconst 1, 1) := by decide +kernel
theorem dX7_isScent_10 : decode cX7_isScent 10 = .ok (.isub, 1) := by decide +kernel
theorem dX7_isScent_11 : decode cX7_isScent 11 = .ok (.i2l, 1) := by decide +kernel
theorem dX7_isScent_12 : decode cX7_isScent 12 = .ok (.invokestatic 71, 3) := by decide +kernel
theorem dX7_isScent_15 : decode cX7_isScent 15 = .ok (.ireturn, 1) := by decide +kernel
set_option maxHeartbeats 4000000 in
set_option maxRecDepth 100000 in
theorem c_X7_isScent (g : sk_G) (l : Launch) (a1 : Int32) (M : sk_M) {rr : Int32} (h : f_X7_isScent a1 M = rr) : sk_MI g l yX7_isScent cX7_isScent 2 (some .boolean) 2 [.ref (sk_ad g 88), .int a1] M rr M := by
  refine sk_go [(0, .ref (sk_ad g 88)), (1, .int a1)] (by decide) (Nat.le_of_ble_eq_true rfl) rfl ?_
  intro p e s m av below meth c C ls hl hM hS
  obtain ⟨hx, hb, hml, hown, hts, hK, hE, hr, hlocks⟩ := id C
  rw [f_X7_isScent] at h
  refine lv_iload_n hx hb dX7_isScent_0 rfl (lv_at hl 1 rfl) ?_
  refine lv_i2l (v := a1.toInt64) hx hb dX7_isScent_1 rfl ?_
  refine lv_lconst (v := 0) hx hb dX7_isScent_2 (by decide) ?_
  refine lv_aload_n hx hb dX7_isScent_3 rfl (lv_at hl 0 rfl) ?_
  refine sk_getR (o := 88) (ci := 7) (j := 0) (t := 89) C hM rfl rfl (by decide) rfl rfl kw_935 dX7_isScent_4 ?_
  refine lv_iconst (v := 0) hx hb dX7_isScent_7 (by decide) ?_
  refine sk_iald (o := 89) C hM rfl (by decide) dX7_isScent_8 ?_
  refine W.eq (g2 := F0 m 9 ls [.int (M 89 0), .long 0, .long (a1.toInt64)]) rfl ?_
  refine lv_iconst (v := 1) hx hb dX7_isScent_9 (by decide) ?_
  refine lv_isub hx hb dX7_isScent_10 ?_
  refine lv_i2l (v := (((M 89 0) - 1)).toInt64) hx hb dX7_isScent_11 rfl ?_
  refine sk_contI (sk_runS (As := [.long (a1.toInt64), .long 0, .long ((((M 89 0) - 1)).toInt64)]) (rest := []) C (c_X7_isIn g l (a1.toInt64) 0 ((((M 89 0) - 1)).toInt64) M rfl) yo_X7_isIn kw_1040 (by decide) hM hS hl.1 rfl rfl (Nat.le_of_ble_eq_true rfl) dX7_isScent_12) hS (fun H locs hM hS => ?_)
  exact sk_zret C hM hS (sk_nz (fz_X7_isIn (a1.toInt64) 0 ((((M 89 0) - 1)).toInt64))) ⟨h, rfl⟩ dX7_isScent_15
theorem dX7_isCloth_0 : decode cX7_isCloth 0 = .ok (.iload_n 1, 1) := by decide +kernel
theorem dX7_isCloth_1 : decode cX7_isCloth 1 = .ok (.i2l, 1) := by decide +kernel
theorem dX7_isCloth_2 : decode cX7_isCloth 2 = .ok (.lconst 0, 1) := by decide +kernel
theorem dX7_isCloth_3 : decode cX7_isCloth 3 = .ok (.aload_n 0, 1) := by decide +kernel
theorem dX7_isCloth_4 : decode cX7_isCloth 4 = .ok (.getfield 7, 3) := by decide +kernel
theorem dX7_isCloth_7 : decode cX7_isCloth 7 = .ok (.iconst 1, 1) := by decide +kernel
theorem dX7_isCloth_8 : decode cX7_isCloth 8 = .ok (.iaload, 1) := by decide +kernel
theorem dX7_isCloth_9 : decode cX7_isCloth 9 = .ok (.iconst 1, 1) := by decide +kernel
theorem dX7_isCloth_10 : decode cX7_isCloth 10 = .ok (.isub, 1) := by decide +kernel
theorem dX7_isCloth_11 : decode cX7_isCloth 11 = .ok (.i2l, 1) := by decide +kernel
theorem dX7_isCloth_12 : decode cX7_isCloth 12 = .ok (.invokestatic 71, 3) := by decide +kernel
theorem dX7_isCloth_15 : decode cX7_isCloth 15 = .ok (.ireturn, 1) := by decide +kernel
set_option maxHeartbeats 4000000 in
set_option maxRecDepth 100000 in
theorem c_X7_isCloth (g : sk_G) (l : Launch) (a1 : Int32) (M : sk_M) {rr : Int32} (h : f_X7_isCloth a1 M = rr) : sk_MI g l yX7_isCloth cX7_isCloth 2 (some .boolean) 2 [.ref (sk_ad g 88), .int a1] M rr M := by
  refine sk_go [(0, .ref (sk_ad g 88)), (1, .int a1)] (by decide) (Nat.le_of_ble_eq_true rfl) rfl ?_
  intro p e s m av below meth c C ls hl hM hS
  obtain ⟨hx, hb, hml, hown, hts, hK, hE, hr, hlocks⟩ := id C
  rw [f_X7_isCloth] at h
  refine lv_iload_n hx hb dX7_isCloth_0 rfl (lv_at hl 1 rfl) ?_
  refine lv_i2l (v := a1.toInt64) hx hb dX7_isCloth_1 rfl ?_
  refine lv_lconst (v := 0) hx hb dX7_isCloth_2 (by decide) ?_
  refine lv_aload_n hx hb dX7_isCloth_3 rfl (lv_at hl 0 rfl) ?_
  refine sk_getR (o := 88) (ci := 7) (j := 0) (t := 89) C hM rfl rfl (by decide) rfl rfl kw_935 dX7_isCloth_4 ?_
  refine lv_iconst (v := 1) hx hb dX7_isCloth_7 (by decide) ?_
  refine sk_iald (o := 89) C hM rfl (by decide) dX7_isCloth_8 ?_
  refine W.eq (g2 := F0 m 9 ls [.int (M 89 1), .long 0, .long (a1.toInt64)]) rfl ?_
  refine lv_iconst (v := 1) hx hb dX7_isCloth_9 (by decide) ?_
  refine lv_isub hx hb dX7_isCloth_10 ?_
  refine lv_i2l (v := (((M 89 1) - 1)).toInt64) hx hb dX7_isCloth_11 rfl ?_
  refine sk_contI (sk_runS (As := [.long (a1.toInt64), .long 0, .long ((((M 89 1) - 1)).toInt64)]) (rest := []) C (c_X7_isIn g l (a1.toInt64) 0 ((((M 89 1) - 1)).toInt64) M rfl) yo_X7_isIn kw_1040 (by decide) hM hS hl.1 rfl rfl (Nat.le_of_ble_eq_true rfl) dX7_isCloth_12) hS (fun H locs hM hS => ?_)
  exact sk_zret C hM hS (sk_nz (fz_X7_isIn (a1.toInt64) 0 ((((M 89 1) - 1)).toInt64))) ⟨h, rfl⟩ dX7_isCloth_15
theorem dX7_isNose_0 : decode cX7_isNose 0 = .ok (.iload_n 0, 1) := by decide +kernel
theorem dX7_isNose_1 : decode cX7_isNose 1 = .ok (.ifCond .lt 12, 3) := by decide +kernel
theorem dX7_isNose_4 : decode cX7_isNose 4 = .ok (.iload_n 0, 1) := by decide +kernel
theorem dX7_isNose_5 : decode cX7_isNose 5 = .ok (.iconst 4, 1) := by decide +kernel
theorem dX7_isNose_6 : decode cX7_isNose 6 = .ok (.if_icmp .ge 7, 3) := by decide +kernel
theorem dX7_isNose_9 : decode cX7_isNose 9 = .ok (.iconst 1, 1) := by decide +kernel
theorem dX7_isNose_10 : decode cX7_isNose 10 = .ok (.goto 4, 3) := by decide +kernel
theorem dX7_isNose_13 : decode cX7_isNose 13 = .ok (.iconst 0, 1) := by decide +kernel
theorem dX7_isNose_14 : decode cX7_isNose 14 = .ok (.ireturn, 1) := by decide +kernel
set_option maxHeartbeats 4000000 in
set_option maxRecDepth 100000 in
theorem c_X7_isNose (g : sk_G) (l : Launch) (a0 : Int32) (M : sk_M) {rr : Int32} (h : f_X7_isNose a0 = rr) : sk_MI g l yX7_isNose cX7_isNose 1 (some .boolean) 1 [.int a0] M rr M := by
  refine sk_go [(0, .int a0)] (by decide) (Nat.le_of_ble_eq_true rfl) rfl ?_
  intro p e s m av below meth c C ls hl hM hS
  obtain ⟨hx, hb, hml, hown, hts, hK, hE, hr, hlocks⟩ := id C
  rw [f_X7_isNose] at h
  refine lv_iload_n hx hb dX7_isNose_0 rfl (lv_at hl 0 rfl) ?_
  have J : ∀ (vv : Int32) (H : Heap) (locs : List Loc), (if a0 < 0 then 0 else (if 4 ≤ a0 then 0 else 1 : Int32) : Int32) = vv → sk_P g M H → va_S (sk_A g) s.heap H locs → W p l e (sk_rm 1) s m av below meth c H locs 0 0 (MQ below (sk_QI g rr M) av s 0 0 (sk_A g)) (F0 m 14 ls [.int vv]) := by
    intro vv H locs hvv hM hS
    subst hvv
    exact sk_zret C hM hS (sk_nz (sk_zi (Or.inl rfl) (sk_zi (Or.inl rfl) (Or.inr rfl)))) ⟨h, rfl⟩ dX7_isNose_14
  refine lv_if_lt hx hb dX7_isNose_1 rfl (fun hc => ?_) (fun hc => ?_)
  · have J := fun vv H locs q => J vv H locs ((if_pos hc).trans q)
    refine lv_iconst (v := 0) hx hb dX7_isNose_13 (by decide) ?_
    exact J _ _ _ rfl hM hS
  · have J := fun vv H locs q => J vv H locs ((if_neg hc).trans q)
    refine lv_iload_n hx hb dX7_isNose_4 rfl (lv_at hl 0 rfl) ?_
    refine lv_iconst (v := 4) hx hb dX7_isNose_5 (by decide) ?_
    refine lv_icmp_ge hx hb dX7_isNose_6 rfl (fun hc => ?_) (fun hc => ?_)
    · have J := fun vv H locs q => J vv H locs ((if_pos hc).trans q)
      refine lv_iconst (v := 0) hx hb dX7_isNose_13 (by decide) ?_
      exact J _ _ _ rfl hM hS
    · have J := fun vv H locs q => J vv H locs ((if_neg hc).trans q)
      refine lv_iconst (v := 1) hx hb dX7_isNose_9 (by decide) ?_
      refine lv_goto hx hb dX7_isNose_10 rfl ?_
      exact J _ _ _ rfl hM hS
theorem dX7_isSaid_0 : decode cX7_isSaid 0 = .ok (.iload_n 1, 1) := by decide +kernel
theorem dX7_isSaid_1 : decode cX7_isSaid 1 = .ok (.i2l, 1) := by decide +kernel
theorem dX7_isSaid_2 : decode cX7_isSaid 2 = .ok (.lconst 0, 1) := by decide +kernel
theorem dX7_isSaid_3 : decode cX7_isSaid 3 = .ok (.aload_n 0, 1) := by decide +kernel
theorem dX7_isSaid_4 : decode cX7_isSaid 4 = .ok (.getfield 7, 3) := by decide +kernel
theorem dX7_isSaid_7 : decode cX7_isSaid 7 = .ok (.iconst 2, 1) := by decide +kernel
theorem dX7_isSaid_8 : decode cX7_isSaid 8 = .ok (.iaload, 1) := by decide +kernel
theorem dX7_isSaid_9 : decode cX7_isSaid 9 = .ok (.iconst 1, 1) := by decide +kernel
theorem dX7_isSaid_10 : decode cX7_isSaid 10 = .ok (.isub, 1) := by decide +kernel
theorem dX7_isSaid_11 : decode cX7_isSaid 11 = .ok (.i2l, 1) := by decide +kernel
theorem dX7_isSaid_12 : decode cX7_isSaid 12 = .ok (.invokestatic 71, 3) := by decide +kernel
theorem dX7_isSaid_15 : decode cX7_isSaid 15 = .ok (.ireturn, 1) := by decide +kernel
set_option maxHeartbeats 4000000 in
set_option maxRecDepth 100000 in
theorem c_X7_isSaid (g : sk_G) (l : Launch) (a1 : Int32) (M : sk_M) {rr : Int32} (h : f_X7_isSaid a1 M = rr) : sk_MI g l yX7_isSaid cX7_isSaid 2 (some .boolean) 2 [.ref (sk_ad g 88), .int a1] M rr M := by
  refine sk_go [(0, .ref (sk_ad g 88)), (1, .int a1)] (by decide) (Nat.le_of_ble_eq_true rfl) rfl ?_
  intro p e s m av below meth c C ls hl hM hS
  obtain ⟨hx, hb, hml, hown, hts, hK, hE, hr, hlocks⟩ := id C
  rw [f_X7_isSaid] at h
  refine lv_iload_n hx hb dX7_isSaid_0 rfl (lv_at hl 1 rfl) ?_
  refine lv_i2l (v := a1.toInt64) hx hb dX7_isSaid_1 rfl ?_
  refine lv_lconst (v := 0) hx hb dX7_isSaid_2 (by decide) ?_
  refine lv_aload_n hx hb dX7_isSaid_3 rfl (lv_at hl 0 rfl) ?_
  refine sk_getR (o := 88) (ci := 7) (j := 0) (t := 89) C hM rfl rfl (by decide) rfl rfl kw_935 dX7_isSaid_4 ?_
  refine lv_iconst (v := 2) hx hb dX7_isSaid_7 (by decide) ?_
  refine sk_iald (o := 89) C hM rfl (by decide) dX7_isSaid_8 ?_
  refine W.eq (g2 := F0 m 9 ls [.int (M 89 2), .long 0, .long (a1.toInt64)]) rfl ?_
  refine lv_iconst (v := 1) hx hb dX7_isSaid_9 (by decide) ?_
  refine lv_isub hx hb dX7_isSaid_10 ?_
  refine lv_i2l (v := (((M 89 2) - 1)).toInt64) hx hb dX7_isSaid_11 rfl ?_
  refine sk_contI (sk_runS (As := [.long (a1.toInt64), .long 0, .long ((((M 89 2) - 1)).toInt64)]) (rest := []) C (c_X7_isIn g l (a1.toInt64) 0 ((((M 89 2) - 1)).toInt64) M rfl) yo_X7_isIn kw_1040 (by decide) hM hS hl.1 rfl rfl (Nat.le_of_ble_eq_true rfl) dX7_isSaid_12) hS (fun H locs hM hS => ?_)
  exact sk_zret C hM hS (sk_nz (fz_X7_isIn (a1.toInt64) 0 ((((M 89 2) - 1)).toInt64))) ⟨h, rfl⟩ dX7_isSaid_15
theorem dX7_isText_0 : decode cX7_isText 0 = .ok (.iload_n 1, 1) := by decide +kernel
theorem dX7_isText_1 : decode cX7_isText 1 = .ok (.i2l, 1) := by decide +kernel
theorem dX7_isText_2 : decode cX7_isText 2 = .ok (.lconst 0, 1) := by decide +kernel
theorem dX7_isText_3 : decode cX7_isText 3 = .ok (.aload_n 0, 1) := by decide +kernel
theorem dX7_isText_4 : decode cX7_isText 4 = .ok (.getfield 7, 3) := by decide +kernel
theorem dX7_isText_7 : decode cX7_isText 7 = .ok (.iconst 3, 1) := by decide +kernel
theorem dX7_isText_8 : decode cX7_isText 8 = .ok (.iaload, 1) := by decide +kernel
theorem dX7_isText_9 : decode cX7_isText 9 = .ok (.iconst 1, 1) := by decide +kernel
theorem dX7_isText_10 : decode cX7_isText 10 = .ok (.isub, 1) := by decide +kernel
theorem dX7_isText_11 : decode cX7_isText 11 = .ok (.i2l, 1) := by decide +kernel
theorem dX7_isText_12 : decode cX7_isText 12 = .ok (.invokestatic 71, 3) := by decide +kernel
theorem dX7_isText_15 : decode cX7_isText 15 = .ok (.ireturn, 1) := by decide +kernel
set_option maxHeartbeats 4000000 in
set_option maxRecDepth 100000 in
theorem c_X7_isText (g : sk_G) (l : Launch) (a1 : Int32) (M : sk_M) {rr : Int32} (h : f_X7_isText a1 M = rr) : sk_MI g l yX7_isText cX7_isText 2 (some .boolean) 2 [.ref (sk_ad g 88), .int a1] M rr M := by
  refine sk_go [(0, .ref (sk_ad g 88)), (1, .int a1)] (by decide) (Nat.le_of_ble_eq_true rfl) rfl ?_
  intro p e s m av below meth c C ls hl hM hS
  obtain ⟨hx, hb, hml, hown, hts, hK, hE, hr, hlocks⟩ := id C
  rw [f_X7_isText] at h
  refine lv_iload_n hx hb dX7_isText_0 rfl (lv_at hl 1 rfl) ?_
  refine lv_i2l (v := a1.toInt64) hx hb dX7_isText_1 rfl ?_
  refine lv_lconst (v := 0) hx hb dX7_isText_2 (by decide) ?_
  refine lv_aload_n hx hb dX7_isText_3 rfl (lv_at hl 0 rfl) ?_
  refine sk_getR (o := 88) (ci := 7) (j := 0) (t := 89) C hM rfl rfl (by decide) rfl rfl kw_935 dX7_isText_4 ?_
  refine lv_iconst (v := 3) hx hb dX7_isText_7 (by decide) ?_
  refine sk_iald (o := 89) C hM rfl (by decide) dX7_isText_8 ?_
  refine W.eq (g2 := F0 m 9 ls [.int (M 89 3), .long 0, .long (a1.toInt64)]) rfl ?_
  refine lv_iconst (v := 1) hx hb dX7_isText_9 (by decide) ?_
  refine lv_isub hx hb dX7_isText_10 ?_
  refine lv_i2l (v := (((M 89 3) - 1)).toInt64) hx hb dX7_isText_11 rfl ?_
  refine sk_contI (sk_runS (As := [.long (a1.toInt64), .long 0, .long ((((M 89 3) - 1)).toInt64)]) (rest := []) C (c_X7_isIn g l (a1.toInt64) 0 ((((M 89 3) - 1)).toInt64) M rfl) yo_X7_isIn kw_1040 (by decide) hM hS hl.1 rfl rfl (Nat.le_of_ble_eq_true rfl) dX7_isText_12) hS (fun H locs hM hS => ?_)
  exact sk_zret C hM hS (sk_nz (fz_X7_isIn (a1.toInt64) 0 ((((M 89 3) - 1)).toInt64))) ⟨h, rfl⟩ dX7_isText_15
theorem dX7_drawn_0 : decode cX7_drawn 0 = .ok (.aload_n 0, 1) := by decide +kernel
theorem dX7_drawn_1 : decode cX7_drawn 1 = .ok (.getfield 7, 3) := by decide +kernel
theorem dX7_drawn_4 : decode cX7_drawn 4 = .ok (.iconst 5, 1) := by decide +kernel
theorem dX7_drawn_5 : decode cX7_drawn 5 = .ok (.aload_n 0, 1) := by decide +kernel
theorem dX7_drawn_6 : decode cX7_drawn 6 = .ok (.getfield 7, 3) := by decide +kernel
theorem dX7_drawn_9 : decode cX7_drawn 9 = .ok (.iconst 5, 1) := by decide +kernel
theorem dX7_drawn_10 : decode cX7_drawn 10 = .ok (.iaload, 1) := by decide +kernel
theorem dX7_drawn_11 : decode cX7_drawn 11 = .ok (.ldc 75, 2) := by decide +kernel
theorem dX7_drawn_13 : decode cX7_drawn 13 = .ok (.imul, 1) := by decide +kernel
theorem dX7_drawn_14 : decode cX7_drawn 14 = .ok (.sipush 12345, 3) := by decide +kernel
theorem dX7_drawn_17 : decode cX7_drawn 17 = .ok (.iadd, 1) := by decide +kernel
theorem dX7_drawn_18 : decode cX7_drawn 18 = .ok (.iastore, 1) := by decide +kernel
theorem dX7_drawn_19 : decode cX7_drawn 19 = .ok (.aload_n 0, 1) := by decide +kernel
theorem dX7_drawn_20 : decode cX7_drawn 20 = .ok (.getfield 7, 3) := by decide +kernel
theorem dX7_drawn_23 : decode cX7_drawn 23 = .ok (.iconst 5, 1) := by decide +kernel
theorem dX7_drawn_24 : decode cX7_drawn 24 = .ok (.iaload, 1) := by decide +kernel
theorem dX7_drawn_25 : decode cX7_drawn 25 = .ok (.bipush 8, 2) := by decide +kernel
theorem dX7_drawn_27 : decode cX7_drawn 27 = .ok (.iushr, 1) := by decide +kernel
theorem dX7_drawn_28 : decode cX7_drawn 28 = .ok (.ireturn, 1) := by decide +kernel
set_option maxHeartbeats 4000000 in
set_option maxRecDepth 100000 in
theorem c_X7_drawn (g : sk_G) (l : Launch)  (M : sk_M) {rr : Int32} {MM : sk_M} (h : f_X7_drawn M = some (rr, MM)) : sk_MI g l yX7_drawn cX7_drawn 1 (some .int) 1 [.ref (sk_ad g 88)] M rr MM := by
  refine sk_go [(0, .ref (sk_ad g 88))] (by decide) (Nat.le_of_ble_eq_true rfl) rfl ?_
  intro p e s m av below meth c C ls hl hM hS
  obtain ⟨hx, hb, hml, hown, hts, hK, hE, hr, hlocks⟩ := id C
  rw [f_X7_drawn] at h
  refine lv_aload_n hx hb dX7_drawn_0 rfl (lv_at hl 0 rfl) ?_
  refine sk_getR (o := 88) (ci := 7) (j := 0) (t := 89) C hM rfl rfl (by decide) rfl rfl kw_935 dX7_drawn_1 ?_
  refine lv_iconst (v := 5) hx hb dX7_drawn_4 (by decide) ?_
  refine lv_aload_n hx hb dX7_drawn_5 rfl (lv_at hl 0 rfl) ?_
  refine sk_getR (o := 88) (ci := 7) (j := 0) (t := 89) C hM rfl rfl (by decide) rfl rfl kw_935 dX7_drawn_6 ?_
  refine lv_iconst (v := 5) hx hb dX7_drawn_9 (by decide) ?_
  refine sk_iald (o := 89) C hM rfl (by decide) dX7_drawn_10 ?_
  refine W.eq (g2 := F0 m 11 ls [.int (M 89 5), .int 5, .ref (sk_ad g 89)]) rfl ?_
  refine lv_ldc (v := 1103515245) hx hb hown (hts _ kw_1120) dX7_drawn_11 ?_
  refine lv_imul hx hb dX7_drawn_13 ?_
  refine lv_sipush (v := 12345) hx hb dX7_drawn_14 (by decide) ?_
  refine lv_iadd hx hb dX7_drawn_17 ?_
  refine sk_iast (o := 89) C hM hS rfl (by decide) dX7_drawn_18 (fun M_1 eM_1 H locs hM hS => ?_)
  have h := sk_letU h eM_1
  refine lv_aload_n hx hb dX7_drawn_19 rfl (lv_at hl 0 rfl) ?_
  refine sk_getR (o := 88) (ci := 7) (j := 0) (t := 89) C hM rfl rfl (by decide) rfl rfl kw_935 dX7_drawn_20 ?_
  refine lv_iconst (v := 5) hx hb dX7_drawn_23 (by decide) ?_
  refine sk_iald (o := 89) C hM rfl (by decide) dX7_drawn_24 ?_
  refine W.eq (g2 := F0 m 25 ls [.int (M_1 89 5)]) rfl ?_
  refine lv_bipush (v := 8) hx hb dX7_drawn_25 (by decide) ?_
  refine lv_iushr (v := (sk_ushr (M_1 89 5) 8)) hx hb dX7_drawn_27 rfl ?_
  exact sk_iret C hM hS (sk_e2 h) dX7_drawn_28
theorem dX7_comes_0 : decode cX7_comes 0 = .ok (.aload_n 0, 1) := by decide +kernel
theorem dX7_comes_1 : decode cX7_comes 1 = .ok (.getfield 7, 3) := by decide +kernel
theorem dX7_comes_4 : decode cX7_comes 4 = .ok (.iconst 0, 1) := by decide +kernel
theorem dX7_comes_5 : decode cX7_comes 5 = .ok (.iaload, 1) := by decide +kernel
theorem dX7_comes_6 : decode cX7_comes 6 = .ok (.istore_n 3, 1) := by decide +kernel
theorem dX7_comes_7 : decode cX7_comes 7 = .ok (.bipush 10, 2) := by decide +kernel
theorem dX7_comes_9 : decode cX7_comes 9 = .ok (.iconst 3, 1) := by decide +kernel
theorem dX7_comes_10 : decode cX7_comes 10 = .ok (.iload_n 3, 1) := by decide +kernel
theorem dX7_comes_11 : decode cX7_comes 11 = .ok (.imul, 1) := by decide +kernel
theorem dX7_comes_12 : decode cX7_comes 12 = .ok (.iadd, 1) := by decide +kernel
theorem dX7_comes_13 : decode cX7_comes 13 = .ok (.istore 4, 2) := by decide +kernel
theorem dX7_comes_15 : decode cX7_comes 15 = .ok (.aload_n 0, 1) := by decide +kernel
theorem dX7_comes_16 : decode cX7_comes 16 = .ok (.getfield 7, 3) := by decide +kernel
theorem dX7_comes_19 : decode cX7_comes 19 = .ok (.iload 4, 2) := by decide +kernel
theorem dX7_comes_21 : decode cX7_comes 21 = .ok (.iload_n 1, 1) := by decide +kernel
theorem dX7_comes_22 : decode cX7_comes 22 = .ok (.iastore, 1) := by decide +kernel
theorem dX7_comes_23 : decode cX7_comes 23 = .ok (.aload_n 0, 1) := by decide +kernel
theorem dX7_comes_24 : decode cX7_comes 24 = .ok (.getfield 7, 3) := by decide +kernel
theorem dX7_comes_27 : decode cX7_comes 27 = .ok (.iload 4, 2) := by decide +kernel
theorem dX7_comes_29 : decode cX7_comes 29 = .ok (.iconst 1, 1) := by decide +kernel
theorem dX7_comes_30 : decode cX7_comes 30 = .ok (.iadd, 1) := by decide +kernel
theorem dX7_comes_31 : decode cX7_comes 31 = .ok (.iload_n 2, 1) := by decide +kernel
theorem dX7_comes_32 : decode cX7_comes 32 = .ok (.iastore, 1) := by decide +kernel
theorem dX7_comes_33 : decode cX7_comes 33 = .ok (.aload_n 0, 1) := by decide +kernel
theorem dX7_comes_34 : decode cX7_comes 34 = .ok (.getfield 7, 3) := by decide +kernel
theorem dX7_comes_37 : decode cX7_comes 37 = .ok (.iload 4, 2) := by decide +kernel
theorem dX7_comes_39 : decode cX7_comes 39 = .ok (.iconst 2, 1) := by decide +kernel
theorem dX7_comes_40 : decode cX7_comes 40 = .ok (.iadd, 1) := by decide +kernel
theorem dX7_comes_41 : decode cX7_comes 41 = .ok (.iconst 0, 1) := by decide +kernel
theorem dX7_comes_42 : decode cX7_comes 42 = .ok (.iastore, 1) := by decide +kernel
theorem dX7_comes_43 : decode cX7_comes 43 = .ok (.iconst 0, 1) := by decide +kernel
theorem dX7_comes_44 : decode cX7_comes 44 = .ok (.istore 5, 2) := by decide +kernel
theorem dX7_comes_46 : decode cX7_comes 46 = .ok (.iload 5, 2) := by decide +kernel
theorem dX7_comes_48 : decode cX7_comes 48 = .ok (.bipush 6, 2) := by decide +kernel
theorem dX7_comes_50 : decode cX7_comes 50 = .ok (.if_icmp .ge 25, 3) := by decide +kernel
theorem dX7_comes_53 : decode cX7_comes 53 = .ok (.aload_n 0, 1) := by decide +kernel
theorem dX7_comes_54 : decode cX7_comes 54 = .ok (.getfield 7, 3) := by decide +kernel
theorem dX7_comes_57 : decode cX7_comes 57 = .ok (.bipush 43, 2) := by decide +kernel
theorem dX7_comes_59 : decode cX7_comes 59 = .ok (.bipush 9, 2) := by decide +kernel
theorem dX7_comes_61 : decode cX7_comes 61 = .ok (.iload 5, 2) := by decide +kernel
theorem dX7_comes_63 : decode cX7_comes 63 = .ok (.imul, 1) := by decide +kernel
theorem dX7_comes_64 : decode cX7_comes 64 = .ok (.iadd, 1) := by decide +kernel
theorem dX7_comes_65 : decode cX7_comes 65 = .ok (.iload_n 3, 1) := by decide +kernel
theorem dX7_comes_66 : decode cX7_comes 66 = .ok (.iadd, 1) := by decide +kernel
theorem dX7_comes_67 : decode cX7_comes 67 = .ok (.iconst 0, 1) := by decide +kernel
theorem dX7_comes_68 : decode cX7_comes 68 = .ok (.iastore, 1) := by decide +kernel
theorem dX7_comes_69 : decode cX7_comes 69 = .ok (.iinc 5 1, 3) := by decide +kernel
theorem dX7_comes_72 : decode cX7_comes 72 = .ok (.goto (-26), 3) := by decide +kernel
theorem dX7_comes_75 : decode cX7_comes 75 = .ok (.aload_n 0, 1) := by decide +kernel
theorem dX7_comes_76 : decode cX7_comes 76 = .ok (.getfield 7, 3) := by decide +kernel
theorem dX7_comes_79 : decode cX7_comes 79 = .ok (.iconst 0, 1) := by decide +kernel
theorem dX7_comes_80 : decode cX7_comes 80 = .ok (.dup2, 1) := by decide +kernel
theorem dX7_comes_81 : decode cX7_comes 81 = .ok (.iaload, 1) := by decide +kernel
theorem dX7_comes_82 : decode cX7_comes 82 = .ok (.iconst 1, 1) := by decide +kernel
theorem dX7_comes_83 : decode cX7_comes 83 = .ok (.iadd, 1) := by decide +kernel
theorem dX7_comes_84 : decode cX7_comes 84 = .ok (.iastore, 1) := by decide +kernel
theorem dX7_comes_85 : decode cX7_comes 85 = .ok (.return_, 1) := by decide +kernel
set_option maxHeartbeats 4000000 in
set_option maxRecDepth 100000 in
theorem w_X7_comes_L46 {g : sk_G} {l : Launch} {p : Program} {e : Env} {s : State} {m : MethodId} {av : Array Value} {below : List Frame} {meth : Method} {c : Code} (C : sk_C g p s m av meth c cX7_comes 6 RX7 none) (a3 : Int32) {MM : sk_M} :
    ∀ (n : Nat) (a5 : Int32) (M : sk_M) (H : Heap) (locs : List Loc) (ls : Array Slot), lv_has ls 6 [(0, .ref (sk_ad g 88)), (3, .int a3), (5, .int a5)] → sk_P g M H → va_S (sk_A g) s.heap H locs → ∀ {out : sk_M}, f_X7_comes_L46 a3 n a5 M = some out → (∀ (M1 : sk_M) (H : Heap) (locs : List Loc) (ls : Array Slot), some M1 = some out → lv_has ls 6 [(0, .ref (sk_ad g 88))] → sk_P g M1 H → va_S (sk_A g) s.heap H locs → W p l e (sk_rm 1) s m av below meth c H locs 0 0 (MQ below (sk_QV g MM) av s 0 0 (sk_A g)) (F0 m 75 ls [])) → W p l e (sk_rm 1) s m av below meth c H locs 0 0 (MQ below (sk_QV g MM) av s 0 0 (sk_A g)) (F0 m 46 ls []) := by
  obtain ⟨hx, hb, hml, hown, hts, hK, hE, hr, hlocks⟩ := id C
  intro n
  induction n with
  | zero =>
    intro a5 M H locs ls hl hM hS out h
    cases h
  | succ n ih =>
    intro a5 M H locs ls hl hM hS out h kx
    rw [f_X7_comes_L46] at h
    refine lv_iload hx hb dX7_comes_46 (lv_at hl 2 rfl) ?_
    refine lv_bipush (v := 6) hx hb dX7_comes_48 (by decide) ?_
    refine lv_icmp_ge hx hb dX7_comes_50 rfl (fun hc => ?_) (fun hc => ?_)
    · have h := sk_pos h hc
      exact kx _ _ _ _ h (lv_sub hl [0] rfl) hM hS
    · have h := sk_neg h hc
      refine lv_aload_n hx hb dX7_comes_53 rfl (lv_at hl 0 rfl) ?_
      refine sk_getR (o := 88) (ci := 7) (j := 0) (t := 89) C hM rfl rfl (by decide) rfl rfl kw_935 dX7_comes_54 ?_
      refine lv_bipush (v := 43) hx hb dX7_comes_57 (by decide) ?_
      refine lv_bipush (v := 9) hx hb dX7_comes_59 (by decide) ?_
      refine lv_iload hx hb dX7_comes_61 (lv_at hl 2 rfl) ?_
      refine lv_imul hx hb dX7_comes_63 ?_
      refine lv_iadd hx hb dX7_comes_64 ?_
      refine lv_iload_n hx hb dX7_comes_65 rfl (lv_at hl 1 rfl) ?_
      refine lv_iadd hx hb dX7_comes_66 ?_
      refine lv_iconst (v := 0) hx hb dX7_comes_67 (by decide) ?_
      obtain ⟨i_9, h⟩ := sk_chkE h
      refine sk_iast (o := 89) C hM hS rfl i_9 dX7_comes_68 (fun M_10 eM_10 H locs hM hS => ?_)
      have h := sk_letU h eM_10
      refine lv_iinc (v := (a5 + 1)) (lv' := [(5, .int (a5 + 1)), (0, .ref (sk_ad g 88)), (3, .int a3)]) hx hb dX7_comes_69 hl (k := 2) rfl rfl (by decide) rfl (fun ls hl => ?_)
      refine lv_goto hx hb dX7_comes_72 rfl ?_
      exact ih (a5 + 1) M_10 _ _ _ (lv_sub hl [1, 2, 0] rfl) hM hS h kx
set_option maxHeartbeats 4000000 in
set_option maxRecDepth 100000 in
theorem c_X7_comes (g : sk_G) (l : Launch) (a1 : Int32) (a2 : Int32) (M : sk_M) {MM : sk_M} (h : f_X7_comes a1 a2 M = some MM) : sk_MV g l yX7_comes cX7_comes 6 none 1 [.ref (sk_ad g 88), .int a1, .int a2] M MM := by
  refine sk_go [(0, .ref (sk_ad g 88)), (1, .int a1), (2, .int a2)] (by decide) (Nat.le_of_ble_eq_true rfl) rfl ?_
  intro p e s m av below meth c C ls hl hM hS
  obtain ⟨hx, hb, hml, hown, hts, hK, hE, hr, hlocks⟩ := id C
  rw [f_X7_comes] at h
  refine lv_aload_n hx hb dX7_comes_0 rfl (lv_at hl 0 rfl) ?_
  refine sk_getR (o := 88) (ci := 7) (j := 0) (t := 89) C hM rfl rfl (by decide) rfl rfl kw_935 dX7_comes_1 ?_
  refine lv_iconst (v := 0) hx hb dX7_comes_4 (by decide) ?_
  refine sk_iald (o := 89) C hM rfl (by decide) dX7_comes_5 ?_
  refine W.eq (g2 := F0 m 6 ls [.int (M 89 0)]) rfl ?_
  refine lv_topi (fun x_1 ex_1 => ?_)
  have h := sk_letU h ex_1
  refine lv_istore_n (lv' := [(3, .int x_1), (0, .ref (sk_ad g 88)), (1, .int a1), (2, .int a2)]) hx hb dX7_comes_6 rfl hl (by decide) rfl (fun ls hl => ?_)
  refine lv_bipush (v := 10) hx hb dX7_comes_7 (by decide) ?_
  refine lv_iconst (v := 3) hx hb dX7_comes_9 (by decide) ?_
  refine lv_iload_n hx hb dX7_comes_10 rfl (lv_at hl 0 rfl) ?_
  refine lv_imul hx hb dX7_comes_11 ?_
  refine lv_iadd hx hb dX7_comes_12 ?_
  refine lv_topi (fun x_2 ex_2 => ?_)
  have h := sk_letU h ex_2
  refine lv_istore (lv' := [(4, .int x_2), (3, .int x_1), (0, .ref (sk_ad g 88)), (1, .int a1), (2, .int a2)]) hx hb dX7_comes_13 hl (by decide) rfl (fun ls hl => ?_)
  refine lv_aload_n hx hb dX7_comes_15 rfl (lv_at hl 2 rfl) ?_
  refine sk_getR (o := 88) (ci := 7) (j := 0) (t := 89) C hM rfl rfl (by decide) rfl rfl kw_935 dX7_comes_16 ?_
  refine lv_iload hx hb dX7_comes_19 (lv_at hl 0 rfl) ?_
  refine lv_iload_n hx hb dX7_comes_21 rfl (lv_at hl 3 rfl) ?_
  obtain ⟨i_3, h⟩ := sk_chkE h
  refine sk_iast (o := 89) C hM hS rfl i_3 dX7_comes_22 (fun M_4 eM_4 H locs hM hS => ?_)
  have h := sk_letU h eM_4
  refine lv_aload_n hx hb dX7_comes_23 rfl (lv_at hl 2 rfl) ?_
  refine sk_getR (o := 88) (ci := 7) (j := 0) (t := 89) C hM rfl rfl (by decide) rfl rfl kw_935 dX7_comes_24 ?_
  refine lv_iload hx hb dX7_comes_27 (lv_at hl 0 rfl) ?_
  refine lv_iconst (v := 1) hx hb dX7_comes_29 (by decide) ?_
  refine lv_iadd hx hb dX7_comes_30 ?_
  refine lv_iload_n hx hb dX7_comes_31 rfl (lv_at hl 4 rfl) ?_
  obtain ⟨i_5, h⟩ := sk_chkE h
  refine sk_iast (o := 89) C hM hS rfl i_5 dX7_comes_32 (fun M_6 eM_6 H locs hM hS => ?_)
  have h := sk_letU h eM_6
  refine lv_aload_n hx hb dX7_comes_33 rfl (lv_at hl 2 rfl) ?_
  refine sk_getR (o := 88) (ci := 7) (j := 0) (t := 89) C hM rfl rfl (by decide) rfl rfl kw_935 dX7_comes_34 ?_
  refine lv_iload hx hb dX7_comes_37 (lv_at hl 0 rfl) ?_
  refine lv_iconst (v := 2) hx hb dX7_comes_39 (by decide) ?_
  refine lv_iadd hx hb dX7_comes_40 ?_
  refine lv_iconst (v := 0) hx hb dX7_comes_41 (by decide) ?_
  obtain ⟨i_7, h⟩ := sk_chkE h
  refine sk_iast (o := 89) C hM hS rfl i_7 dX7_comes_42 (fun M_8 eM_8 H locs hM hS => ?_)
  have h := sk_letU h eM_8
  refine lv_iconst (v := 0) hx hb dX7_comes_43 (by decide) ?_
  refine lv_istore (lv' := [(5, .int 0), (4, .int x_2), (3, .int x_1), (0, .ref (sk_ad g 88)), (1, .int a1), (2, .int a2)]) hx hb dX7_comes_44 hl (by decide) rfl (fun ls hl => ?_)
  obtain ⟨M_11, h_13, h⟩ := sk_b1E h
  refine w_X7_comes_L46 C x_1 sk_FU 0 M_8 _ _ _ (lv_sub hl [3, 2, 0] rfl) hM hS h_13 (fun y_14 H locs ls he hl hM hS => ?_)
  obtain rfl := Option.some.inj he
  refine lv_aload_n hx hb dX7_comes_75 rfl (lv_at hl 0 rfl) ?_
  refine sk_getR (o := 88) (ci := 7) (j := 0) (t := 89) C hM rfl rfl (by decide) rfl rfl kw_935 dX7_comes_76 ?_
  refine lv_iconst (v := 0) hx hb dX7_comes_79 (by decide) ?_
  refine lv_dup2_11 hx hb dX7_comes_80 rfl rfl ?_
  refine sk_iald (o := 89) C hM rfl (by decide) dX7_comes_81 ?_
  refine W.eq (g2 := F0 m 82 ls [.int (y_14 89 0), .int 0, .ref (sk_ad g 89)]) rfl ?_
  refine lv_iconst (v := 1) hx hb dX7_comes_82 (by decide) ?_
  refine lv_iadd hx hb dX7_comes_83 ?_
  refine sk_iast (o := 89) C hM hS rfl (by decide) dX7_comes_84 (fun M_12 eM_12 H locs hM hS => ?_)
  have h := sk_letU h eM_12
  exact sk_vret C hM hS (Option.some.inj h) dX7_comes_85
theorem dX7_scent_0 : decode cX7_scent 0 = .ok (.iload_n 1, 1) := by decide +kernel
theorem dX7_scent_1 : decode cX7_scent 1 = .ok (.i2l, 1) := by decide +kernel
theorem dX7_scent_2 : decode cX7_scent 2 = .ok (.lconst 0, 1) := by decide +kernel
theorem dX7_scent_3 : decode cX7_scent 3 = .ok (.ldc2_w 76, 3) := by decide +kernel
theorem dX7_scent_6 : decode cX7_scent 6 = .ok (.invokestatic 71, 3) := by decide +kernel
theorem dX7_scent_9 : decode cX7_scent 9 = .ok (.ifCond .eq 15, 3) := by decide +kernel
theorem dX7_scent_12 : decode cX7_scent 12 = .ok (.iload_n 2, 1) := by decide +kernel
theorem dX7_scent_13 : decode cX7_scent 13 = .ok (.i2l, 1) := by decide +kernel
theorem dX7_scent_14 : decode cX7_scent 14 = .ok (.lconst 0, 1) := by decide +kernel
theorem dX7_scent_15 : decode cX7_scent 15 = .ok (.ldc2_w 78, 3) := by decide +kernel
theorem dX7_scent_18 : decode cX7_scent 18 = .ok (.invokestatic 71, 3) := by decide +kernel
theorem dX7_scent_21 : decode cX7_scent 21 = .ok (.ifCond .ne 6, 3) := by decide +kernel
theorem dX7_scent_24 : decode cX7_scent 24 = .ok (.ldc 80, 2) := by decide +kernel
theorem dX7_scent_26 : decode cX7_scent 26 = .ok (.ireturn, 1) := by decide +kernel
theorem dX7_scent_27 : decode cX7_scent 27 = .ok (.aload_n 0, 1) := by decide +kernel
theorem dX7_scent_28 : decode cX7_scent 28 = .ok (.getfield 7, 3) := by decide +kernel
theorem dX7_scent_31 : decode cX7_scent 31 = .ok (.iconst 0, 1) := by decide +kernel
theorem dX7_scent_32 : decode cX7_scent 32 = .ok (.iaload, 1) := by decide +kernel
theorem dX7_scent_33 : decode cX7_scent 33 = .ok (.bipush 9, 2) := by decide +kernel
theorem dX7_scent_35 : decode cX7_scent 35 = .ok (.if_icmp .ne 6, 3) := by decide +kernel
theorem dX7_scent_38 : decode cX7_scent 38 = .ok (.ldc 81, 2) := by decide +kernel
theorem dX7_scent_40 : decode cX7_scent 40 = .ok (.ireturn, 1) := by decide +kernel
theorem dX7_scent_41 : decode cX7_scent 41 = .ok (.aload_n 0, 1) := by decide +kernel
theorem dX7_scent_42 : decode cX7_scent 42 = .ok (.iload_n 1, 1) := by decide +kernel
theorem dX7_scent_43 : decode cX7_scent 43 = .ok (.iload_n 2, 1) := by decide +kernel
theorem dX7_scent_44 : decode cX7_scent 44 = .ok (.invokevirtual 82, 3) := by decide +kernel
theorem dX7_scent_47 : decode cX7_scent 47 = .ok (.aload_n 0, 1) := by decide +kernel
theorem dX7_scent_48 : decode cX7_scent 48 = .ok (.getfield 7, 3) := by decide +kernel
theorem dX7_scent_51 : decode cX7_scent 51 = .ok (.iconst 0, 1) := by decide +kernel
theorem dX7_scent_52 : decode cX7_scent 52 = .ok (.iaload, 1) := by decide +kernel
theorem dX7_scent_53 : decode cX7_scent 53 = .ok (.iconst 1, 1) := by decide +kernel
theorem dX7_scent_54 : decode cX7_scent 54 = .ok (.isub, 1) := by decide +kernel
theorem dX7_scent_55 : decode cX7_scent 55 = .ok (.ireturn, 1) := by decide +kernel
set_option maxHeartbeats 4000000 in
set_option maxRecDepth 100000 in
theorem c_X7_scent (g : sk_G) (l : Launch) (a1 : Int32) (a2 : Int32) (M : sk_M) {rr : Int32} {MM : sk_M} (h : f_X7_scent a1 a2 M = some (rr, MM)) : sk_MI g l yX7_scent cX7_scent 3 (some .int) 2 [.ref (sk_ad g 88), .int a1, .int a2] M rr MM := by
  refine sk_go [(0, .ref (sk_ad g 88)), (1, .int a1), (2, .int a2)] (by decide) (Nat.le_of_ble_eq_true rfl) rfl ?_
  intro p e s m av below meth c C ls hl hM hS
  obtain ⟨hx, hb, hml, hown, hts, hK, hE, hr, hlocks⟩ := id C
  rw [f_X7_scent] at h
  refine lv_iload_n hx hb dX7_scent_0 rfl (lv_at hl 1 rfl) ?_
  refine lv_i2l (v := a1.toInt64) hx hb dX7_scent_1 rfl ?_
  refine lv_lconst (v := 0) hx hb dX7_scent_2 (by decide) ?_
  refine lv_ldc2 (v := 5) hx hb hown (hts _ kw_1039) dX7_scent_3 ?_
  refine sk_contI (sk_runS (As := [.long (a1.toInt64), .long 0, .long 5]) (rest := []) C (c_X7_isIn g l (a1.toInt64) 0 5 M rfl) yo_X7_isIn kw_1040 (by decide) hM hS hl.1 rfl rfl (Nat.le_of_ble_eq_true rfl) dX7_scent_6) hS (fun H locs hM hS => ?_)
  refine lv_if_eq hx hb dX7_scent_9 rfl (fun hc => ?_) (fun hc => ?_)
  · have h := sk_pos h hc
    refine lv_ldc (v := (-1000000001)) hx hb hown (hts _ kw_1044) dX7_scent_24 ?_
    exact sk_iret C hM hS (sk_e2 h) dX7_scent_26
  · have h := sk_neg h hc
    refine lv_iload_n hx hb dX7_scent_12 rfl (lv_at hl 2 rfl) ?_
    refine lv_i2l (v := a2.toInt64) hx hb dX7_scent_13 rfl ?_
    refine lv_lconst (v := 0) hx hb dX7_scent_14 (by decide) ?_
    refine lv_ldc2 (v := 50) hx hb hown (hts _ kw_1043) dX7_scent_15 ?_
    refine sk_contI (sk_runS (As := [.long (a2.toInt64), .long 0, .long 50]) (rest := []) C (c_X7_isIn g l (a2.toInt64) 0 50 M rfl) yo_X7_isIn kw_1040 (by decide) hM hS hl.1 rfl rfl (Nat.le_of_ble_eq_true rfl) dX7_scent_18) hS (fun H locs hM hS => ?_)
    refine lv_if_ne hx hb dX7_scent_21 rfl (fun hc => ?_) (fun hc => ?_)
    · have h := sk_neg h hc
      refine lv_aload_n hx hb dX7_scent_27 rfl (lv_at hl 0 rfl) ?_
      refine sk_getR (o := 88) (ci := 7) (j := 0) (t := 89) C hM rfl rfl (by decide) rfl rfl kw_935 dX7_scent_28 ?_
      refine lv_iconst (v := 0) hx hb dX7_scent_31 (by decide) ?_
      refine sk_iald (o := 89) C hM rfl (by decide) dX7_scent_32 ?_
      refine W.eq (g2 := F0 m 33 ls [.int (M 89 0)]) rfl ?_
      refine lv_bipush (v := 9) hx hb dX7_scent_33 (by decide) ?_
      refine lv_icmp_ne hx hb dX7_scent_35 rfl (fun hc => ?_) (fun hc => ?_)
      · have h := sk_neg h hc
        refine lv_aload_n hx hb dX7_scent_41 rfl (lv_at hl 0 rfl) ?_
        refine lv_iload_n hx hb dX7_scent_42 rfl (lv_at hl 1 rfl) ?_
        refine lv_iload_n hx hb dX7_scent_43 rfl (lv_at hl 2 rfl) ?_
        obtain ⟨M_3, h_4, h⟩ := sk_b1E h
        refine sk_contV (sk_runV (As := [.int a1, .int a2]) (rest := []) C (c_X7_comes g l a1 a2 M h_4) yo_X7_comes kw_1046 (sk_recv (ci := 7) C hM rfl rfl) (by decide) hM hS hl.1 rfl rfl (Nat.le_of_ble_eq_true rfl) dX7_scent_44) hS (fun H locs hM hS => ?_)
        refine lv_aload_n hx hb dX7_scent_47 rfl (lv_at hl 0 rfl) ?_
        refine sk_getR (o := 88) (ci := 7) (j := 0) (t := 89) C hM rfl rfl (by decide) rfl rfl kw_935 dX7_scent_48 ?_
        refine lv_iconst (v := 0) hx hb dX7_scent_51 (by decide) ?_
        refine sk_iald (o := 89) C hM rfl (by decide) dX7_scent_52 ?_
        refine W.eq (g2 := F0 m 53 ls [.int (M_3 89 0)]) rfl ?_
        refine lv_iconst (v := 1) hx hb dX7_scent_53 (by decide) ?_
        refine lv_isub hx hb dX7_scent_54 ?_
        exact sk_iret C hM hS (sk_e2 h) dX7_scent_55
      · have h := sk_pos h hc
        refine lv_ldc (v := (-1000000003)) hx hb hown (hts _ kw_1045) dX7_scent_38 ?_
        exact sk_iret C hM hS (sk_e2 h) dX7_scent_40
    · have h := sk_pos h hc
      refine lv_ldc (v := (-1000000001)) hx hb hown (hts _ kw_1044) dX7_scent_24 ?_
      exact sk_iret C hM hS (sk_e2 h) dX7_scent_26
theorem dX7_counts_0 : decode cX7_counts 0 = .ok (.iconst (-1), 1) := by decide +kernel
theorem dX7_counts_1 : decode cX7_counts 1 = .ok (.istore_n 2, 1) := by decide +kernel
theorem dX7_counts_2 : decode cX7_counts 2 = .ok (.iconst 0, 1) := by decide +kernel
theorem dX7_counts_3 : decode cX7_counts 3 = .ok (.istore_n 3, 1) := by decide +kernel
theorem dX7_counts_4 : decode cX7_counts 4 = .ok (.iload_n 3, 1) := by decide +kernel
theorem dX7_counts_5 : decode cX7_counts 5 = .ok (.aload_n 0, 1) := by decide +kernel
theorem dX7_counts_6 : decode cX7_counts 6 = .ok (.getfield 7, 3) := by decide +kernel
theorem dX7_counts_9 : decode cX7_counts 9 = .ok (.iconst 3, 1) := by decide +kernel
theorem dX7_counts_10 : decode cX7_counts 10 = .ok (.iaload, 1) := by decide +kernel
theorem dX7_counts_11 : decode cX7_counts 11 = .ok (.if_icmp .ge 29, 3) := by decide +kernel
theorem dX7_counts_14 : decode cX7_counts 14 = .ok (.aload_n 0, 1) := by decide +kernel
theorem dX7_counts_15 : decode cX7_counts 15 = .ok (.getfield 7, 3) := by decide +kernel
theorem dX7_counts_18 : decode cX7_counts 18 = .ok (.aload_n 0, 1) := by decide +kernel
theorem dX7_counts_19 : decode cX7_counts 19 = .ok (.iload_n 3, 1) := by decide +kernel
theorem dX7_counts_20 : decode cX7_counts 20 = .ok (.invokevirtual 278, 3) := by decide +kernel
theorem dX7_counts_23 : decode cX7_counts 23 = .ok (.iaload, 1) := by decide +kernel
theorem dX7_counts_24 : decode cX7_counts 24 = .ok (.iload_n 1, 1) := by decide +kernel
theorem dX7_counts_25 : decode cX7_counts 25 = .ok (.if_icmp .ne 7, 3) := by decide +kernel
theorem dX7_counts_28 : decode cX7_counts 28 = .ok (.iload_n 3, 1) := by decide +kernel
theorem dX7_counts_29 : decode cX7_counts 29 = .ok (.goto 4, 3) := by decide +kernel
theorem dX7_counts_32 : decode cX7_counts 32 = .ok (.iload_n 2, 1) := by decide +kernel
theorem dX7_counts_33 : decode cX7_counts 33 = .ok (.istore_n 2, 1) := by decide +kernel
theorem dX7_counts_34 : decode cX7_counts 34 = .ok (.iinc 3 1, 3) := by decide +kernel
theorem dX7_counts_37 : decode cX7_counts 37 = .ok (.goto (-33), 3) := by decide +kernel
theorem dX7_counts_40 : decode cX7_counts 40 = .ok (.iload_n 2, 1) := by decide +kernel
theorem dX7_counts_41 : decode cX7_counts 41 = .ok (.ireturn, 1) := by decide +kernel
set_option maxHeartbeats 4000000 in
set_option maxRecDepth 100000 in
theorem w_X7_counts_L4 {g : sk_G} {l : Launch} {p : Program} {e : Env} {s : State} {m : MethodId} {av : Array Value} {below : List Frame} {meth : Method} {c : Code} (C : sk_C g p s m av meth c cX7_counts 4 RX7 (some .int)) (a1 : Int32) (M : sk_M) {rr : Int32} :
    ∀ (n : Nat) (a2 : Int32) (a3 : Int32) (H : Heap) (locs : List Loc) (ls : Array Slot), lv_has ls 4 [(0, .ref (sk_ad g 88)), (1, .int a1), (2, .int a2), (3, .int a3)] → sk_P g M H → va_S (sk_A g) s.heap H locs → ∀ {out : Int32}, f_X7_counts_L4 a1 M n a2 a3 = some out → (∀ (x2 : Int32) (H : Heap) (locs : List Loc) (ls : Array Slot), some x2 = some out → lv_has ls 4 [(2, .int x2)] → sk_P g M H → va_S (sk_A g) s.heap H locs → W p l e (sk_rm 2) s m av below meth c H locs 0 0 (MQ below (sk_QI g rr M) av s 0 0 (sk_A g)) (F0 m 40 ls [])) → W p l e (sk_rm 2) s m av below meth c H locs 0 0 (MQ below (sk_QI g rr M) av s 0 0 (sk_A g)) (F0 m 4 ls []) := by
  obtain ⟨hx, hb, hml, hown, hts, hK, hE, hr, hlocks⟩ := id C
  intro n
  induction n with
  | zero =>
    intro a2 a3 H locs ls hl hM hS out h
    cases h
  | succ n ih =>
    intro a2 a3 H locs ls hl hM hS out h kx
    rw [f_X7_counts_L4] at h
    refine lv_iload_n hx hb dX7_counts_4 rfl (lv_at hl 3 rfl) ?_
    refine lv_aload_n hx hb dX7_counts_5 rfl (lv_at hl 0 rfl) ?_
    refine sk_getR (o := 88) (ci := 7) (j := 0) (t := 89) C hM rfl rfl (by decide) rfl rfl kw_935 dX7_counts_6 ?_
    refine lv_iconst (v := 3) hx hb dX7_counts_9 (by decide) ?_
    refine sk_iald (o := 89) C hM rfl (by decide) dX7_counts_10 ?_
    refine W.eq (g2 := F0 m 11 ls [.int (M 89 3), .int a3]) rfl ?_
    refine lv_icmp_ge hx hb dX7_counts_11 rfl (fun hc => ?_) (fun hc => ?_)
    · have h := sk_pos h hc
      exact kx _ _ _ _ h (lv_sub hl [2] rfl) hM hS
    · have h := sk_neg h hc
      refine lv_aload_n hx hb dX7_counts_14 rfl (lv_at hl 0 rfl) ?_
      refine sk_getR (o := 88) (ci := 7) (j := 0) (t := 89) C hM rfl rfl (by decide) rfl rfl kw_935 dX7_counts_15 ?_
      refine lv_aload_n hx hb dX7_counts_18 rfl (lv_at hl 0 rfl) ?_
      refine lv_iload_n hx hb dX7_counts_19 rfl (lv_at hl 3 rfl) ?_
      refine sk_contI (sk_runV (As := [.int a3]) (rest := [.ref (sk_ad g 89)]) C (c_X7_textAt g l a3 M rfl) yo_X7_textAt kw_1157 (sk_recv (ci := 7) C hM rfl rfl) (by decide) hM hS hl.1 rfl rfl (Nat.le_of_ble_eq_true rfl) dX7_counts_20) hS (fun H locs hM hS => ?_)
      obtain ⟨i_2, h⟩ := sk_chkE h
      refine sk_iald (o := 89) C hM rfl i_2 dX7_counts_23 ?_
      refine lv_iload_n hx hb dX7_counts_24 rfl (lv_at hl 1 rfl) ?_
      have J : ∀ (vv : Int32) (H : Heap) (locs : List Loc), (if (M 89 (f_X7_textAt a3).toNatClampNeg) = a1 then a3 else a2 : Int32) = vv → sk_P g M H → va_S (sk_A g) s.heap H locs → W p l e (sk_rm 2) s m av below meth c H locs 0 0 (MQ below (sk_QI g rr M) av s 0 0 (sk_A g)) (F0 m 33 ls [.int vv]) := by
        intro vv H locs hvv hM hS
        subst hvv
        refine lv_topi (fun x_3 ex_3 => ?_)
        have h := sk_letU h ex_3
        refine lv_istore_n (lv' := [(2, .int x_3), (0, .ref (sk_ad g 88)), (1, .int a1), (3, .int a3)]) hx hb dX7_counts_33 rfl hl (by decide) rfl (fun ls hl => ?_)
        refine lv_iinc (v := (a3 + 1)) (lv' := [(3, .int (a3 + 1)), (2, .int x_3), (0, .ref (sk_ad g 88)), (1, .int a1)]) hx hb dX7_counts_34 hl (k := 3) rfl rfl (by decide) rfl (fun ls hl => ?_)
        refine lv_goto hx hb dX7_counts_37 rfl ?_
        exact ih x_3 (a3 + 1) _ _ _ (lv_sub hl [2, 3, 1, 0] rfl) hM hS h kx
      refine lv_icmp_ne hx hb dX7_counts_25 rfl (fun hc => ?_) (fun hc => ?_)
      · have J := fun vv H locs q => J vv H locs ((if_neg hc).trans q)
        refine lv_iload_n hx hb dX7_counts_32 rfl (lv_at hl 2 rfl) ?_
        exact J _ _ _ rfl hM hS
      · have J := fun vv H locs q => J vv H locs ((if_pos hc).trans q)
        refine lv_iload_n hx hb dX7_counts_28 rfl (lv_at hl 3 rfl) ?_
        refine lv_goto hx hb dX7_counts_29 rfl ?_
        exact J _ _ _ rfl hM hS
set_option maxHeartbeats 4000000 in
set_option maxRecDepth 100000 in
theorem c_X7_counts (g : sk_G) (l : Launch) (a1 : Int32) (M : sk_M) {rr : Int32} (h : f_X7_counts a1 M = some rr) : sk_MI g l yX7_counts cX7_counts 4 (some .int) 2 [.ref (sk_ad g 88), .int a1] M rr M := by
  refine sk_go [(0, .ref (sk_ad g 88)), (1, .int a1)] (by decide) (Nat.le_of_ble_eq_true rfl) rfl ?_
  intro p e s m av below meth c C ls hl hM hS
  obtain ⟨hx, hb, hml, hown, hts, hK, hE, hr, hlocks⟩ := id C
  rw [f_X7_counts] at h
  refine lv_iconst (v := (-1)) hx hb dX7_counts_0 (by decide) ?_
  refine lv_istore_n (lv' := [(2, .int (-1)), (0, .ref (sk_ad g 88)), (1, .int a1)]) hx hb dX7_counts_1 rfl hl (by decide) rfl (fun ls hl => ?_)
  refine lv_iconst (v := 0) hx hb dX7_counts_2 (by decide) ?_
  refine lv_istore_n (lv' := [(3, .int 0), (2, .int (-1)), (0, .ref (sk_ad g 88)), (1, .int a1)]) hx hb dX7_counts_3 rfl hl (by decide) rfl (fun ls hl => ?_)
  obtain ⟨x_4, h_5, h⟩ := sk_b1E h
  refine w_X7_counts_L4 C a1 M sk_FU (-1) 0 _ _ _ (lv_sub hl [2, 3, 1, 0] rfl) hM hS h_5 (fun y_6 H locs ls he hl hM hS => ?_)
  obtain rfl := Option.some.inj he
  refine lv_iload_n hx hb dX7_counts_40 rfl (lv_at hl 0 rfl) ?_
  exact sk_iret C hM hS ⟨Option.some.inj h, rfl⟩ dX7_counts_41
theorem dX7_joined_0 : decode cX7_joined 0 = .ok (.iload_n 0, 1) := by decide +kernel
theorem dX7_joined_1 : decode cX7_joined 1 = .ok (.tableswitch 196 38 62 #[182, 196, 196, 196, 123, 115, 196, 119, 196, 127, 196, 196, 196, 196, 196, 196, 196, 196, 196, 196, 196, 196, 149, 171, 160], 115) := by decide +kernel
theorem dX7_joined_116 : decode cX7_joined 116 = .ok (.iload_n 1, 1) := by decide +kernel
theorem dX7_joined_117 : decode cX7_joined 117 = .ok (.iload_n 2, 1) := by decide +kernel
theorem dX7_joined_118 : decode cX7_joined 118 = .ok (.iadd, 1) := by decide +kernel
theorem dX7_joined_119 : decode cX7_joined 119 = .ok (.ireturn, 1) := by decide +kernel
theorem dX7_joined_120 : decode cX7_joined 120 = .ok (.iload_n 1, 1) := by decide +kernel
theorem dX7_joined_121 : decode cX7_joined 121 = .ok (.iload_n 2, 1) := by decide +kernel
theorem dX7_joined_122 : decode cX7_joined 122 = .ok (.isub, 1) := by decide +kernel
theorem dX7_joined_123 : decode cX7_joined 123 = .ok (.ireturn, 1) := by decide +kernel
theorem dX7_joined_124 : decode cX7_joined 124 = .ok (.iload_n 1, 1) := by decide +kernel
theorem dX7_joined_125 : decode cX7_joined 125 = .ok (.iload_n 2, 1) := by decide +kernel
theorem dX7_joined_126 : decode cX7_joined 126 = .ok (.imul, 1) := by decide +kernel
theorem dX7_joined_127 : decode cX7_joined 127 = .ok (.ireturn, 1) := by decide +kernel
theorem dX7_joined_128 : decode cX7_joined 128 = .ok (.iload_n 2, 1) := by decide +kernel
theorem dX7_joined_129 : decode cX7_joined 129 = .ok (.ifCond .ne 7, 3) := by decide +kernel
theorem dX7_joined_132 : decode cX7_joined 132 = .ok (.iconst 0, 1) := by decide +kernel
theorem dX7_joined_133 : decode cX7_joined 133 = .ok (.goto 16, 3) := by decide +kernel
theorem dX7_joined_136 : decode cX7_joined 136 = .ok (.iload_n 2, 1) := by decide +kernel
theorem dX7_joined_137 : decode cX7_joined 137 = .ok (.iconst (-1), 1) := by decide +kernel
theorem dX7_joined_138 : decode cX7_joined 138 = .ok (.if_icmp .ne 8, 3) := by decide +kernel
theorem dX7_joined_141 : decode cX7_joined 141 = .ok (.iload_n 1, 1) := by decide +kernel
theorem dX7_joined_142 : decode cX7_joined 142 = .ok (.ineg, 1) := by decide +kernel
theorem dX7_joined_143 : decode cX7_joined 143 = .ok (.goto 6, 3) := by decide +kernel
theorem dX7_joined_146 : decode cX7_joined 146 = .ok (.iload_n 1, 1) := by decide +kernel
theorem dX7_joined_147 : decode cX7_joined 147 = .ok (.iload_n 2, 1) := by decide +kernel
theorem dX7_joined_148 : decode cX7_joined 148 = .ok (.idiv, 1) := by decide +kernel
theorem dX7_joined_149 : decode cX7_joined 149 = .ok (.ireturn, 1) := by decide +kernel
theorem dX7_joined_150 : decode cX7_joined 150 = .ok (.iload_n 1, 1) := by decide +kernel
theorem dX7_joined_151 : decode cX7_joined 151 = .ok (.iload_n 2, 1) := by decide +kernel
theorem dX7_joined_152 : decode cX7_joined 152 = .ok (.if_icmp .ge 7, 3) := by decide +kernel
theorem dX7_joined_155 : decode cX7_joined 155 = .ok (.iconst 1, 1) := by decide +kernel
theorem dX7_joined_156 : decode cX7_joined 156 = .ok (.goto 4, 3) := by decide +kernel
theorem dX7_joined_159 : decode cX7_joined 159 = .ok (.iconst 0, 1) := by decide +kernel
theorem dX7_joined_160 : decode cX7_joined 160 = .ok (.ireturn, 1) := by decide +kernel
theorem dX7_joined_161 : decode cX7_joined 161 = .ok (.iload_n 1, 1) := by decide +kernel
theorem dX7_joined_162 : decode cX7_joined 162 = .ok (.iload_n 2, 1) := by decide +kernel
theorem dX7_joined_163 : decode cX7_joined 163 = .ok (.if_icmp .le 7, 3) := by decide +kernel
theorem dX7_joined_166 : decode cX7_joined 166 = .ok (.iconst 1, 1) := by decide +kernel
theorem dX7_joined_167 : decode cX7_joined 167 = .ok (.goto 4, 3) := by decide +kernel
theorem dX7_joined_170 : decode cX7_joined 170 = .ok (.iconst 0, 1) := by decide +kernel
theorem dX7_joined_171 : decode cX7_joined 171 = .ok (.ireturn, 1) := by decide +kernel
theorem dX7_joined_172 : decode cX7_joined 172 = .ok (.iload_n 1, 1) := by decide +kernel
theorem dX7_joined_173 : decode cX7_joined 173 = .ok (.iload_n 2, 1) := by decide +kernel
theorem dX7_joined_174 : decode cX7_joined 174 = .ok (.if_icmp .ne 7, 3) := by decide +kernel
theorem dX7_joined_177 : decode cX7_joined 177 = .ok (.iconst 1, 1) := by decide +kernel
theorem dX7_joined_178 : decode cX7_joined 178 = .ok (.goto 4, 3) := by decide +kernel
theorem dX7_joined_181 : decode cX7_joined 181 = .ok (.iconst 0, 1) := by decide +kernel
theorem dX7_joined_182 : decode cX7_joined 182 = .ok (.ireturn, 1) := by decide +kernel
theorem dX7_joined_183 : decode cX7_joined 183 = .ok (.iload_n 1, 1) := by decide +kernel
theorem dX7_joined_184 : decode cX7_joined 184 = .ok (.ifCond .eq 11, 3) := by decide +kernel
theorem dX7_joined_187 : decode cX7_joined 187 = .ok (.iload_n 2, 1) := by decide +kernel
theorem dX7_joined_188 : decode cX7_joined 188 = .ok (.ifCond .eq 7, 3) := by decide +kernel
theorem dX7_joined_191 : decode cX7_joined 191 = .ok (.iconst 1, 1) := by decide +kernel
theorem dX7_joined_192 : decode cX7_joined 192 = .ok (.goto 4, 3) := by decide +kernel
theorem dX7_joined_195 : decode cX7_joined 195 = .ok (.iconst 0, 1) := by decide +kernel
theorem dX7_joined_196 : decode cX7_joined 196 = .ok (.ireturn, 1) := by decide +kernel
theorem dX7_joined_197 : decode cX7_joined 197 = .ok (.iload_n 1, 1) := by decide +kernel
theorem dX7_joined_198 : decode cX7_joined 198 = .ok (.ifCond .ne 7, 3) := by decide +kernel
theorem dX7_joined_201 : decode cX7_joined 201 = .ok (.iload_n 2, 1) := by decide +kernel
theorem dX7_joined_202 : decode cX7_joined 202 = .ok (.ifCond .eq 7, 3) := by decide +kernel
theorem dX7_joined_205 : decode cX7_joined 205 = .ok (.iconst 1, 1) := by decide +kernel
theorem dX7_joined_206 : decode cX7_joined 206 = .ok (.goto 4, 3) := by decide +kernel
theorem dX7_joined_209 : decode cX7_joined 209 = .ok (.iconst 0, 1) := by decide +kernel
theorem dX7_joined_210 : decode cX7_joined 210 = .ok (.ireturn, 1) := by decide +kernel
set_option maxHeartbeats 4000000 in
set_option maxRecDepth 100000 in
theorem c_X7_joined (g : sk_G) (l : Launch) (a0 : Int32) (a1 : Int32) (a2 : Int32) (M : sk_M) {rr : Int32} (h : f_X7_joined a0 a1 a2 M = some rr) : sk_MI g l yX7_joined cX7_joined 3 (some .int) 1 [.int a0, .int a1, .int a2] M rr M := by
  refine sk_go [(0, .int a0), (1, .int a1), (2, .int a2)] (by decide) (Nat.le_of_ble_eq_true rfl) rfl ?_
  intro p e s m av below meth c C ls hl hM hS
  obtain ⟨hx, hb, hml, hown, hts, hK, hE, hr, hlocks⟩ := id C
  rw [f_X7_joined] at h
  refine lv_iload_n hx hb dX7_joined_0 rfl (lv_at hl 0 rfl) ?_
  by_cases hk_1 : a0 = 38
  · refine lv_tableIn (off := 182) hx hb dX7_joined_1 (by rw [hk_1]; decide) (by rw [hk_1]; decide) (by rw [hk_1]; rfl) rfl ?_
    have h := sk_pos h hk_1
    refine lv_iload_n hx hb dX7_joined_183 rfl (lv_at hl 1 rfl) ?_
    have J : ∀ (vv : Int32) (H : Heap) (locs : List Loc), (if a1 = 0 then 0 else (if a2 = 0 then 0 else 1 : Int32) : Int32) = vv → sk_P g M H → va_S (sk_A g) s.heap H locs → W p l e (sk_rm 1) s m av below meth c H locs 0 0 (MQ below (sk_QI g rr M) av s 0 0 (sk_A g)) (F0 m 196 ls [.int vv]) := by
      intro vv H locs hvv hM hS
      subst hvv
      exact sk_iret C hM hS ⟨Option.some.inj h, rfl⟩ dX7_joined_196
    refine lv_if_eq hx hb dX7_joined_184 rfl (fun hc => ?_) (fun hc => ?_)
    · have J := fun vv H locs q => J vv H locs ((if_pos hc).trans q)
      refine lv_iconst (v := 0) hx hb dX7_joined_195 (by decide) ?_
      exact J _ _ _ rfl hM hS
    · have J := fun vv H locs q => J vv H locs ((if_neg hc).trans q)
      refine lv_iload_n hx hb dX7_joined_187 rfl (lv_at hl 2 rfl) ?_
      refine lv_if_eq hx hb dX7_joined_188 rfl (fun hc => ?_) (fun hc => ?_)
      · have J := fun vv H locs q => J vv H locs ((if_pos hc).trans q)
        refine lv_iconst (v := 0) hx hb dX7_joined_195 (by decide) ?_
        exact J _ _ _ rfl hM hS
      · have J := fun vv H locs q => J vv H locs ((if_neg hc).trans q)
        refine lv_iconst (v := 1) hx hb dX7_joined_191 (by decide) ?_
        refine lv_goto hx hb dX7_joined_192 rfl ?_
        exact J _ _ _ rfl hM hS
  have h := sk_neg h hk_1
  by_cases hk_2 : a0 = 39
  · refine lv_tableIn (off := 196) hx hb dX7_joined_1 (by rw [hk_2]; decide) (by rw [hk_2]; decide) (by rw [hk_2]; rfl) rfl ?_
    have h := sk_pos h hk_2
    refine lv_iload_n hx hb dX7_joined_197 rfl (lv_at hl 1 rfl) ?_
    refine lv_if_ne hx hb dX7_joined_198 rfl (fun hc => ?_) (fun hc => ?_)
    · have h := sk_neg h hc
      refine lv_iconst (v := 1) hx hb dX7_joined_205 (by decide) ?_
      refine lv_goto hx hb dX7_joined_206 rfl ?_
      exact sk_iret C hM hS ⟨Option.some.inj h, rfl⟩ dX7_joined_210
    · have h := sk_pos h hc
      refine lv_iload_n hx hb dX7_joined_201 rfl (lv_at hl 2 rfl) ?_
      have J : ∀ (vv : Int32) (H : Heap) (locs : List Loc), (if a2 = 0 then 0 else 1 : Int32) = vv → sk_P g M H → va_S (sk_A g) s.heap H locs → W p l e (sk_rm 1) s m av below meth c H locs 0 0 (MQ below (sk_QI g rr M) av s 0 0 (sk_A g)) (F0 m 210 ls [.int vv]) := by
        intro vv H locs hvv hM hS
        subst hvv
        exact sk_iret C hM hS ⟨Option.some.inj h, rfl⟩ dX7_joined_210
      refine lv_if_eq hx hb dX7_joined_202 rfl (fun hc => ?_) (fun hc => ?_)
      · have J := fun vv H locs q => J vv H locs ((if_pos hc).trans q)
        refine lv_iconst (v := 0) hx hb dX7_joined_209 (by decide) ?_
        exact J _ _ _ rfl hM hS
      · have J := fun vv H locs q => J vv H locs ((if_neg hc).trans q)
        refine lv_iconst (v := 1) hx hb dX7_joined_205 (by decide) ?_
        refine lv_goto hx hb dX7_joined_206 rfl ?_
        exact J _ _ _ rfl hM hS
  have h := sk_neg h hk_2
  by_cases hk_3 : a0 = 40
  · refine lv_tableIn (off := 196) hx hb dX7_joined_1 (by rw [hk_3]; decide) (by rw [hk_3]; decide) (by rw [hk_3]; rfl) rfl ?_
    have h := sk_pos h hk_3
    refine lv_iload_n hx hb dX7_joined_197 rfl (lv_at hl 1 rfl) ?_
    refine lv_if_ne hx hb dX7_joined_198 rfl (fun hc => ?_) (fun hc => ?_)
    · have h := sk_neg h hc
      refine lv_iconst (v := 1) hx hb dX7_joined_205 (by decide) ?_
      refine lv_goto hx hb dX7_joined_206 rfl ?_
      exact sk_iret C hM hS ⟨Option.some.inj h, rfl⟩ dX7_joined_210
    · have h := sk_pos h hc
      refine lv_iload_n hx hb dX7_joined_201 rfl (lv_at hl 2 rfl) ?_
      have J : ∀ (vv : Int32) (H : Heap) (locs : List Loc), (if a2 = 0 then 0 else 1 : Int32) = vv → sk_P g M H → va_S (sk_A g) s.heap H locs → W p l e (sk_rm 1) s m av below meth c H locs 0 0 (MQ below (sk_QI g rr M) av s 0 0 (sk_A g)) (F0 m 210 ls [.int vv]) := by
        intro vv H locs hvv hM hS
        subst hvv
        exact sk_iret C hM hS ⟨Option.some.inj h, rfl⟩ dX7_joined_210
      refine lv_if_eq hx hb dX7_joined_202 rfl (fun hc => ?_) (fun hc => ?_)
      · have J := fun vv H locs q => J vv H locs ((if_pos hc).trans q)
        refine lv_iconst (v := 0) hx hb dX7_joined_209 (by decide) ?_
        exact J _ _ _ rfl hM hS
      · have J := fun vv H locs q => J vv H locs ((if_neg hc).trans q)
        refine lv_iconst (v := 1) hx hb dX7_joined_205 (by decide) ?_
        refine lv_goto hx hb dX7_joined_206 rfl ?_
        exact J _ _ _ rfl hM hS
  have h := sk_neg h hk_3
  by_cases hk_4 : a0 = 41
  · refine lv_tableIn (off := 196) hx hb dX7_joined_1 (by rw [hk_4]; decide) (by rw [hk_4]; decide) (by rw [hk_4]; rfl) rfl ?_
    have h := sk_pos h hk_4
    refine lv_iload_n hx hb dX7_joined_197 rfl (lv_at hl 1 rfl) ?_
    refine lv_if_ne hx hb dX7_joined_198 rfl (fun hc => ?_) (fun hc => ?_)
    · have h := sk_neg h hc
      refine lv_iconst (v := 1) hx hb dX7_joined_205 (by decide) ?_
      refine lv_goto hx hb dX7_joined_206 rfl ?_
      exact sk_iret C hM hS ⟨Option.some.inj h, rfl⟩ dX7_joined_210
    · have h := sk_pos h hc
      refine lv_iload_n hx hb dX7_joined_201 rfl (lv_at hl 2 rfl) ?_
      have J : ∀ (vv : Int32) (H : Heap) (locs : List Loc), (if a2 = 0 then 0 else 1 : Int32) = vv → sk_P g M H → va_S (sk_A g) s.heap H locs → W p l e (sk_rm 1) s m av below meth c H locs 0 0 (MQ below (sk_QI g rr M) av s 0 0 (sk_A g)) (F0 m 210 ls [.int vv]) := by
        intro vv H locs hvv hM hS
        subst hvv
        exact sk_iret C hM hS ⟨Option.some.inj h, rfl⟩ dX7_joined_210
      refine lv_if_eq hx hb dX7_joined_202 rfl (fun hc => ?_) (fun hc => ?_)
      · have J := fun vv H locs q => J vv H locs ((if_pos hc).trans q)
        refine lv_iconst (v := 0) hx hb dX7_joined_209 (by decide) ?_
        exact J _ _ _ rfl hM hS
      · have J := fun vv H locs q => J vv H locs ((if_neg hc).trans q)
        refine lv_iconst (v := 1) hx hb dX7_joined_205 (by decide) ?_
        refine lv_goto hx hb dX7_joined_206 rfl ?_
        exact J _ _ _ rfl hM hS
  have h := sk_neg h hk_4
  by_cases hk_5 : a0 = 42
  · refine lv_tableIn (off := 123) hx hb dX7_joined_1 (by rw [hk_5]; decide) (by rw [hk_5]; decide) (by rw [hk_5]; rfl) rfl ?_
    have h := sk_pos h hk_5
    refine lv_iload_n hx hb dX7_joined_124 rfl (lv_at hl 1 rfl) ?_
    refine lv_iload_n hx hb dX7_joined_125 rfl (lv_at hl 2 rfl) ?_
    refine lv_imul hx hb dX7_joined_126 ?_
    exact sk_iret C hM hS ⟨Option.some.inj h, rfl⟩ dX7_joined_127
  have h := sk_neg h hk_5
  by_cases hk_6 : a0 = 43
  · refine lv_tableIn (off := 115) hx hb dX7_joined_1 (by rw [hk_6]; decide) (by rw [hk_6]; decide) (by rw [hk_6]; rfl) rfl ?_
    have h := sk_pos h hk_6
    refine lv_iload_n hx hb dX7_joined_116 rfl (lv_at hl 1 rfl) ?_
    refine lv_iload_n hx hb dX7_joined_117 rfl (lv_at hl 2 rfl) ?_
    refine lv_iadd hx hb dX7_joined_118 ?_
    exact sk_iret C hM hS ⟨Option.some.inj h, rfl⟩ dX7_joined_119
  have h := sk_neg h hk_6
  by_cases hk_7 : a0 = 44
  · refine lv_tableIn (off := 196) hx hb dX7_joined_1 (by rw [hk_7]; decide) (by rw [hk_7]; decide) (by rw [hk_7]; rfl) rfl ?_
    have h := sk_pos h hk_7
    refine lv_iload_n hx hb dX7_joined_197 rfl (lv_at hl 1 rfl) ?_
    refine lv_if_ne hx hb dX7_joined_198 rfl (fun hc => ?_) (fun hc => ?_)
    · have h := sk_neg h hc
      refine lv_iconst (v := 1) hx hb dX7_joined_205 (by decide) ?_
      refine lv_goto hx hb dX7_joined_206 rfl ?_
      exact sk_iret C hM hS ⟨Option.some.inj h, rfl⟩ dX7_joined_210
    · have h := sk_pos h hc
      refine lv_iload_n hx hb dX7_joined_201 rfl (lv_at hl 2 rfl) ?_
      have J : ∀ (vv : Int32) (H : Heap) (locs : List Loc), (if a2 = 0 then 0 else 1 : Int32) = vv → sk_P g M H → va_S (sk_A g) s.heap H locs → W p l e (sk_rm 1) s m av below meth c H locs 0 0 (MQ below (sk_QI g rr M) av s 0 0 (sk_A g)) (F0 m 210 ls [.int vv]) := by
        intro vv H locs hvv hM hS
        subst hvv
        exact sk_iret C hM hS ⟨Option.some.inj h, rfl⟩ dX7_joined_210
      refine lv_if_eq hx hb dX7_joined_202 rfl (fun hc => ?_) (fun hc => ?_)
      · have J := fun vv H locs q => J vv H locs ((if_pos hc).trans q)
        refine lv_iconst (v := 0) hx hb dX7_joined_209 (by decide) ?_
        exact J _ _ _ rfl hM hS
      · have J := fun vv H locs q => J vv H locs ((if_neg hc).trans q)
        refine lv_iconst (v := 1) hx hb dX7_joined_205 (by decide) ?_
        refine lv_goto hx hb dX7_joined_206 rfl ?_
        exact J _ _ _ rfl hM hS
  have h := sk_neg h hk_7
  by_cases hk_8 : a0 = 45
  · refine lv_tableIn (off := 119) hx hb dX7_joined_1 (by rw [hk_8]; decide) (by rw [hk_8]; decide) (by rw [hk_8]; rfl) rfl ?_
    have h := sk_pos h hk_8
    refine lv_iload_n hx hb dX7_joined_120 rfl (lv_at hl 1 rfl) ?_
    refine lv_iload_n hx hb dX7_joined_121 rfl (lv_at hl 2 rfl) ?_
    refine lv_isub hx hb dX7_joined_122 ?_
    exact sk_iret C hM hS ⟨Option.some.inj h, rfl⟩ dX7_joined_123
  have h := sk_neg h hk_8
  by_cases hk_9 : a0 = 46
  · refine lv_tableIn (off := 196) hx hb dX7_joined_1 (by rw [hk_9]; decide) (by rw [hk_9]; decide) (by rw [hk_9]; rfl) rfl ?_
    have h := sk_pos h hk_9
    refine lv_iload_n hx hb dX7_joined_197 rfl (lv_at hl 1 rfl) ?_
    refine lv_if_ne hx hb dX7_joined_198 rfl (fun hc => ?_) (fun hc => ?_)
    · have h := sk_neg h hc
      refine lv_iconst (v := 1) hx hb dX7_joined_205 (by decide) ?_
      refine lv_goto hx hb dX7_joined_206 rfl ?_
      exact sk_iret C hM hS ⟨Option.some.inj h, rfl⟩ dX7_joined_210
    · have h := sk_pos h hc
      refine lv_iload_n hx hb dX7_joined_201 rfl (lv_at hl 2 rfl) ?_
      have J : ∀ (vv : Int32) (H : Heap) (locs : List Loc), (if a2 = 0 then 0 else 1 : Int32) = vv → sk_P g M H → va_S (sk_A g) s.heap H locs → W p l e (sk_rm 1) s m av below meth c H locs 0 0 (MQ below (sk_QI g rr M) av s 0 0 (sk_A g)) (F0 m 210 ls [.int vv]) := by
        intro vv H locs hvv hM hS
        subst hvv
        exact sk_iret C hM hS ⟨Option.some.inj h, rfl⟩ dX7_joined_210
      refine lv_if_eq hx hb dX7_joined_202 rfl (fun hc => ?_) (fun hc => ?_)
      · have J := fun vv H locs q => J vv H locs ((if_pos hc).trans q)
        refine lv_iconst (v := 0) hx hb dX7_joined_209 (by decide) ?_
        exact J _ _ _ rfl hM hS
      · have J := fun vv H locs q => J vv H locs ((if_neg hc).trans q)
        refine lv_iconst (v := 1) hx hb dX7_joined_205 (by decide) ?_
        refine lv_goto hx hb dX7_joined_206 rfl ?_
        exact J _ _ _ rfl hM hS
  have h := sk_neg h hk_9
  by_cases hk_11 : a0 = 47
  · refine lv_tableIn (off := 127) hx hb dX7_joined_1 (by rw [hk_11]; decide) (by rw [hk_11]; decide) (by rw [hk_11]; rfl) rfl ?_
    have h := sk_pos h hk_11
    refine lv_iload_n hx hb dX7_joined_128 rfl (lv_at hl 2 rfl) ?_
    refine lv_if_ne hx hb dX7_joined_129 rfl (fun hc => ?_) (fun hc => ?_)
    · have h := sk_neg h hc
      refine lv_iload_n hx hb dX7_joined_136 rfl (lv_at hl 2 rfl) ?_
      refine lv_iconst (v := (-1)) hx hb dX7_joined_137 (by decide) ?_
      refine lv_icmp_ne hx hb dX7_joined_138 rfl (fun hc => ?_) (fun hc => ?_)
      · have h := sk_neg h hc
        refine lv_iload_n hx hb dX7_joined_146 rfl (lv_at hl 1 rfl) ?_
        refine lv_iload_n hx hb dX7_joined_147 rfl (lv_at hl 2 rfl) ?_
        obtain ⟨i_10, h⟩ := sk_chkE h
        refine lv_idiv hx hb dX7_joined_148 (of_decide_eq_true i_10) ?_
        exact sk_iret C hM hS ⟨Option.some.inj h, rfl⟩ dX7_joined_149
      · have h := sk_pos h hc
        refine lv_iload_n hx hb dX7_joined_141 rfl (lv_at hl 1 rfl) ?_
        refine lv_ineg hx hb dX7_joined_142 ?_
        refine lv_goto hx hb dX7_joined_143 rfl ?_
        exact sk_iret C hM hS ⟨Option.some.inj h, rfl⟩ dX7_joined_149
    · have h := sk_pos h hc
      refine lv_iconst (v := 0) hx hb dX7_joined_132 (by decide) ?_
      refine lv_goto hx hb dX7_joined_133 rfl ?_
      exact sk_iret C hM hS ⟨Option.some.inj h, rfl⟩ dX7_joined_149
  have h := sk_neg h hk_11
  by_cases hk_12 : a0 = 48
  · refine lv_tableIn (off := 196) hx hb dX7_joined_1 (by rw [hk_12]; decide) (by rw [hk_12]; decide) (by rw [hk_12]; rfl) rfl ?_
    have h := sk_pos h hk_12
    refine lv_iload_n hx hb dX7_joined_197 rfl (lv_at hl 1 rfl) ?_
    refine lv_if_ne hx hb dX7_joined_198 rfl (fun hc => ?_) (fun hc => ?_)
    · have h := sk_neg h hc
      refine lv_iconst (v := 1) hx hb dX7_joined_205 (by decide) ?_
      refine lv_goto hx hb dX7_joined_206 rfl ?_
      exact sk_iret C hM hS ⟨Option.some.inj h, rfl⟩ dX7_joined_210
    · have h := sk_pos h hc
      refine lv_iload_n hx hb dX7_joined_201 rfl (lv_at hl 2 rfl) ?_
      have J : ∀ (vv : Int32) (H : Heap) (locs : List Loc), (if a2 = 0 then 0 else 1 : Int32) = vv → sk_P g M H → va_S (sk_A g) s.heap H locs → W p l e (sk_rm 1) s m av below meth c H locs 0 0 (MQ below (sk_QI g rr M) av s 0 0 (sk_A g)) (F0 m 210 ls [.int vv]) := by
        intro vv H locs hvv hM hS
        subst hvv
        exact sk_iret C hM hS ⟨Option.some.inj h, rfl⟩ dX7_joined_210
      refine lv_if_eq hx hb dX7_joined_202 rfl (fun hc => ?_) (fun hc => ?_)
      · have J := fun vv H locs q => J vv H locs ((if_pos hc).trans q)
        refine lv_iconst (v := 0) hx hb dX7_joined_209 (by decide) ?_
        exact J _ _ _ rfl hM hS
      · have J := fun vv H locs q => J vv H locs ((if_neg hc).trans q)
        refine lv_iconst (v := 1) hx hb dX7_joined_205 (by decide) ?_
        refine lv_goto hx hb dX7_joined_206 rfl ?_
        exact J _ _ _ rfl hM hS
  have h := sk_neg h hk_12
  by_cases hk_13 : a0 = 49
  · refine lv_tableIn (off := 196) hx hb dX7_joined_1 (by rw [hk_13]; decide) (by rw [hk_13]; decide) (by rw [hk_13]; rfl) rfl ?_
    have h := sk_pos h hk_13
    refine lv_iload_n hx hb dX7_joined_197 rfl (lv_at hl 1 rfl) ?_
    refine lv_if_ne hx hb dX7_joined_198 rfl (fun hc => ?_) (fun hc => ?_)
    · have h := sk_neg h hc
      refine lv_iconst (v := 1) hx hb dX7_joined_205 (by decide) ?_
      refine lv_goto hx hb dX7_joined_206 rfl ?_
      exact sk_iret C hM hS ⟨Option.some.inj h, rfl⟩ dX7_joined_210
    · have h := sk_pos h hc
      refine lv_iload_n hx hb dX7_joined_201 rfl (lv_at hl 2 rfl) ?_
      have J : ∀ (vv : Int32) (H : Heap) (locs : List Loc), (if a2 = 0 then 0 else 1 : Int32) = vv → sk_P g M H → va_S (sk_A g) s.heap H locs → W p l e (sk_rm 1) s m av below meth c H locs 0 0 (MQ below (sk_QI g rr M) av s 0 0 (sk_A g)) (F0 m 210 ls [.int vv]) := by
        intro vv H locs hvv hM hS
        subst hvv
        exact sk_iret C hM hS ⟨Option.some.inj h, rfl⟩ dX7_joined_210
      refine lv_if_eq hx hb dX7_joined_202 rfl (fun hc => ?_) (fun hc => ?_)
      · have J := fun vv H locs q => J vv H locs ((if_pos hc).trans q)
        refine lv_iconst (v := 0) hx hb dX7_joined_209 (by decide) ?_
        exact J _ _ _ rfl hM hS
      · have J := fun vv H locs q => J vv H locs ((if_neg hc).trans q)
        refine lv_iconst (v := 1) hx hb dX7_joined_205 (by decide) ?_
        refine lv_goto hx hb dX7_joined_206 rfl ?_
        exact J _ _ _ rfl hM hS
  have h := sk_neg h hk_13
  by_cases hk_14 : a0 = 50
  · refine lv_tableIn (off := 196) hx hb dX7_joined_1 (by rw [hk_14]; decide) (by rw [hk_14]; decide) (by rw [hk_14]; rfl) rfl ?_
    have h := sk_pos h hk_14
    refine lv_iload_n hx hb dX7_joined_197 rfl (lv_at hl 1 rfl) ?_
    refine lv_if_ne hx hb dX7_joined_198 rfl (fun hc => ?_) (fun hc => ?_)
    · have h := sk_neg h hc
      refine lv_iconst (v := 1) hx hb dX7_joined_205 (by decide) ?_
      refine lv_goto hx hb dX7_joined_206 rfl ?_
      exact sk_iret C hM hS ⟨Option.some.inj h, rfl⟩ dX7_joined_210
    · have h := sk_pos h hc
      refine lv_iload_n hx hb dX7_joined_201 rfl (lv_at hl 2 rfl) ?_
      have J : ∀ (vv : Int32) (H : Heap) (locs : List Loc), (if a2 = 0 then 0 else 1 : Int32) = vv → sk_P g M H → va_S (sk_A g) s.heap H locs → W p l e (sk_rm 1) s m av below meth c H locs 0 0 (MQ below (sk_QI g rr M) av s 0 0 (sk_A g)) (F0 m 210 ls [.int vv]) := by
        intro vv H locs hvv hM hS
        subst hvv
        exact sk_iret C hM hS ⟨Option.some.inj h, rfl⟩ dX7_joined_210
      refine lv_if_eq hx hb dX7_joined_202 rfl (fun hc => ?_) (fun hc => ?_)
      · have J := fun vv H locs q => J vv H locs ((if_pos hc).trans q)
        refine lv_iconst (v := 0) hx hb dX7_joined_209 (by decide) ?_
        exact J _ _ _ rfl hM hS
      · have J := fun vv H locs q => J vv H locs ((if_neg hc).trans q)
        refine lv_iconst (v := 1) hx hb dX7_joined_205 (by decide) ?_
        refine lv_goto hx hb dX7_joined_206 rfl ?_
        exact J _ _ _ rfl hM hS
  have h := sk_neg h hk_14
  by_cases hk_15 : a0 = 51
  · refine lv_tableIn (off := 196) hx hb dX7_joined_1 (by rw [hk_15]; decide) (by rw [hk_15]; decide) (by rw [hk_15]; rfl) rfl ?_
    have h := sk_pos h hk_15
    refine lv_iload_n hx hb dX7_joined_197 rfl (lv_at hl 1 rfl) ?_
    refine lv_if_ne hx hb dX7_joined_198 rfl (fun hc => ?_) (fun hc => ?_)
    · have h := sk_neg h hc
      refine lv_iconst (v := 1) hx hb dX7_joined_205 (by decide) ?_
      refine lv_goto hx hb dX7_joined_206 rfl ?_
      exact sk_iret C hM hS ⟨Option.some.inj h, rfl⟩ dX7_joined_210
    · have h := sk_pos h hc
      refine lv_iload_n hx hb dX7_joined_201 rfl (lv_at hl 2 rfl) ?_
      have J : ∀ (vv : Int32) (H : Heap) (locs : List Loc), (if a2 = 0 then 0 else 1 : Int32) = vv → sk_P g M H → va_S (sk_A g) s.heap H locs → W p l e (sk_rm 1) s m av below meth c H locs 0 0 (MQ below (sk_QI g rr M) av s 0 0 (sk_A g)) (F0 m 210 ls [.int vv]) := by
        intro vv H locs hvv hM hS
        subst hvv
        exact sk_iret C hM hS ⟨Option.some.inj h, rfl⟩ dX7_joined_210
      refine lv_if_eq hx hb dX7_joined_202 rfl (fun hc => ?_) (fun hc => ?_)
      · have J := fun vv H locs q => J vv H locs ((if_pos hc).trans q)
        refine lv_iconst (v := 0) hx hb dX7_joined_209 (by decide) ?_
        exact J _ _ _ rfl hM hS
      · have J := fun vv H locs q => J vv H locs ((if_neg hc).trans q)
        refine lv_iconst (v := 1) hx hb dX7_joined_205 (by decide) ?_
        refine lv_goto hx hb dX7_joined_206 rfl ?_
        exact J _ _ _ rfl hM hS
  have h := sk_neg h hk_15
  by_cases hk_16 : a0 = 52
  · refine lv_tableIn (off := 196) hx hb dX7_joined_1 (by rw [hk_16]; decide) (by rw [hk_16]; decide) (by rw [hk_16]; rfl) rfl ?_
    have h := sk_pos h hk_16
    refine lv_iload_n hx hb dX7_joined_197 rfl (lv_at hl 1 rfl) ?_
    refine lv_if_ne hx hb dX7_joined_198 rfl (fun hc => ?_) (fun hc => ?_)
    · have h := sk_neg h hc
      refine lv_iconst (v := 1) hx hb dX7_joined_205 (by decide) ?_
      refine lv_goto hx hb dX7_joined_206 rfl ?_
      exact sk_iret C hM hS ⟨Option.some.inj h, rfl⟩ dX7_joined_210
    · have h := sk_pos h hc
      refine lv_iload_n hx hb dX7_joined_201 rfl (lv_at hl 2 rfl) ?_
      have J : ∀ (vv : Int32) (H : Heap) (locs : List Loc), (if a2 = 0 then 0 else 1 : Int32) = vv → sk_P g M H → va_S (sk_A g) s.heap H locs → W p l e (sk_rm 1) s m av below meth c H locs 0 0 (MQ below (sk_QI g rr M) av s 0 0 (sk_A g)) (F0 m 210 ls [.int vv]) := by
        intro vv H locs hvv hM hS
        subst hvv
        exact sk_iret C hM hS ⟨Option.some.inj h, rfl⟩ dX7_joined_210
      refine lv_if_eq hx hb dX7_joined_202 rfl (fun hc => ?_) (fun hc => ?_)
      · have J := fun vv H locs q => J vv H locs ((if_pos hc).trans q)
        refine lv_iconst (v := 0) hx hb dX7_joined_209 (by decide) ?_
        exact J _ _ _ rfl hM hS
      · have J := fun vv H locs q => J vv H locs ((if_neg hc).trans q)
        refine lv_iconst (v := 1) hx hb dX7_joined_205 (by decide) ?_
        refine lv_goto hx hb dX7_joined_206 rfl ?_
        exact J _ _ _ rfl hM hS
  have h := sk_neg h hk_16
  by_cases hk_17 : a0 = 53
  · refine lv_tableIn (off := 196) hx hb dX7_joined_1 (by rw [hk_17]; decide) (by rw [hk_17]; decide) (by rw [hk_17]; rfl) rfl ?_
    have h := sk_pos h hk_17
    refine lv_iload_n hx hb dX7_joined_197 rfl (lv_at hl 1 rfl) ?_
    refine lv_if_ne hx hb dX7_joined_198 rfl (fun hc => ?_) (fun hc => ?_)
    · have h := sk_neg h hc
      refine lv_iconst (v := 1) hx hb dX7_joined_205 (by decide) ?_
      refine lv_goto hx hb dX7_joined_206 rfl ?_
      exact sk_iret C hM hS ⟨Option.some.inj h, rfl⟩ dX7_joined_210
    · have h := sk_pos h hc
      refine lv_iload_n hx hb dX7_joined_201 rfl (lv_at hl 2 rfl) ?_
      have J : ∀ (vv : Int32) (H : Heap) (locs : List Loc), (if a2 = 0 then 0 else 1 : Int32) = vv → sk_P g M H → va_S (sk_A g) s.heap H locs → W p l e (sk_rm 1) s m av below meth c H locs 0 0 (MQ below (sk_QI g rr M) av s 0 0 (sk_A g)) (F0 m 210 ls [.int vv]) := by
        intro vv H locs hvv hM hS
        subst hvv
        exact sk_iret C hM hS ⟨Option.some.inj h, rfl⟩ dX7_joined_210
      refine lv_if_eq hx hb dX7_joined_202 rfl (fun hc => ?_) (fun hc => ?_)
      · have J := fun vv H locs q => J vv H locs ((if_pos hc).trans q)
        refine lv_iconst (v := 0) hx hb dX7_joined_209 (by decide) ?_
        exact J _ _ _ rfl hM hS
      · have J := fun vv H locs q => J vv H locs ((if_neg hc).trans q)
        refine lv_iconst (v := 1) hx hb dX7_joined_205 (by decide) ?_
        refine lv_goto hx hb dX7_joined_206 rfl ?_
        exact J _ _ _ rfl hM hS
  have h := sk_neg h hk_17
  by_cases hk_18 : a0 = 54
  · refine lv_tableIn (off := 196) hx hb dX7_joined_1 (by rw [hk_18]; decide) (by rw [hk_18]; decide) (by rw [hk_18]; rfl) rfl ?_
    have h := sk_pos h hk_18
    refine lv_iload_n hx hb dX7_joined_197 rfl (lv_at hl 1 rfl) ?_
    refine lv_if_ne hx hb dX7_joined_198 rfl (fun hc => ?_) (fun hc => ?_)
    · have h := sk_neg h hc
      refine lv_iconst (v := 1) hx hb dX7_joined_205 (by decide) ?_
      refine lv_goto hx hb dX7_joined_206 rfl ?_
      exact sk_iret C hM hS ⟨Option.some.inj h, rfl⟩ dX7_joined_210
    · have h := sk_pos h hc
      refine lv_iload_n hx hb dX7_joined_201 rfl (lv_at hl 2 rfl) ?_
      have J : ∀ (vv : Int32) (H : Heap) (locs : List Loc), (if a2 = 0 then 0 else 1 : Int32) = vv → sk_P g M H → va_S (sk_A g) s.heap H locs → W p l e (sk_rm 1) s m av below meth c H locs 0 0 (MQ below (sk_QI g rr M) av s 0 0 (sk_A g)) (F0 m 210 ls [.int vv]) := by
        intro vv H locs hvv hM hS
        subst hvv
        exact sk_iret C hM hS ⟨Option.some.inj h, rfl⟩ dX7_joined_210
      refine lv_if_eq hx hb dX7_joined_202 rfl (fun hc => ?_) (fun hc => ?_)
      · have J := fun vv H locs q => J vv H locs ((if_pos hc).trans q)
        refine lv_iconst (v := 0) hx hb dX7_joined_209 (by decide) ?_
        exact J _ _ _ rfl hM hS
      · have J := fun vv H locs q => J vv H locs ((if_neg hc).trans q)
        refine lv_iconst (v := 1) hx hb dX7_joined_205 (by decide) ?_
        refine lv_goto hx hb dX7_joined_206 rfl ?_
        exact J _ _ _ rfl hM hS
  have h := sk_neg h hk_18
  by_cases hk_19 : a0 = 55
  · refine lv_tableIn (off := 196) hx hb dX7_joined_1 (by rw [hk_19]; decide) (by rw [hk_19]; decide) (by rw [hk_19]; rfl) rfl ?_
    have h := sk_pos h hk_19
    refine lv_iload_n hx hb dX7_joined_197 rfl (lv_at hl 1 rfl) ?_
    refine lv_if_ne hx hb dX7_joined_198 rfl (fun hc => ?_) (fun hc => ?_)
    · have h := sk_neg h hc
      refine lv_iconst (v := 1) hx hb dX7_joined_205 (by decide) ?_
      refine lv_goto hx hb dX7_joined_206 rfl ?_
      exact sk_iret C hM hS ⟨Option.some.inj h, rfl⟩ dX7_joined_210
    · have h := sk_pos h hc
      refine lv_iload_n hx hb dX7_joined_201 rfl (lv_at hl 2 rfl) ?_
      have J : ∀ (vv : Int32) (H : Heap) (locs : List Loc), (if a2 = 0 then 0 else 1 : Int32) = vv → sk_P g M H → va_S (sk_A g) s.heap H locs → W p l e (sk_rm 1) s m av below meth c H locs 0 0 (MQ below (sk_QI g rr M) av s 0 0 (sk_A g)) (F0 m 210 ls [.int vv]) := by
        intro vv H locs hvv hM hS
        subst hvv
        exact sk_iret C hM hS ⟨Option.some.inj h, rfl⟩ dX7_joined_210
      refine lv_if_eq hx hb dX7_joined_202 rfl (fun hc => ?_) (fun hc => ?_)
      · have J := fun vv H locs q => J vv H locs ((if_pos hc).trans q)
        refine lv_iconst (v := 0) hx hb dX7_joined_209 (by decide) ?_
        exact J _ _ _ rfl hM hS
      · have J := fun vv H locs q => J vv H locs ((if_neg hc).trans q)
        refine lv_iconst (v := 1) hx hb dX7_joined_205 (by decide) ?_
        refine lv_goto hx hb dX7_joined_206 rfl ?_
        exact J _ _ _ rfl hM hS
  have h := sk_neg h hk_19
  by_cases hk_20 : a0 = 56
  · refine lv_tableIn (off := 196) hx hb dX7_joined_1 (by rw [hk_20]; decide) (by rw [hk_20]; decide) (by rw [hk_20]; rfl) rfl ?_
    have h := sk_pos h hk_20
    refine lv_iload_n hx hb dX7_joined_197 rfl (lv_at hl 1 rfl) ?_
    refine lv_if_ne hx hb dX7_joined_198 rfl (fun hc => ?_) (fun hc => ?_)
    · have h := sk_neg h hc
      refine lv_iconst (v := 1) hx hb dX7_joined_205 (by decide) ?_
      refine lv_goto hx hb dX7_joined_206 rfl ?_
      exact sk_iret C hM hS ⟨Option.some.inj h, rfl⟩ dX7_joined_210
    · have h := sk_pos h hc
      refine lv_iload_n hx hb dX7_joined_201 rfl (lv_at hl 2 rfl) ?_
      have J : ∀ (vv : Int32) (H : Heap) (locs : List Loc), (if a2 = 0 then 0 else 1 : Int32) = vv → sk_P g M H → va_S (sk_A g) s.heap H locs → W p l e (sk_rm 1) s m av below meth c H locs 0 0 (MQ below (sk_QI g rr M) av s 0 0 (sk_A g)) (F0 m 210 ls [.int vv]) := by
        intro vv H locs hvv hM hS
        subst hvv
        exact sk_iret C hM hS ⟨Option.some.inj h, rfl⟩ dX7_joined_210
      refine lv_if_eq hx hb dX7_joined_202 rfl (fun hc => ?_) (fun hc => ?_)
      · have J := fun vv H locs q => J vv H locs ((if_pos hc).trans q)
        refine lv_iconst (v := 0) hx hb dX7_joined_209 (by decide) ?_
        exact J _ _ _ rfl hM hS
      · have J := fun vv H locs q => J vv H locs ((if_neg hc).trans q)
        refine lv_iconst (v := 1) hx hb dX7_joined_205 (by decide) ?_
        refine lv_goto hx hb dX7_joined_206 rfl ?_
        exact J _ _ _ rfl hM hS
  have h := sk_neg h hk_20
  by_cases hk_21 : a0 = 57
  · refine lv_tableIn (off := 196) hx hb dX7_joined_1 (by rw [hk_21]; decide) (by rw [hk_21]; decide) (by rw [hk_21]; rfl) rfl ?_
    have h := sk_pos h hk_21
    refine lv_iload_n hx hb dX7_joined_197 rfl (lv_at hl 1 rfl) ?_
    refine lv_if_ne hx hb dX7_joined_198 rfl (fun hc => ?_) (fun hc => ?_)
    · have h := sk_neg h hc
      refine lv_iconst (v := 1) hx hb dX7_joined_205 (by decide) ?_
      refine lv_goto hx hb dX7_joined_206 rfl ?_
      exact sk_iret C hM hS ⟨Option.some.inj h, rfl⟩ dX7_joined_210
    · have h := sk_pos h hc
      refine lv_iload_n hx hb dX7_joined_201 rfl (lv_at hl 2 rfl) ?_
      have J : ∀ (vv : Int32) (H : Heap) (locs : List Loc), (if a2 = 0 then 0 else 1 : Int32) = vv → sk_P g M H → va_S (sk_A g) s.heap H locs → W p l e (sk_rm 1) s m av below meth c H locs 0 0 (MQ below (sk_QI g rr M) av s 0 0 (sk_A g)) (F0 m 210 ls [.int vv]) := by
        intro vv H locs hvv hM hS
        subst hvv
        exact sk_iret C hM hS ⟨Option.some.inj h, rfl⟩ dX7_joined_210
      refine lv_if_eq hx hb dX7_joined_202 rfl (fun hc => ?_) (fun hc => ?_)
      · have J := fun vv H locs q => J vv H locs ((if_pos hc).trans q)
        refine lv_iconst (v := 0) hx hb dX7_joined_209 (by decide) ?_
        exact J _ _ _ rfl hM hS
      · have J := fun vv H locs q => J vv H locs ((if_neg hc).trans q)
        refine lv_iconst (v := 1) hx hb dX7_joined_205 (by decide) ?_
        refine lv_goto hx hb dX7_joined_206 rfl ?_
        exact J _ _ _ rfl hM hS
  have h := sk_neg h hk_21
  by_cases hk_22 : a0 = 58
  · refine lv_tableIn (off := 196) hx hb dX7_joined_1 (by rw [hk_22]; decide) (by rw [hk_22]; decide) (by rw [hk_22]; rfl) rfl ?_
    have h := sk_pos h hk_22
    refine lv_iload_n hx hb dX7_joined_197 rfl (lv_at hl 1 rfl) ?_
    refine lv_if_ne hx hb dX7_joined_198 rfl (fun hc => ?_) (fun hc => ?_)
    · have h := sk_neg h hc
      refine lv_iconst (v := 1) hx hb dX7_joined_205 (by decide) ?_
      refine lv_goto hx hb dX7_joined_206 rfl ?_
      exact sk_iret C hM hS ⟨Option.some.inj h, rfl⟩ dX7_joined_210
    · have h := sk_pos h hc
      refine lv_iload_n hx hb dX7_joined_201 rfl (lv_at hl 2 rfl) ?_
      have J : ∀ (vv : Int32) (H : Heap) (locs : List Loc), (if a2 = 0 then 0 else 1 : Int32) = vv → sk_P g M H → va_S (sk_A g) s.heap H locs → W p l e (sk_rm 1) s m av below meth c H locs 0 0 (MQ below (sk_QI g rr M) av s 0 0 (sk_A g)) (F0 m 210 ls [.int vv]) := by
        intro vv H locs hvv hM hS
        subst hvv
        exact sk_iret C hM hS ⟨Option.some.inj h, rfl⟩ dX7_joined_210
      refine lv_if_eq hx hb dX7_joined_202 rfl (fun hc => ?_) (fun hc => ?_)
      · have J := fun vv H locs q => J vv H locs ((if_pos hc).trans q)
        refine lv_iconst (v := 0) hx hb dX7_joined_209 (by decide) ?_
        exact J _ _ _ rfl hM hS
      · have J := fun vv H locs q => J vv H locs ((if_neg hc).trans q)
        refine lv_iconst (v := 1) hx hb dX7_joined_205 (by decide) ?_
        refine lv_goto hx hb dX7_joined_206 rfl ?_
        exact J _ _ _ rfl hM hS
  have h := sk_neg h hk_22
  by_cases hk_23 : a0 = 59
  · refine lv_tableIn (off := 196) hx hb dX7_joined_1 (by rw [hk_23]; decide) (by rw [hk_23]; decide) (by rw [hk_23]; rfl) rfl ?_
    have h := sk_pos h hk_23
    refine lv_iload_n hx hb dX7_joined_197 rfl (lv_at hl 1 rfl) ?_
    refine lv_if_ne hx hb dX7_joined_198 rfl (fun hc => ?_) (fun hc => ?_)
    · have h := sk_neg h hc
      refine lv_iconst (v := 1) hx hb dX7_joined_205 (by decide) ?_
      refine lv_goto hx hb dX7_joined_206 rfl ?_
      exact sk_iret C hM hS ⟨Option.some.inj h, rfl⟩ dX7_joined_210
    · have h := sk_pos h hc
      refine lv_iload_n hx hb dX7_joined_201 rfl (lv_at hl 2 rfl) ?_
      have J : ∀ (vv : Int32) (H : Heap) (locs : List Loc), (if a2 = 0 then 0 else 1 : Int32) = vv → sk_P g M H → va_S (sk_A g) s.heap H locs → W p l e (sk_rm 1) s m av below meth c H locs 0 0 (MQ below (sk_QI g rr M) av s 0 0 (sk_A g)) (F0 m 210 ls [.int vv]) := by
        intro vv H locs hvv hM hS
        subst hvv
        exact sk_iret C hM hS ⟨Option.some.inj h, rfl⟩ dX7_joined_210
      refine lv_if_eq hx hb dX7_joined_202 rfl (fun hc => ?_) (fun hc => ?_)
      · have J := fun vv H locs q => J vv H locs ((if_pos hc).trans q)
        refine lv_iconst (v := 0) hx hb dX7_joined_209 (by decide) ?_
        exact J _ _ _ rfl hM hS
      · have J := fun vv H locs q => J vv H locs ((if_neg hc).trans q)
        refine lv_iconst (v := 1) hx hb dX7_joined_205 (by decide) ?_
        refine lv_goto hx hb dX7_joined_206 rfl ?_
        exact J _ _ _ rfl hM hS
  have h := sk_neg h hk_23
  by_cases hk_24 : a0 = 60
  · refine lv_tableIn (off := 149) hx hb dX7_joined_1 (by rw [hk_24]; decide) (by rw [hk_24]; decide) (by rw [hk_24]; rfl) rfl ?_
    have h := sk_pos h hk_24
    refine lv_iload_n hx hb dX7_joined_150 rfl (lv_at hl 1 rfl) ?_
    refine lv_iload_n hx hb dX7_joined_151 rfl (lv_at hl 2 rfl) ?_
    have J : ∀ (vv : Int32) (H : Heap) (locs : List Loc), (if a2 ≤ a1 then 0 else 1 : Int32) = vv → sk_P g M H → va_S (sk_A g) s.heap H locs → W p l e (sk_rm 1) s m av below meth c H locs 0 0 (MQ below (sk_QI g rr M) av s 0 0 (sk_A g)) (F0 m 160 ls [.int vv]) := by
      intro vv H locs hvv hM hS
      subst hvv
      exact sk_iret C hM hS ⟨Option.some.inj h, rfl⟩ dX7_joined_160
    refine lv_icmp_ge hx hb dX7_joined_152 rfl (fun hc => ?_) (fun hc => ?_)
    · have J := fun vv H locs q => J vv H locs ((if_pos hc).trans q)
      refine lv_iconst (v := 0) hx hb dX7_joined_159 (by decide) ?_
      exact J _ _ _ rfl hM hS
    · have J := fun vv H locs q => J vv H locs ((if_neg hc).trans q)
      refine lv_iconst (v := 1) hx hb dX7_joined_155 (by decide) ?_
      refine lv_goto hx hb dX7_joined_156 rfl ?_
      exact J _ _ _ rfl hM hS
  have h := sk_neg h hk_24
  by_cases hk_25 : a0 = 61
  · refine lv_tableIn (off := 171) hx hb dX7_joined_1 (by rw [hk_25]; decide) (by rw [hk_25]; decide) (by rw [hk_25]; rfl) rfl ?_
    have h := sk_pos h hk_25
    refine lv_iload_n hx hb dX7_joined_172 rfl (lv_at hl 1 rfl) ?_
    refine lv_iload_n hx hb dX7_joined_173 rfl (lv_at hl 2 rfl) ?_
    have J : ∀ (vv : Int32) (H : Heap) (locs : List Loc), (if a1 = a2 then 1 else 0 : Int32) = vv → sk_P g M H → va_S (sk_A g) s.heap H locs → W p l e (sk_rm 1) s m av below meth c H locs 0 0 (MQ below (sk_QI g rr M) av s 0 0 (sk_A g)) (F0 m 182 ls [.int vv]) := by
      intro vv H locs hvv hM hS
      subst hvv
      exact sk_iret C hM hS ⟨Option.some.inj h, rfl⟩ dX7_joined_182
    refine lv_icmp_ne hx hb dX7_joined_174 rfl (fun hc => ?_) (fun hc => ?_)
    · have J := fun vv H locs q => J vv H locs ((if_neg hc).trans q)
      refine lv_iconst (v := 0) hx hb dX7_joined_181 (by decide) ?_
      exact J _ _ _ rfl hM hS
    · have J := fun vv H locs q => J vv H locs ((if_pos hc).trans q)
      refine lv_iconst (v := 1) hx hb dX7_joined_177 (by decide) ?_
      refine lv_goto hx hb dX7_joined_178 rfl ?_
      exact J _ _ _ rfl hM hS
  have h := sk_neg h hk_25
  by_cases hk_26 : a0 = 62
  · refine lv_tableIn (off := 160) hx hb dX7_joined_1 (by rw [hk_26]; decide) (by rw [hk_26]; decide) (by rw [hk_26]; rfl) rfl ?_
    have h := sk_pos h hk_26
    refine lv_iload_n hx hb dX7_joined_161 rfl (lv_at hl 1 rfl) ?_
    refine lv_iload_n hx hb dX7_joined_162 rfl (lv_at hl 2 rfl) ?_
    have J : ∀ (vv : Int32) (H : Heap) (locs : List Loc), (if a1 ≤ a2 then 0 else 1 : Int32) = vv → sk_P g M H → va_S (sk_A g) s.heap H locs → W p l e (sk_rm 1) s m av below meth c H locs 0 0 (MQ below (sk_QI g rr M) av s 0 0 (sk_A g)) (F0 m 171 ls [.int vv]) := by
      intro vv H locs hvv hM hS
      subst hvv
      exact sk_iret C hM hS ⟨Option.some.inj h, rfl⟩ dX7_joined_171
    refine lv_icmp_le hx hb dX7_joined_163 rfl (fun hc => ?_) (fun hc => ?_)
    · have J := fun vv H locs q => J vv H locs ((if_pos hc).trans q)
      refine lv_iconst (v := 0) hx hb dX7_joined_170 (by decide) ?_
      exact J _ _ _ rfl hM hS
    · have J := fun vv H locs q => J vv H locs ((if_neg hc).trans q)
      refine lv_iconst (v := 1) hx hb dX7_joined_166 (by decide) ?_
      refine lv_goto hx hb dX7_joined_167 rfl ?_
      exact J _ _ _ rfl hM hS
  have h := sk_neg h hk_26
  refine lv_tableOut hx hb dX7_joined_1 (by have zhk_1 := sk_tn hk_1 (z := 38) rfl; have zhk_2 := sk_tn hk_2 (z := 39) rfl; have zhk_3 := sk_tn hk_3 (z := 40) rfl; have zhk_4 := sk_tn hk_4 (z := 41) rfl; have zhk_5 := sk_tn hk_5 (z := 42) rfl; have zhk_6 := sk_tn hk_6 (z := 43) rfl; have zhk_7 := sk_tn hk_7 (z := 44) rfl; have zhk_8 := sk_tn hk_8 (z := 45) rfl; have zhk_9 := sk_tn hk_9 (z := 46) rfl; have zhk_11 := sk_tn hk_11 (z := 47) rfl; have zhk_12 := sk_tn hk_12 (z := 48) rfl; have zhk_13 := sk_tn hk_13 (z := 49) rfl; have zhk_14 := sk_tn hk_14 (z := 50) rfl; have zhk_15 := sk_tn hk_15 (z := 51) rfl; have zhk_16 := sk_tn hk_16 (z := 52) rfl; have zhk_17 := sk_tn hk_17 (z := 53) rfl; have zhk_18 := sk_tn hk_18 (z := 54) rfl; have zhk_19 := sk_tn hk_19 (z := 55) rfl; have zhk_20 := sk_tn hk_20 (z := 56) rfl; have zhk_21 := sk_tn hk_21 (z := 57) rfl; have zhk_22 := sk_tn hk_22 (z := 58) rfl; have zhk_23 := sk_tn hk_23 (z := 59) rfl; have zhk_24 := sk_tn hk_24 (z := 60) rfl; have zhk_25 := sk_tn hk_25 (z := 61) rfl; have zhk_26 := sk_tn hk_26 (z := 62) rfl; omega) rfl ?_
  refine lv_iload_n hx hb dX7_joined_197 rfl (lv_at hl 1 rfl) ?_
  refine lv_if_ne hx hb dX7_joined_198 rfl (fun hc => ?_) (fun hc => ?_)
  · have h := sk_neg h hc
    refine lv_iconst (v := 1) hx hb dX7_joined_205 (by decide) ?_
    refine lv_goto hx hb dX7_joined_206 rfl ?_
    exact sk_iret C hM hS ⟨Option.some.inj h, rfl⟩ dX7_joined_210
  · have h := sk_pos h hc
    refine lv_iload_n hx hb dX7_joined_201 rfl (lv_at hl 2 rfl) ?_
    have J : ∀ (vv : Int32) (H : Heap) (locs : List Loc), (if a2 = 0 then 0 else 1 : Int32) = vv → sk_P g M H → va_S (sk_A g) s.heap H locs → W p l e (sk_rm 1) s m av below meth c H locs 0 0 (MQ below (sk_QI g rr M) av s 0 0 (sk_A g)) (F0 m 210 ls [.int vv]) := by
      intro vv H locs hvv hM hS
      subst hvv
      exact sk_iret C hM hS ⟨Option.some.inj h, rfl⟩ dX7_joined_210
    refine lv_if_eq hx hb dX7_joined_202 rfl (fun hc => ?_) (fun hc => ?_)
    · have J := fun vv H locs q => J vv H locs ((if_pos hc).trans q)
      refine lv_iconst (v := 0) hx hb dX7_joined_209 (by decide) ?_
      exact J _ _ _ rfl hM hS
    · have J := fun vv H locs q => J vv H locs ((if_neg hc).trans q)
      refine lv_iconst (v := 1) hx hb dX7_joined_205 (by decide) ?_
      refine lv_goto hx hb dX7_joined_206 rfl ?_
      exact J _ _ _ rfl hM hS
theorem dX7_worked_0 : decode cX7_worked 0 = .ok (.iconst 0, 1) := by decide +kernel
theorem dX7_worked_1 : decode cX7_worked 1 = .ok (.istore_n 2, 1) := by decide +kernel
theorem dX7_worked_2 : decode cX7_worked 2 = .ok (.iconst 0, 1) := by decide +kernel
theorem dX7_worked_3 : decode cX7_worked 3 = .ok (.istore_n 3, 1) := by decide +kernel
theorem dX7_worked_4 : decode cX7_worked 4 = .ok (.iload_n 3, 1) := by decide +kernel
theorem dX7_worked_5 : decode cX7_worked 5 = .ok (.aload_n 0, 1) := by decide +kernel
theorem dX7_worked_6 : decode cX7_worked 6 = .ok (.getfield 7, 3) := by decide +kernel
theorem dX7_worked_9 : decode cX7_worked 9 = .ok (.aload_n 0, 1) := by decide +kernel
theorem dX7_worked_10 : decode cX7_worked 10 = .ok (.iload_n 1, 1) := by decide +kernel
theorem dX7_worked_11 : decode cX7_worked 11 = .ok (.invokevirtual 278, 3) := by decide +kernel
theorem dX7_worked_14 : decode cX7_worked 14 = .ok (.iconst 2, 1) := by decide +kernel
theorem dX7_worked_15 : decode cX7_worked 15 = .ok (.iadd, 1) := by decide +kernel
theorem dX7_worked_16 : decode cX7_worked 16 = .ok (.iaload, 1) := by decide +kernel
theorem dX7_worked_17 : decode cX7_worked 17 = .ok (.if_icmp .ge 146, 3) := by decide +kernel
theorem dX7_worked_20 : decode cX7_worked 20 = .ok (.aload_n 0, 1) := by decide +kernel
theorem dX7_worked_21 : decode cX7_worked 21 = .ok (.getfield 7, 3) := by decide +kernel
theorem dX7_worked_24 : decode cX7_worked 24 = .ok (.aload_n 0, 1) := by decide +kernel
theorem dX7_worked_25 : decode cX7_worked 25 = .ok (.iload_n 1, 1) := by decide +kernel
theorem dX7_worked_26 : decode cX7_worked 26 = .ok (.invokevirtual 278, 3) := by decide +kernel
theorem dX7_worked_29 : decode cX7_worked 29 = .ok (.iconst 4, 1) := by decide +kernel
theorem dX7_worked_30 : decode cX7_worked 30 = .ok (.iadd, 1) := by decide +kernel
theorem dX7_worked_31 : decode cX7_worked 31 = .ok (.iconst 2, 1) := by decide +kernel
theorem dX7_worked_32 : decode cX7_worked 32 = .ok (.iload_n 3, 1) := by decide +kernel
theorem dX7_worked_33 : decode cX7_worked 33 = .ok (.imul, 1) := by decide +kernel
theorem dX7_worked_34 : decode cX7_worked 34 = .ok (.iadd, 1) := by decide +kernel
theorem dX7_worked_35 : decode cX7_worked 35 = .ok (.iaload, 1) := by decide +kernel
theorem dX7_worked_36 : decode cX7_worked 36 = .ok (.istore 4, 2) := by decide +kernel
theorem dX7_worked_38 : decode cX7_worked 38 = .ok (.aload_n 0, 1) := by decide +kernel
theorem dX7_worked_39 : decode cX7_worked 39 = .ok (.getfield 7, 3) := by decide +kernel
theorem dX7_worked_42 : decode cX7_worked 42 = .ok (.aload_n 0, 1) := by decide +kernel
theorem dX7_worked_43 : decode cX7_worked 43 = .ok (.iload_n 1, 1) := by decide +kernel
theorem dX7_worked_44 : decode cX7_worked 44 = .ok (.invokevirtual 278, 3) := by decide +kernel
theorem dX7_worked_47 : decode cX7_worked 47 = .ok (.iconst 4, 1) := by decide +kernel
theorem dX7_worked_48 : decode cX7_worked 48 = .ok (.iadd, 1) := by decide +kernel
theorem dX7_worked_49 : decode cX7_worked 49 = .ok (.iconst 2, 1) := by decide +kernel
theorem dX7_worked_50 : decode cX7_worked 50 = .ok (.iload_n 3, 1) := by decide +kernel
theorem dX7_worked_51 : decode cX7_worked 51 = .ok (.imul, 1) := by decide +kernel
theorem dX7_worked_52 : decode cX7_worked 52 = .ok (.iadd, 1) := by decide +kernel
theorem dX7_worked_53 : decode cX7_worked 53 = .ok (.iconst 1, 1) := by decide +kernel
theorem dX7_worked_54 : decode cX7_worked 54 = .ok (.iadd, 1) := by decide +kernel
theorem dX7_worked_55 : decode cX7_worked 55 = .ok (.iaload, 1) := by decide +kernel
theorem dX7_worked_56 : decode cX7_worked 56 = .ok (.istore 5, 2) := by decide +kernel
theorem dX7_worked_58 : decode cX7_worked 58 = .ok (.iload 4, 2) := by decide +kernel
theorem dX7_worked_60 : decode cX7_worked 60 = .ok (.iconst 2, 1) := by decide +kernel
theorem dX7_worked_61 : decode cX7_worked 61 = .ok (.if_icmp .eq 32, 3) := by decide +kernel
theorem dX7_worked_64 : decode cX7_worked 64 = .ok (.aload_n 0, 1) := by decide +kernel
theorem dX7_worked_65 : decode cX7_worked 65 = .ok (.getfield 55, 3) := by decide +kernel
theorem dX7_worked_68 : decode cX7_worked 68 = .ok (.iload_n 2, 1) := by decide +kernel
theorem dX7_worked_69 : decode cX7_worked 69 = .ok (.iload 4, 2) := by decide +kernel
theorem dX7_worked_71 : decode cX7_worked 71 = .ok (.ifCond .ne 8, 3) := by decide +kernel
theorem dX7_worked_74 : decode cX7_worked 74 = .ok (.iload 5, 2) := by decide +kernel
theorem dX7_worked_76 : decode cX7_worked 76 = .ok (.goto 10, 3) := by decide +kernel
theorem dX7_worked_79 : decode cX7_worked 79 = .ok (.aload_n 0, 1) := by decide +kernel
theorem dX7_worked_80 : decode cX7_worked 80 = .ok (.getfield 52, 3) := by decide +kernel
theorem dX7_worked_83 : decode cX7_worked 83 = .ok (.iload 5, 2) := by decide +kernel
theorem dX7_worked_85 : decode cX7_worked 85 = .ok (.iaload, 1) := by decide +kernel
theorem dX7_worked_86 : decode cX7_worked 86 = .ok (.iastore, 1) := by decide +kernel
theorem dX7_worked_87 : decode cX7_worked 87 = .ok (.iinc 2 1, 3) := by decide +kernel
theorem dX7_worked_90 : decode cX7_worked 90 = .ok (.goto 67, 3) := by decide +kernel
theorem dX7_worked_93 : decode cX7_worked 93 = .ok (.iload 5, 2) := by decide +kernel
theorem dX7_worked_95 : decode cX7_worked 95 = .ok (.bipush 33, 2) := by decide +kernel
theorem dX7_worked_97 : decode cX7_worked 97 = .ok (.if_icmp .ne 30, 3) := by decide +kernel
theorem dX7_worked_100 : decode cX7_worked 100 = .ok (.aload_n 0, 1) := by decide +kernel
theorem dX7_worked_101 : decode cX7_worked 101 = .ok (.getfield 55, 3) := by decide +kernel
theorem dX7_worked_104 : decode cX7_worked 104 = .ok (.iload_n 2, 1) := by decide +kernel
theorem dX7_worked_105 : decode cX7_worked 105 = .ok (.iconst 1, 1) := by decide +kernel
theorem dX7_worked_106 : decode cX7_worked 106 = .ok (.isub, 1) := by decide +kernel
theorem dX7_worked_107 : decode cX7_worked 107 = .ok (.aload_n 0, 1) := by decide +kernel
theorem dX7_worked_108 : decode cX7_worked 108 = .ok (.getfield 55, 3) := by decide +kernel
theorem dX7_worked_111 : decode cX7_worked 111 = .ok (.iload_n 2, 1) := by decide +kernel
theorem dX7_worked_112 : decode cX7_worked 112 = .ok (.iconst 1, 1) := by decide +kernel
theorem dX7_worked_113 : decode cX7_worked 113 = .ok (.isub, 1) := by decide +kernel
theorem dX7_worked_114 : decode cX7_worked 114 = .ok (.iaload, 1) := by decide +kernel
theorem dX7_worked_115 : decode cX7_worked 115 = .ok (.ifCond .ne 7, 3) := by decide +kernel
theorem dX7_worked_118 : decode cX7_worked 118 = .ok (.iconst 1, 1) := by decide +kernel
theorem dX7_worked_119 : decode cX7_worked 119 = .ok (.goto 4, 3) := by decide +kernel
theorem dX7_worked_122 : decode cX7_worked 122 = .ok (.iconst 0, 1) := by decide +kernel
theorem dX7_worked_123 : decode cX7_worked 123 = .ok (.iastore, 1) := by decide +kernel
theorem dX7_worked_124 : decode cX7_worked 124 = .ok (.goto 33, 3) := by decide +kernel
theorem dX7_worked_127 : decode cX7_worked 127 = .ok (.iinc 2 (-1), 3) := by decide +kernel
theorem dX7_worked_130 : decode cX7_worked 130 = .ok (.aload_n 0, 1) := by decide +kernel
theorem dX7_worked_131 : decode cX7_worked 131 = .ok (.getfield 55, 3) := by decide +kernel
theorem dX7_worked_134 : decode cX7_worked 134 = .ok (.iload_n 2, 1) := by decide +kernel
theorem dX7_worked_135 : decode cX7_worked 135 = .ok (.iconst 1, 1) := by decide +kernel
theorem dX7_worked_136 : decode cX7_worked 136 = .ok (.isub, 1) := by decide +kernel
theorem dX7_worked_137 : decode cX7_worked 137 = .ok (.iload 5, 2) := by decide +kernel
theorem dX7_worked_139 : decode cX7_worked 139 = .ok (.aload_n 0, 1) := by decide +kernel
theorem dX7_worked_140 : decode cX7_worked 140 = .ok (.getfield 55, 3) := by decide +kernel
theorem dX7_worked_143 : decode cX7_worked 143 = .ok (.iload_n 2, 1) := by decide +kernel
theorem dX7_worked_144 : decode cX7_worked 144 = .ok (.iconst 1, 1) := by decide +kernel
theorem dX7_worked_145 : decode cX7_worked 145 = .ok (.isub, 1) := by decide +kernel
theorem dX7_worked_146 : decode cX7_worked 146 = .ok (.iaload, 1) := by decide +kernel
theorem dX7_worked_147 : decode cX7_worked 147 = .ok (.aload_n 0, 1) := by decide +kernel
theorem dX7_worked_148 : decode cX7_worked 148 = .ok (.getfield 55, 3) := by decide +kernel
theorem dX7_worked_151 : decode cX7_worked 151 = .ok (.iload_n 2, 1) := by decide +kernel
theorem dX7_worked_152 : decode cX7_worked 152 = .ok (.iaload, 1) := by decide +kernel
theorem dX7_worked_153 : decode cX7_worked 153 = .ok (.invokestatic 292, 3) := by decide +kernel
theorem dX7_worked_156 : decode cX7_worked 156 = .ok (.iastore, 1) := by decide +kernel
theorem dX7_worked_157 : decode cX7_worked 157 = .ok (.iinc 3 1, 3) := by decide +kernel
theorem dX7_worked_160 : decode cX7_worked 160 = .ok (.goto (-156), 3) := by decide +kernel
theorem dX7_worked_163 : decode cX7_worked 163 = .ok (.aload_n 0, 1) := by decide +kernel
theorem dX7_worked_164 : decode cX7_worked 164 = .ok (.getfield 55, 3) := by decide +kernel
theorem dX7_worked_167 : decode cX7_worked 167 = .ok (.iconst 0, 1) := by decide +kernel
theorem dX7_worked_168 : decode cX7_worked 168 = .ok (.iaload, 1) := by decide +kernel
theorem dX7_worked_169 : decode cX7_worked 169 = .ok (.ireturn, 1) := by decide +kernel
set_option maxHeartbeats 4000000 in
set_option maxRecDepth 100000 in
theorem w_X7_worked_L4 {g : sk_G} {l : Launch} {p : Program} {e : Env} {s : State} {m : MethodId} {av : Array Value} {below : List Frame} {meth : Method} {c : Code} (C : sk_C g p s m av meth c cX7_worked 6 RX7 (some .int)) (a1 : Int32) {rr : Int32} {MM : sk_M} :
    ∀ (n : Nat) (a2 : Int32) (a3 : Int32) (M : sk_M) (H : Heap) (locs : List Loc) (ls : Array Slot), lv_has ls 6 [(0, .ref (sk_ad g 88)), (1, .int a1), (2, .int a2), (3, .int a3)] → sk_P g M H → va_S (sk_A g) s.heap H locs → ∀ {out : sk_M}, f_X7_worked_L4 a1 n a2 a3 M = some out → (∀ (M1 : sk_M) (H : Heap) (locs : List Loc) (ls : Array Slot), some M1 = some out → lv_has ls 6 [(0, .ref (sk_ad g 88))] → sk_P g M1 H → va_S (sk_A g) s.heap H locs → W p l e (sk_rm 2) s m av below meth c H locs 0 0 (MQ below (sk_QI g rr MM) av s 0 0 (sk_A g)) (F0 m 163 ls [])) → W p l e (sk_rm 2) s m av below meth c H locs 0 0 (MQ below (sk_QI g rr MM) av s 0 0 (sk_A g)) (F0 m 4 ls []) := by
  obtain ⟨hx, hb, hml, hown, hts, hK, hE, hr, hlocks⟩ := id C
  intro n
  induction n with
  | zero =>
    intro a2 a3 M H locs ls hl hM hS out h
    cases h
  | succ n ih =>
    intro a2 a3 M H locs ls hl hM hS out h kx
    rw [f_X7_worked_L4] at h
    refine lv_iload_n hx hb dX7_worked_4 rfl (lv_at hl 3 rfl) ?_
    refine lv_aload_n hx hb dX7_worked_5 rfl (lv_at hl 0 rfl) ?_
    refine sk_getR (o := 88) (ci := 7) (j := 0) (t := 89) C hM rfl rfl (by decide) rfl rfl kw_935 dX7_worked_6 ?_
    refine lv_aload_n hx hb dX7_worked_9 rfl (lv_at hl 0 rfl) ?_
    refine lv_iload_n hx hb dX7_worked_10 rfl (lv_at hl 1 rfl) ?_
    refine sk_contI (sk_runV (As := [.int a1]) (rest := [.ref (sk_ad g 89), .int a3]) C (c_X7_textAt g l a1 M rfl) yo_X7_textAt kw_1157 (sk_recv (ci := 7) C hM rfl rfl) (by decide) hM hS hl.1 rfl rfl (Nat.le_of_ble_eq_true rfl) dX7_worked_11) hS (fun H locs hM hS => ?_)
    refine lv_iconst (v := 2) hx hb dX7_worked_14 (by decide) ?_
    refine lv_iadd hx hb dX7_worked_15 ?_
    obtain ⟨i_2, h⟩ := sk_chkE h
    refine sk_iald (o := 89) C hM rfl i_2 dX7_worked_16 ?_
    refine lv_icmp_ge hx hb dX7_worked_17 rfl (fun hc => ?_) (fun hc => ?_)
    · have h := sk_pos h hc
      exact kx _ _ _ _ h (lv_sub hl [0] rfl) hM hS
    · have h := sk_neg h hc
      refine lv_aload_n hx hb dX7_worked_20 rfl (lv_at hl 0 rfl) ?_
      refine sk_getR (o := 88) (ci := 7) (j := 0) (t := 89) C hM rfl rfl (by decide) rfl rfl kw_935 dX7_worked_21 ?_
      refine lv_aload_n hx hb dX7_worked_24 rfl (lv_at hl 0 rfl) ?_
      refine lv_iload_n hx hb dX7_worked_25 rfl (lv_at hl 1 rfl) ?_
      refine sk_contI (sk_runV (As := [.int a1]) (rest := [.ref (sk_ad g 89)]) C (c_X7_textAt g l a1 M rfl) yo_X7_textAt kw_1157 (sk_recv (ci := 7) C hM rfl rfl) (by decide) hM hS hl.1 rfl rfl (Nat.le_of_ble_eq_true rfl) dX7_worked_26) hS (fun H locs hM hS => ?_)
      refine lv_iconst (v := 4) hx hb dX7_worked_29 (by decide) ?_
      refine lv_iadd hx hb dX7_worked_30 ?_
      refine lv_iconst (v := 2) hx hb dX7_worked_31 (by decide) ?_
      refine lv_iload_n hx hb dX7_worked_32 rfl (lv_at hl 3 rfl) ?_
      refine lv_imul hx hb dX7_worked_33 ?_
      refine lv_iadd hx hb dX7_worked_34 ?_
      obtain ⟨i_4, h⟩ := sk_chkE h
      refine sk_iald (o := 89) C hM rfl i_4 dX7_worked_35 ?_
      refine lv_topi (fun x_5 ex_5 => ?_)
      have h := sk_letU h ex_5
      refine lv_istore (lv' := [(4, .int x_5), (0, .ref (sk_ad g 88)), (1, .int a1), (2, .int a2), (3, .int a3)]) hx hb dX7_worked_36 hl (by decide) rfl (fun ls hl => ?_)
      refine lv_aload_n hx hb dX7_worked_38 rfl (lv_at hl 1 rfl) ?_
      refine sk_getR (o := 88) (ci := 7) (j := 0) (t := 89) C hM rfl rfl (by decide) rfl rfl kw_935 dX7_worked_39 ?_
      refine lv_aload_n hx hb dX7_worked_42 rfl (lv_at hl 1 rfl) ?_
      refine lv_iload_n hx hb dX7_worked_43 rfl (lv_at hl 2 rfl) ?_
      refine sk_contI (sk_runV (As := [.int a1]) (rest := [.ref (sk_ad g 89)]) C (c_X7_textAt g l a1 M rfl) yo_X7_textAt kw_1157 (sk_recv (ci := 7) C hM rfl rfl) (by decide) hM hS hl.1 rfl rfl (Nat.le_of_ble_eq_true rfl) dX7_worked_44) hS (fun H locs hM hS => ?_)
      refine lv_iconst (v := 4) hx hb dX7_worked_47 (by decide) ?_
      refine lv_iadd hx hb dX7_worked_48 ?_
      refine lv_iconst (v := 2) hx hb dX7_worked_49 (by decide) ?_
      refine lv_iload_n hx hb dX7_worked_50 rfl (lv_at hl 4 rfl) ?_
      refine lv_imul hx hb dX7_worked_51 ?_
      refine lv_iadd hx hb dX7_worked_52 ?_
      refine lv_iconst (v := 1) hx hb dX7_worked_53 (by decide) ?_
      refine lv_iadd hx hb dX7_worked_54 ?_
      obtain ⟨i_7, h⟩ := sk_chkE h
      refine sk_iald (o := 89) C hM rfl i_7 dX7_worked_55 ?_
      refine lv_topi (fun x_8 ex_8 => ?_)
      have h := sk_letU h ex_8
      refine lv_istore (lv' := [(5, .int x_8), (4, .int x_5), (0, .ref (sk_ad g 88)), (1, .int a1), (2, .int a2), (3, .int a3)]) hx hb dX7_worked_56 hl (by decide) rfl (fun ls hl => ?_)
      refine lv_iload hx hb dX7_worked_58 (lv_at hl 1 rfl) ?_
      refine lv_iconst (v := 2) hx hb dX7_worked_60 (by decide) ?_
      refine lv_icmp_eq hx hb dX7_worked_61 rfl (fun hc => ?_) (fun hc => ?_)
      · have h := sk_pos h hc
        refine lv_iload hx hb dX7_worked_93 (lv_at hl 0 rfl) ?_
        refine lv_bipush (v := 33) hx hb dX7_worked_95 (by decide) ?_
        refine lv_icmp_ne hx hb dX7_worked_97 rfl (fun hc => ?_) (fun hc => ?_)
        · have h := sk_neg h hc
          refine lv_iinc (v := (a2 + (-1))) (lv' := [(2, .int (a2 + (-1))), (5, .int x_8), (4, .int x_5), (0, .ref (sk_ad g 88)), (1, .int a1), (3, .int a3)]) hx hb dX7_worked_127 hl (k := 4) rfl rfl (by decide) rfl (fun ls hl => ?_)
          refine lv_aload_n hx hb dX7_worked_130 rfl (lv_at hl 3 rfl) ?_
          refine sk_getR (o := 88) (ci := 7) (j := 27) (t := 104) C hM rfl rfl (by decide) rfl rfl kw_962 dX7_worked_131 ?_
          refine lv_iload_n hx hb dX7_worked_134 rfl (lv_at hl 0 rfl) ?_
          refine lv_iconst (v := 1) hx hb dX7_worked_135 (by decide) ?_
          refine lv_isub hx hb dX7_worked_136 ?_
          refine lv_iload hx hb dX7_worked_137 (lv_at hl 1 rfl) ?_
          refine lv_aload_n hx hb dX7_worked_139 rfl (lv_at hl 3 rfl) ?_
          refine sk_getR (o := 88) (ci := 7) (j := 27) (t := 104) C hM rfl rfl (by decide) rfl rfl kw_962 dX7_worked_140 ?_
          refine lv_iload_n hx hb dX7_worked_143 rfl (lv_at hl 0 rfl) ?_
          refine lv_iconst (v := 1) hx hb dX7_worked_144 (by decide) ?_
          refine lv_isub hx hb dX7_worked_145 ?_
          obtain ⟨i_9, h⟩ := sk_chkE h
          refine sk_iald (o := 104) C hM rfl i_9 dX7_worked_146 ?_
          refine lv_aload_n hx hb dX7_worked_147 rfl (lv_at hl 3 rfl) ?_
          refine sk_getR (o := 88) (ci := 7) (j := 27) (t := 104) C hM rfl rfl (by decide) rfl rfl kw_962 dX7_worked_148 ?_
          refine lv_iload_n hx hb dX7_worked_151 rfl (lv_at hl 0 rfl) ?_
          obtain ⟨i_10, h⟩ := sk_chkE h
          refine sk_iald (o := 104) C hM rfl i_10 dX7_worked_152 ?_
          obtain ⟨x_11, h_12, h⟩ := sk_b1E h
          refine sk_contI (sk_runS (As := [.int x_8, .int (M 104 ((a2 + (-1)) - 1).toNatClampNeg), .int (M 104 (a2 + (-1)).toNatClampNeg)]) (rest := [.int ((a2 + (-1)) - 1), .ref (sk_ad g 104)]) C (c_X7_joined g l x_8 (M 104 ((a2 + (-1)) - 1).toNatClampNeg) (M 104 (a2 + (-1)).toNatClampNeg) M h_12) yo_X7_joined kw_1165 (by decide) hM hS hl.1 rfl rfl (Nat.le_of_ble_eq_true rfl) dX7_worked_153) hS (fun H locs hM hS => ?_)
          obtain ⟨i_13, h⟩ := sk_chkE h
          refine sk_iast (o := 104) C hM hS rfl i_13 dX7_worked_156 (fun M_14 eM_14 H locs hM hS => ?_)
          have h := sk_letU h eM_14
          refine lv_iinc (v := (a3 + 1)) (lv' := [(3, .int (a3 + 1)), (2, .int (a2 + (-1))), (5, .int x_8), (4, .int x_5), (0, .ref (sk_ad g 88)), (1, .int a1)]) hx hb dX7_worked_157 hl (k := 5) rfl rfl (by decide) rfl (fun ls hl => ?_)
          refine lv_goto hx hb dX7_worked_160 rfl ?_
          exact ih (a2 + (-1)) (a3 + 1) M_14 _ _ _ (lv_sub hl [4, 5, 1, 0] rfl) hM hS h kx
        · have h := sk_pos h hc
          refine lv_aload_n hx hb dX7_worked_100 rfl (lv_at hl 2 rfl) ?_
          refine sk_getR (o := 88) (ci := 7) (j := 27) (t := 104) C hM rfl rfl (by decide) rfl rfl kw_962 dX7_worked_101 ?_
          refine lv_iload_n hx hb dX7_worked_104 rfl (lv_at hl 4 rfl) ?_
          refine lv_iconst (v := 1) hx hb dX7_worked_105 (by decide) ?_
          refine lv_isub hx hb dX7_worked_106 ?_
          refine lv_aload_n hx hb dX7_worked_107 rfl (lv_at hl 2 rfl) ?_
          refine sk_getR (o := 88) (ci := 7) (j := 27) (t := 104) C hM rfl rfl (by decide) rfl rfl kw_962 dX7_worked_108 ?_
          refine lv_iload_n hx hb dX7_worked_111 rfl (lv_at hl 4 rfl) ?_
          refine lv_iconst (v := 1) hx hb dX7_worked_112 (by decide) ?_
          refine lv_isub hx hb dX7_worked_113 ?_
          obtain ⟨i_15, h⟩ := sk_chkE h
          refine sk_iald (o := 104) C hM rfl i_15 dX7_worked_114 ?_
          have J : ∀ (vv : Int32) (H : Heap) (locs : List Loc), (if (M 104 (a2 - 1).toNatClampNeg) = 0 then 1 else 0 : Int32) = vv → sk_P g M H → va_S (sk_A g) s.heap H locs → W p l e (sk_rm 2) s m av below meth c H locs 0 0 (MQ below (sk_QI g rr MM) av s 0 0 (sk_A g)) (F0 m 123 ls [.int vv, .int (a2 - 1), .ref (sk_ad g 104)]) := by
            intro vv H locs hvv hM hS
            subst hvv
            obtain ⟨i_16, h⟩ := sk_chkE h
            refine sk_iast (o := 104) C hM hS rfl i_16 dX7_worked_123 (fun M_17 eM_17 H locs hM hS => ?_)
            have h := sk_letU h eM_17
            refine lv_goto hx hb dX7_worked_124 rfl ?_
            refine lv_iinc (v := (a3 + 1)) (lv' := [(3, .int (a3 + 1)), (5, .int x_8), (4, .int x_5), (0, .ref (sk_ad g 88)), (1, .int a1), (2, .int a2)]) hx hb dX7_worked_157 hl (k := 5) rfl rfl (by decide) rfl (fun ls hl => ?_)
            refine lv_goto hx hb dX7_worked_160 rfl ?_
            exact ih a2 (a3 + 1) M_17 _ _ _ (lv_sub hl [3, 4, 5, 0] rfl) hM hS h kx
          refine lv_if_ne hx hb dX7_worked_115 rfl (fun hc => ?_) (fun hc => ?_)
          · have J := fun vv H locs q => J vv H locs ((if_neg hc).trans q)
            refine lv_iconst (v := 0) hx hb dX7_worked_122 (by decide) ?_
            exact J _ _ _ rfl hM hS
          · have J := fun vv H locs q => J vv H locs ((if_pos hc).trans q)
            refine lv_iconst (v := 1) hx hb dX7_worked_118 (by decide) ?_
            refine lv_goto hx hb dX7_worked_119 rfl ?_
            exact J _ _ _ rfl hM hS
      · have h := sk_neg h hc
        refine lv_aload_n hx hb dX7_worked_64 rfl (lv_at hl 2 rfl) ?_
        refine sk_getR (o := 88) (ci := 7) (j := 27) (t := 104) C hM rfl rfl (by decide) rfl rfl kw_962 dX7_worked_65 ?_
        refine lv_iload_n hx hb dX7_worked_68 rfl (lv_at hl 4 rfl) ?_
        refine lv_iload hx hb dX7_worked_69 (lv_at hl 1 rfl) ?_
        refine lv_if_ne hx hb dX7_worked_71 rfl (fun hc => ?_) (fun hc => ?_)
        · have h := sk_neg h hc
          refine lv_aload_n hx hb dX7_worked_79 rfl (lv_at hl 2 rfl) ?_
          refine sk_getR (o := 88) (ci := 7) (j := 26) (t := 103) C hM rfl rfl (by decide) rfl rfl kw_961 dX7_worked_80 ?_
          refine lv_iload hx hb dX7_worked_83 (lv_at hl 0 rfl) ?_
          obtain ⟨i_18, h⟩ := sk_chkE h
          refine sk_iald (o := 103) C hM rfl i_18 dX7_worked_85 ?_
          obtain ⟨i_19, h⟩ := sk_chkE h
          refine sk_iast (o := 104) C hM hS rfl i_19 dX7_worked_86 (fun M_20 eM_20 H locs hM hS => ?_)
          have h := sk_letU h eM_20
          refine lv_iinc (v := (a2 + 1)) (lv' := [(2, .int (a2 + 1)), (5, .int x_8), (4, .int x_5), (0, .ref (sk_ad g 88)), (1, .int a1), (3, .int a3)]) hx hb dX7_worked_87 hl (k := 4) rfl rfl (by decide) rfl (fun ls hl => ?_)
          refine lv_goto hx hb dX7_worked_90 rfl ?_
          refine lv_iinc (v := (a3 + 1)) (lv' := [(3, .int (a3 + 1)), (2, .int (a2 + 1)), (5, .int x_8), (4, .int x_5), (0, .ref (sk_ad g 88)), (1, .int a1)]) hx hb dX7_worked_157 hl (k := 5) rfl rfl (by decide) rfl (fun ls hl => ?_)
          refine lv_goto hx hb dX7_worked_160 rfl ?_
          exact ih (a2 + 1) (a3 + 1) M_20 _ _ _ (lv_sub hl [4, 5, 1, 0] rfl) hM hS h kx
        · have h := sk_pos h hc
          refine lv_iload hx hb dX7_worked_74 (lv_at hl 0 rfl) ?_
          refine lv_goto hx hb dX7_worked_76 rfl ?_
          obtain ⟨i_21, h⟩ := sk_chkE h
          refine sk_iast (o := 104) C hM hS rfl i_21 dX7_worked_86 (fun M_22 eM_22 H locs hM hS => ?_)
          have h := sk_letU h eM_22
          refine lv_iinc (v := (a2 + 1)) (lv' := [(2, .int (a2 + 1)), (5, .int x_8), (4, .int x_5), (0, .ref (sk_ad g 88)), (1, .int a1), (3, .int a3)]) hx hb dX7_worked_87 hl (k := 4) rfl rfl (by decide) rfl (fun ls hl => ?_)
          refine lv_goto hx hb dX7_worked_90 rfl ?_
          refine lv_iinc (v := (a3 + 1)) (lv' := [(3, .int (a3 + 1)), (2, .int (a2 + 1)), (5, .int x_8), (4, .int x_5), (0, .ref (sk_ad g 88)), (1, .int a1)]) hx hb dX7_worked_157 hl (k := 5) rfl rfl (by decide) rfl (fun ls hl => ?_)
          refine lv_goto hx hb dX7_worked_160 rfl ?_
          exact ih (a2 + 1) (a3 + 1) M_22 _ _ _ (lv_sub hl [4, 5, 1, 0] rfl) hM hS h kx
set_option maxHeartbeats 4000000 in
set_option maxRecDepth 100000 in
theorem c_X7_worked (g : sk_G) (l : Launch) (a1 : Int32) (M : sk_M) {rr : Int32} {MM : sk_M} (h : f_X7_worked a1 M = some (rr, MM)) : sk_MI g l yX7_worked cX7_worked 6 (some .int) 2 [.ref (sk_ad g 88), .int a1] M rr MM := by
  refine sk_go [(0, .ref (sk_ad g 88)), (1, .int a1)] (by decide) (Nat.le_of_ble_eq_true rfl) rfl ?_
  intro p e s m av below meth c C ls hl hM hS
  obtain ⟨hx, hb, hml, hown, hts, hK, hE, hr, hlocks⟩ := id C
  rw [f_X7_worked] at h
  refine lv_iconst (v := 0) hx hb dX7_worked_0 (by decide) ?_
  refine lv_istore_n (lv' := [(2, .int 0), (0, .ref (sk_ad g 88)), (1, .int a1)]) hx hb dX7_worked_1 rfl hl (by decide) rfl (fun ls hl => ?_)
  refine lv_iconst (v := 0) hx hb dX7_worked_2 (by decide) ?_
  refine lv_istore_n (lv' := [(3, .int 0), (2, .int 0), (0, .ref (sk_ad g 88)), (1, .int a1)]) hx hb dX7_worked_3 rfl hl (by decide) rfl (fun ls hl => ?_)
  obtain ⟨M_23, h_24, h⟩ := sk_b1E h
  refine w_X7_worked_L4 C a1 sk_FU 0 0 M _ _ _ (lv_sub hl [2, 3, 1, 0] rfl) hM hS h_24 (fun y_25 H locs ls he hl hM hS => ?_)
  obtain rfl := Option.some.inj he
  refine lv_aload_n hx hb dX7_worked_163 rfl (lv_at hl 0 rfl) ?_
  refine sk_getR (o := 88) (ci := 7) (j := 27) (t := 104) C hM rfl rfl (by decide) rfl rfl kw_962 dX7_worked_164 ?_
  refine lv_iconst (v := 0) hx hb dX7_worked_167 (by decide) ?_
  refine sk_iald (o := 104) C hM rfl (by decide) dX7_worked_168 ?_
  refine W.eq (g2 := F0 m 169 ls [.int (y_25 104 0)]) rfl ?_
  exact sk_iret C hM hS (sk_e2 h) dX7_worked_169
theorem dX7_losesBy_0 : decode cX7_losesBy 0 = .ok (.iload_n 2, 1) := by decide +kernel
theorem dX7_losesBy_1 : decode cX7_losesBy 1 = .ok (.aload_n 0, 1) := by decide +kernel
theorem dX7_losesBy_2 : decode cX7_losesBy 2 = .ok (.iload_n 1, 1) := by decide +kernel
theorem dX7_losesBy_3 : decode cX7_losesBy 3 = .ok (.iconst 1, 1) := by decide +kernel
theorem dX7_losesBy_4 : decode cX7_losesBy 4 = .ok (.invokevirtual 86, 3) := by decide +kernel
theorem dX7_losesBy_7 : decode cX7_losesBy 7 = .ok (.iload_n 3, 1) := by decide +kernel
theorem dX7_losesBy_8 : decode cX7_losesBy 8 = .ok (.iadd, 1) := by decide +kernel
theorem dX7_losesBy_9 : decode cX7_losesBy 9 = .ok (.imul, 1) := by decide +kernel
theorem dX7_losesBy_10 : decode cX7_losesBy 10 = .ok (.bipush 100, 2) := by decide +kernel
theorem dX7_losesBy_12 : decode cX7_losesBy 12 = .ok (.idiv, 1) := by decide +kernel
theorem dX7_losesBy_13 : decode cX7_losesBy 13 = .ok (.iconst 1, 1) := by decide +kernel
theorem dX7_losesBy_14 : decode cX7_losesBy 14 = .ok (.iadd, 1) := by decide +kernel
theorem dX7_losesBy_15 : decode cX7_losesBy 15 = .ok (.istore 5, 2) := by decide +kernel
theorem dX7_losesBy_17 : decode cX7_losesBy 17 = .ok (.aload_n 0, 1) := by decide +kernel
theorem dX7_losesBy_18 : decode cX7_losesBy 18 = .ok (.iconst 0, 1) := by decide +kernel
theorem dX7_losesBy_19 : decode cX7_losesBy 19 = .ok (.invokevirtual 90, 3) := by decide +kernel
theorem dX7_losesBy_22 : decode cX7_losesBy 22 = .ok (.istore 6, 2) := by decide +kernel
theorem dX7_losesBy_24 : decode cX7_losesBy 24 = .ok (.iload 6, 2) := by decide +kernel
theorem dX7_losesBy_26 : decode cX7_losesBy 26 = .ok (.ifCond .lt 40, 3) := by decide +kernel
theorem dX7_losesBy_29 : decode cX7_losesBy 29 = .ok (.aload_n 0, 1) := by decide +kernel
theorem dX7_losesBy_30 : decode cX7_losesBy 30 = .ok (.getfield 52, 3) := by decide +kernel
theorem dX7_losesBy_33 : decode cX7_losesBy 33 = .ok (.bipush 115, 2) := by decide +kernel
theorem dX7_losesBy_35 : decode cX7_losesBy 35 = .ok (.iload_n 2, 1) := by decide +kernel
theorem dX7_losesBy_36 : decode cX7_losesBy 36 = .ok (.iastore, 1) := by decide +kernel
theorem dX7_losesBy_37 : decode cX7_losesBy 37 = .ok (.aload_n 0, 1) := by decide +kernel
theorem dX7_losesBy_38 : decode cX7_losesBy 38 = .ok (.getfield 52, 3) := by decide +kernel
theorem dX7_losesBy_41 : decode cX7_losesBy 41 = .ok (.bipush 112, 2) := by decide +kernel
theorem dX7_losesBy_43 : decode cX7_losesBy 43 = .ok (.aload_n 0, 1) := by decide +kernel
theorem dX7_losesBy_44 : decode cX7_losesBy 44 = .ok (.iload_n 1, 1) := by decide +kernel
theorem dX7_losesBy_45 : decode cX7_losesBy 45 = .ok (.iconst 1, 1) := by decide +kernel
theorem dX7_losesBy_46 : decode cX7_losesBy 46 = .ok (.invokevirtual 86, 3) := by decide +kernel
theorem dX7_losesBy_49 : decode cX7_losesBy 49 = .ok (.iastore, 1) := by decide +kernel
theorem dX7_losesBy_50 : decode cX7_losesBy 50 = .ok (.aload_n 0, 1) := by decide +kernel
theorem dX7_losesBy_51 : decode cX7_losesBy 51 = .ok (.getfield 52, 3) := by decide +kernel
theorem dX7_losesBy_54 : decode cX7_losesBy 54 = .ok (.bipush 119, 2) := by decide +kernel
theorem dX7_losesBy_56 : decode cX7_losesBy 56 = .ok (.iload_n 3, 1) := by decide +kernel
theorem dX7_losesBy_57 : decode cX7_losesBy 57 = .ok (.iastore, 1) := by decide +kernel
theorem dX7_losesBy_58 : decode cX7_losesBy 58 = .ok (.aload_n 0, 1) := by decide +kernel
theorem dX7_losesBy_59 : decode cX7_losesBy 59 = .ok (.iload 6, 2) := by decide +kernel
theorem dX7_losesBy_61 : decode cX7_losesBy 61 = .ok (.invokevirtual 94, 3) := by decide +kernel
theorem dX7_losesBy_64 : decode cX7_losesBy 64 = .ok (.istore 5, 2) := by decide +kernel
theorem dX7_losesBy_66 : decode cX7_losesBy 66 = .ok (.iload 5, 2) := by decide +kernel
theorem dX7_losesBy_68 : decode cX7_losesBy 68 = .ok (.iload_n 2, 1) := by decide +kernel
theorem dX7_losesBy_69 : decode cX7_losesBy 69 = .ok (.invokestatic 97, 3) := by decide +kernel
theorem dX7_losesBy_72 : decode cX7_losesBy 72 = .ok (.istore 5, 2) := by decide +kernel
theorem dX7_losesBy_74 : decode cX7_losesBy 74 = .ok (.aload_n 0, 1) := by decide +kernel
theorem dX7_losesBy_75 : decode cX7_losesBy 75 = .ok (.iload_n 1, 1) := by decide +kernel
theorem dX7_losesBy_76 : decode cX7_losesBy 76 = .ok (.iconst 0, 1) := by decide +kernel
theorem dX7_losesBy_77 : decode cX7_losesBy 77 = .ok (.invokevirtual 86, 3) := by decide +kernel
theorem dX7_losesBy_80 : decode cX7_losesBy 80 = .ok (.tableswitch 101 1 5 #[36, 41, 55, 66, 86], 36) := by decide +kernel
theorem dX7_losesBy_116 : decode cX7_losesBy 116 = .ok (.iload 5, 2) := by decide +kernel
theorem dX7_losesBy_118 : decode cX7_losesBy 118 = .ok (.iconst 2, 1) := by decide +kernel
theorem dX7_losesBy_119 : decode cX7_losesBy 119 = .ok (.idiv, 1) := by decide +kernel
theorem dX7_losesBy_120 : decode cX7_losesBy 120 = .ok (.ireturn, 1) := by decide +kernel
theorem dX7_losesBy_121 : decode cX7_losesBy 121 = .ok (.iload 5, 2) := by decide +kernel
theorem dX7_losesBy_123 : decode cX7_losesBy 123 = .ok (.aload_n 0, 1) := by decide +kernel
theorem dX7_losesBy_124 : decode cX7_losesBy 124 = .ok (.iload_n 1, 1) := by decide +kernel
theorem dX7_losesBy_125 : decode cX7_losesBy 125 = .ok (.iconst 1, 1) := by decide +kernel
theorem dX7_losesBy_126 : decode cX7_losesBy 126 = .ok (.invokevirtual 86, 3) := by decide +kernel
theorem dX7_losesBy_129 : decode cX7_losesBy 129 = .ok (.iadd, 1) := by decide +kernel
theorem dX7_losesBy_130 : decode cX7_losesBy 130 = .ok (.iload_n 2, 1) := by decide +kernel
theorem dX7_losesBy_131 : decode cX7_losesBy 131 = .ok (.invokestatic 97, 3) := by decide +kernel
theorem dX7_losesBy_134 : decode cX7_losesBy 134 = .ok (.ireturn, 1) := by decide +kernel
theorem dX7_losesBy_135 : decode cX7_losesBy 135 = .ok (.iload 5, 2) := by decide +kernel
theorem dX7_losesBy_137 : decode cX7_losesBy 137 = .ok (.iconst 2, 1) := by decide +kernel
theorem dX7_losesBy_138 : decode cX7_losesBy 138 = .ok (.idiv, 1) := by decide +kernel
theorem dX7_losesBy_139 : decode cX7_losesBy 139 = .ok (.iconst 1, 1) := by decide +kernel
theorem dX7_losesBy_140 : decode cX7_losesBy 140 = .ok (.isub, 1) := by decide +kernel
theorem dX7_losesBy_141 : decode cX7_losesBy 141 = .ok (.iload_n 2, 1) := by decide +kernel
theorem dX7_losesBy_142 : decode cX7_losesBy 142 = .ok (.invokestatic 97, 3) := by decide +kernel
theorem dX7_losesBy_145 : decode cX7_losesBy 145 = .ok (.ireturn, 1) := by decide +kernel
theorem dX7_losesBy_146 : decode cX7_losesBy 146 = .ok (.iconst 2, 1) := by decide +kernel
theorem dX7_losesBy_147 : decode cX7_losesBy 147 = .ok (.iload 5, 2) := by decide +kernel
theorem dX7_losesBy_149 : decode cX7_losesBy 149 = .ok (.aload_n 0, 1) := by decide +kernel
theorem dX7_losesBy_150 : decode cX7_losesBy 150 = .ok (.iload_n 1, 1) := by decide +kernel
theorem dX7_losesBy_151 : decode cX7_losesBy 151 = .ok (.iconst 1, 1) := by decide +kernel
theorem dX7_losesBy_152 : decode cX7_losesBy 152 = .ok (.invokevirtual 86, 3) := by decide +kernel
theorem dX7_losesBy_155 : decode cX7_losesBy 155 = .ok (.iadd, 1) := by decide +kernel
theorem dX7_losesBy_156 : decode cX7_losesBy 156 = .ok (.iload_n 2, 1) := by decide +kernel
theorem dX7_losesBy_157 : decode cX7_losesBy 157 = .ok (.invokestatic 97, 3) := by decide +kernel
theorem dX7_losesBy_160 : decode cX7_losesBy 160 = .ok (.imul, 1) := by decide +kernel
theorem dX7_losesBy_161 : decode cX7_losesBy 161 = .ok (.iload_n 2, 1) := by decide +kernel
theorem dX7_losesBy_162 : decode cX7_losesBy 162 = .ok (.invokestatic 97, 3) := by decide +kernel
theorem dX7_losesBy_165 : decode cX7_losesBy 165 = .ok (.ireturn, 1) := by decide +kernel
theorem dX7_losesBy_166 : decode cX7_losesBy 166 = .ok (.iload 4, 2) := by decide +kernel
theorem dX7_losesBy_168 : decode cX7_losesBy 168 = .ok (.iconst 2, 1) := by decide +kernel
theorem dX7_losesBy_169 : decode cX7_losesBy 169 = .ok (.irem, 1) := by decide +kernel
theorem dX7_losesBy_170 : decode cX7_losesBy 170 = .ok (.iconst 1, 1) := by decide +kernel
theorem dX7_losesBy_171 : decode cX7_losesBy 171 = .ok (.if_icmp .ne 8, 3) := by decide +kernel
theorem dX7_losesBy_174 : decode cX7_losesBy 174 = .ok (.iload 5, 2) := by decide +kernel
theorem dX7_losesBy_176 : decode cX7_losesBy 176 = .ok (.goto 4, 3) := by decide +kernel
theorem dX7_losesBy_179 : decode cX7_losesBy 179 = .ok (.iconst 0, 1) := by decide +kernel
theorem dX7_losesBy_180 : decode cX7_losesBy 180 = .ok (.ireturn, 1) := by decide +kernel
theorem dX7_losesBy_181 : decode cX7_losesBy 181 = .ok (.iload 5, 2) := by decide +kernel
theorem dX7_losesBy_183 : decode cX7_losesBy 183 = .ok (.ireturn, 1) := by decide +kernel
set_option maxHeartbeats 4000000 in
set_option maxRecDepth 100000 in
theorem c_X7_losesBy (g : sk_G) (l : Launch) (a1 : Int32) (a2 : Int32) (a3 : Int32) (a4 : Int32) (M : sk_M) {rr : Int32} {MM : sk_M} (h : f_X7_losesBy a1 a2 a3 a4 M = some (rr, MM)) : sk_MI g l yX7_losesBy cX7_losesBy 7 (some .int) 3 [.ref (sk_ad g 88), .int a1, .int a2, .int a3, .int a4] M rr MM := by
  refine sk_go [(0, .ref (sk_ad g 88)), (1, .int a1), (2, .int a2), (3, .int a3), (4, .int a4)] (by decide) (Nat.le_of_ble_eq_true rfl) rfl ?_
  intro p e s m av below meth c C ls hl hM hS
  obtain ⟨hx, hb, hml, hown, hts, hK, hE, hr, hlocks⟩ := id C
  rw [f_X7_losesBy] at h
  refine lv_iload_n hx hb dX7_losesBy_0 rfl (lv_at hl 2 rfl) ?_
  refine lv_aload_n hx hb dX7_losesBy_1 rfl (lv_at hl 0 rfl) ?_
  refine lv_iload_n hx hb dX7_losesBy_2 rfl (lv_at hl 1 rfl) ?_
  refine lv_iconst (v := 1) hx hb dX7_losesBy_3 (by decide) ?_
  obtain ⟨x_1, h_2, h⟩ := sk_b1E h
  refine sk_contI (sk_runV (As := [.int a1, .int 1]) (rest := [.int a2]) C (c_X7_of g l a1 1 M h_2) yo_X7_of kw_1059 (sk_recv (ci := 7) C hM rfl rfl) (by decide) hM hS hl.1 rfl rfl (Nat.le_of_ble_eq_true rfl) dX7_losesBy_4) hS (fun H locs hM hS => ?_)
  refine lv_iload_n hx hb dX7_losesBy_7 rfl (lv_at hl 3 rfl) ?_
  refine lv_iadd hx hb dX7_losesBy_8 ?_
  refine lv_imul hx hb dX7_losesBy_9 ?_
  refine lv_bipush (v := 100) hx hb dX7_losesBy_10 (by decide) ?_
  refine lv_idiv hx hb dX7_losesBy_12 (by decide) ?_
  refine lv_iconst (v := 1) hx hb dX7_losesBy_13 (by decide) ?_
  refine lv_iadd hx hb dX7_losesBy_14 ?_
  refine lv_topi (fun x_3 ex_3 => ?_)
  have h := sk_letU h ex_3
  refine lv_istore (lv' := [(5, .int x_3), (0, .ref (sk_ad g 88)), (1, .int a1), (2, .int a2), (3, .int a3), (4, .int a4)]) hx hb dX7_losesBy_15 hl (by decide) rfl (fun ls hl => ?_)
  refine lv_aload_n hx hb dX7_losesBy_17 rfl (lv_at hl 1 rfl) ?_
  refine lv_iconst (v := 0) hx hb dX7_losesBy_18 (by decide) ?_
  obtain ⟨x_4, h_5, h⟩ := sk_b1E h
  refine sk_contI (sk_runV (As := [.int 0]) (rest := []) C (c_X7_counts g l 0 M h_5) yo_X7_counts kw_1153 (sk_recv (ci := 7) C hM rfl rfl) (by decide) hM hS hl.1 rfl rfl (Nat.le_of_ble_eq_true rfl) dX7_losesBy_19) hS (fun H locs hM hS => ?_)
  refine lv_istore (lv' := [(6, .int x_4), (5, .int x_3), (0, .ref (sk_ad g 88)), (1, .int a1), (2, .int a2), (3, .int a3), (4, .int a4)]) hx hb dX7_losesBy_22 hl (by decide) rfl (fun ls hl => ?_)
  refine lv_iload hx hb dX7_losesBy_24 (lv_at hl 0 rfl) ?_
  obtain ⟨y0_6, y1_6, h_6, kg_6⟩ := sk_b2E h
  have J_6 : ∀ (x_15 : Int32) (M_16 : sk_M) (H : Heap) (locs : List Loc) (ls : Array Slot), some (x_15, M_16) = some (y0_6, y1_6) → lv_has ls 7 [(0, .ref (sk_ad g 88)), (1, .int a1), (2, .int a2), (4, .int a4), (5, .int x_15)] → sk_P g M_16 H → va_S (sk_A g) s.heap H locs → W p l e (sk_rm 3) s m av below meth c H locs 0 0 (MQ below (sk_QI g rr MM) av s 0 0 (sk_A g)) (F0 m 66 ls []) := by
    intro x_15 M_16 H locs ls he hl hM hS
    obtain ⟨rfl, rfl⟩ := sk_e2 he
    have h := kg_6
    refine lv_iload hx hb dX7_losesBy_66 (lv_at hl 4 rfl) ?_
    refine lv_iload_n hx hb dX7_losesBy_68 rfl (lv_at hl 2 rfl) ?_
    refine sk_contI (sk_runS (As := [.int x_15, .int a2]) (rest := []) C (c_X7_within g l x_15 a2 M_16 rfl) yo_X7_within kw_1168 (by decide) hM hS hl.1 rfl rfl (Nat.le_of_ble_eq_true rfl) dX7_losesBy_69) hS (fun H locs hM hS => ?_)
    refine lv_topi (fun x_18 ex_18 => ?_)
    have h := sk_letU h ex_18
    refine lv_istore (lv' := [(5, .int x_18), (0, .ref (sk_ad g 88)), (1, .int a1), (2, .int a2), (4, .int a4)]) hx hb dX7_losesBy_72 hl (by decide) rfl (fun ls hl => ?_)
    refine lv_aload_n hx hb dX7_losesBy_74 rfl (lv_at hl 1 rfl) ?_
    refine lv_iload_n hx hb dX7_losesBy_75 rfl (lv_at hl 2 rfl) ?_
    refine lv_iconst (v := 0) hx hb dX7_losesBy_76 (by decide) ?_
    obtain ⟨x_19, h_20, h⟩ := sk_b1E h
    refine sk_contI (sk_runV (As := [.int a1, .int 0]) (rest := []) C (c_X7_of g l a1 0 M_16 h_20) yo_X7_of kw_1059 (sk_recv (ci := 7) C hM rfl rfl) (by decide) hM hS hl.1 rfl rfl (Nat.le_of_ble_eq_true rfl) dX7_losesBy_77) hS (fun H locs hM hS => ?_)
    by_cases hk_21 : x_19 = 1
    · refine lv_tableIn (off := 36) hx hb dX7_losesBy_80 (by rw [hk_21]; decide) (by rw [hk_21]; decide) (by rw [hk_21]; rfl) rfl ?_
      have h := sk_pos h hk_21
      refine lv_iload hx hb dX7_losesBy_116 (lv_at hl 0 rfl) ?_
      refine lv_iconst (v := 2) hx hb dX7_losesBy_118 (by decide) ?_
      refine lv_idiv hx hb dX7_losesBy_119 (by decide) ?_
      exact sk_iret C hM hS (sk_e2 h) dX7_losesBy_120
    have h := sk_neg h hk_21
    by_cases hk_25 : x_19 = 2
    · refine lv_tableIn (off := 41) hx hb dX7_losesBy_80 (by rw [hk_25]; decide) (by rw [hk_25]; decide) (by rw [hk_25]; rfl) rfl ?_
      have h := sk_pos h hk_25
      refine lv_iload hx hb dX7_losesBy_121 (lv_at hl 0 rfl) ?_
      refine lv_aload_n hx hb dX7_losesBy_123 rfl (lv_at hl 1 rfl) ?_
      refine lv_iload_n hx hb dX7_losesBy_124 rfl (lv_at hl 2 rfl) ?_
      refine lv_iconst (v := 1) hx hb dX7_losesBy_125 (by decide) ?_
      obtain ⟨x_22, h_23, h⟩ := sk_b1E h
      refine sk_contI (sk_runV (As := [.int a1, .int 1]) (rest := [.int x_18]) C (c_X7_of g l a1 1 M_16 h_23) yo_X7_of kw_1059 (sk_recv (ci := 7) C hM rfl rfl) (by decide) hM hS hl.1 rfl rfl (Nat.le_of_ble_eq_true rfl) dX7_losesBy_126) hS (fun H locs hM hS => ?_)
      refine lv_iadd hx hb dX7_losesBy_129 ?_
      refine lv_iload_n hx hb dX7_losesBy_130 rfl (lv_at hl 3 rfl) ?_
      refine sk_contI (sk_runS (As := [.int (x_18 + x_22), .int a2]) (rest := []) C (c_X7_within g l (x_18 + x_22) a2 M_16 rfl) yo_X7_within kw_1168 (by decide) hM hS hl.1 rfl rfl (Nat.le_of_ble_eq_true rfl) dX7_losesBy_131) hS (fun H locs hM hS => ?_)
      exact sk_iret C hM hS (sk_e2 h) dX7_losesBy_134
    have h := sk_neg h hk_25
    by_cases hk_27 : x_19 = 3
    · refine lv_tableIn (off := 55) hx hb dX7_losesBy_80 (by rw [hk_27]; decide) (by rw [hk_27]; decide) (by rw [hk_27]; rfl) rfl ?_
      have h := sk_pos h hk_27
      refine lv_iload hx hb dX7_losesBy_135 (lv_at hl 0 rfl) ?_
      refine lv_iconst (v := 2) hx hb dX7_losesBy_137 (by decide) ?_
      refine lv_idiv hx hb dX7_losesBy_138 (by decide) ?_
      refine lv_iconst (v := 1) hx hb dX7_losesBy_139 (by decide) ?_
      refine lv_isub hx hb dX7_losesBy_140 ?_
      refine lv_iload_n hx hb dX7_losesBy_141 rfl (lv_at hl 3 rfl) ?_
      refine sk_contI (sk_runS (As := [.int ((x_18 / 2) - 1), .int a2]) (rest := []) C (c_X7_within g l ((x_18 / 2) - 1) a2 M_16 rfl) yo_X7_within kw_1168 (by decide) hM hS hl.1 rfl rfl (Nat.le_of_ble_eq_true rfl) dX7_losesBy_142) hS (fun H locs hM hS => ?_)
      exact sk_iret C hM hS (sk_e2 h) dX7_losesBy_145
    have h := sk_neg h hk_27
    by_cases hk_32 : x_19 = 4
    · refine lv_tableIn (off := 66) hx hb dX7_losesBy_80 (by rw [hk_32]; decide) (by rw [hk_32]; decide) (by rw [hk_32]; rfl) rfl ?_
      have h := sk_pos h hk_32
      refine lv_iconst (v := 2) hx hb dX7_losesBy_146 (by decide) ?_
      refine lv_iload hx hb dX7_losesBy_147 (lv_at hl 0 rfl) ?_
      refine lv_aload_n hx hb dX7_losesBy_149 rfl (lv_at hl 1 rfl) ?_
      refine lv_iload_n hx hb dX7_losesBy_150 rfl (lv_at hl 2 rfl) ?_
      refine lv_iconst (v := 1) hx hb dX7_losesBy_151 (by decide) ?_
      obtain ⟨x_28, h_29, h⟩ := sk_b1E h
      refine sk_contI (sk_runV (As := [.int a1, .int 1]) (rest := [.int x_18, .int 2]) C (c_X7_of g l a1 1 M_16 h_29) yo_X7_of kw_1059 (sk_recv (ci := 7) C hM rfl rfl) (by decide) hM hS hl.1 rfl rfl (Nat.le_of_ble_eq_true rfl) dX7_losesBy_152) hS (fun H locs hM hS => ?_)
      refine lv_iadd hx hb dX7_losesBy_155 ?_
      refine lv_iload_n hx hb dX7_losesBy_156 rfl (lv_at hl 3 rfl) ?_
      refine sk_contI (sk_runS (As := [.int (x_18 + x_28), .int a2]) (rest := [.int 2]) C (c_X7_within g l (x_18 + x_28) a2 M_16 rfl) yo_X7_within kw_1168 (by decide) hM hS hl.1 rfl rfl (Nat.le_of_ble_eq_true rfl) dX7_losesBy_157) hS (fun H locs hM hS => ?_)
      refine lv_imul hx hb dX7_losesBy_160 ?_
      refine lv_iload_n hx hb dX7_losesBy_161 rfl (lv_at hl 3 rfl) ?_
      refine sk_contI (sk_runS (As := [.int (2 * (f_X7_within (x_18 + x_28) a2)), .int a2]) (rest := []) C (c_X7_within g l (2 * (f_X7_within (x_18 + x_28) a2)) a2 M_16 rfl) yo_X7_within kw_1168 (by decide) hM hS hl.1 rfl rfl (Nat.le_of_ble_eq_true rfl) dX7_losesBy_162) hS (fun H locs hM hS => ?_)
      exact sk_iret C hM hS (sk_e2 h) dX7_losesBy_165
    have h := sk_neg h hk_32
    by_cases hk_33 : x_19 = 5
    · refine lv_tableIn (off := 86) hx hb dX7_losesBy_80 (by rw [hk_33]; decide) (by rw [hk_33]; decide) (by rw [hk_33]; rfl) rfl ?_
      have h := sk_pos h hk_33
      refine lv_iload hx hb dX7_losesBy_166 (lv_at hl 4 rfl) ?_
      refine lv_iconst (v := 2) hx hb dX7_losesBy_168 (by decide) ?_
      refine lv_irem hx hb dX7_losesBy_169 (by decide) ?_
      refine lv_iconst (v := 1) hx hb dX7_losesBy_170 (by decide) ?_
      have J : ∀ (vv : Int32) (H : Heap) (locs : List Loc), (if (a4 - a4 / 2 * 2) = 1 then x_18 else 0 : Int32) = vv → sk_P g M_16 H → va_S (sk_A g) s.heap H locs → W p l e (sk_rm 3) s m av below meth c H locs 0 0 (MQ below (sk_QI g rr MM) av s 0 0 (sk_A g)) (F0 m 180 ls [.int vv]) := by
        intro vv H locs hvv hM hS
        subst hvv
        exact sk_iret C hM hS (sk_e2 h) dX7_losesBy_180
      refine lv_icmp_ne hx hb dX7_losesBy_171 rfl (fun hc => ?_) (fun hc => ?_)
      · have J := fun vv H locs q => J vv H locs ((if_neg hc).trans q)
        refine lv_iconst (v := 0) hx hb dX7_losesBy_179 (by decide) ?_
        exact J _ _ _ rfl hM hS
      · have J := fun vv H locs q => J vv H locs ((if_pos hc).trans q)
        refine lv_iload hx hb dX7_losesBy_174 (lv_at hl 0 rfl) ?_
        refine lv_goto hx hb dX7_losesBy_176 rfl ?_
        exact J _ _ _ rfl hM hS
    have h := sk_neg h hk_33
    refine lv_tableOut hx hb dX7_losesBy_80 (by have zhk_21 := sk_tn hk_21 (z := 1) rfl; have zhk_25 := sk_tn hk_25 (z := 2) rfl; have zhk_27 := sk_tn hk_27 (z := 3) rfl; have zhk_32 := sk_tn hk_32 (z := 4) rfl; have zhk_33 := sk_tn hk_33 (z := 5) rfl; omega) rfl ?_
    refine lv_iload hx hb dX7_losesBy_181 (lv_at hl 0 rfl) ?_
    exact sk_iret C hM hS (sk_e2 h) dX7_losesBy_183
  have h := h_6
  refine lv_if_lt hx hb dX7_losesBy_26 rfl (fun hc => ?_) (fun hc => ?_)
  · have h := sk_pos h hc
    exact J_6 _ _ _ _ _ h (lv_sub hl [2, 3, 4, 6, 1] rfl) hM hS
  · have h := sk_neg h hc
    refine lv_aload_n hx hb dX7_losesBy_29 rfl (lv_at hl 2 rfl) ?_
    refine sk_getR (o := 88) (ci := 7) (j := 26) (t := 103) C hM rfl rfl (by decide) rfl rfl kw_961 dX7_losesBy_30 ?_
    refine lv_bipush (v := 115) hx hb dX7_losesBy_33 (by decide) ?_
    refine lv_iload_n hx hb dX7_losesBy_35 rfl (lv_at hl 4 rfl) ?_
    refine sk_iast (o := 103) C hM hS rfl (by decide) dX7_losesBy_36 (fun M_7 eM_7 H locs hM hS => ?_)
    have h := sk_letU h eM_7
    refine lv_aload_n hx hb dX7_losesBy_37 rfl (lv_at hl 2 rfl) ?_
    refine sk_getR (o := 88) (ci := 7) (j := 26) (t := 103) C hM rfl rfl (by decide) rfl rfl kw_961 dX7_losesBy_38 ?_
    refine lv_bipush (v := 112) hx hb dX7_losesBy_41 (by decide) ?_
    refine lv_aload_n hx hb dX7_losesBy_43 rfl (lv_at hl 2 rfl) ?_
    refine lv_iload_n hx hb dX7_losesBy_44 rfl (lv_at hl 3 rfl) ?_
    refine lv_iconst (v := 1) hx hb dX7_losesBy_45 (by decide) ?_
    obtain ⟨x_8, h_9, h⟩ := sk_b1E h
    refine sk_contI (sk_runV (As := [.int a1, .int 1]) (rest := [.int 112, .ref (sk_ad g 103)]) C (c_X7_of g l a1 1 M_7 h_9) yo_X7_of kw_1059 (sk_recv (ci := 7) C hM rfl rfl) (by decide) hM hS hl.1 rfl rfl (Nat.le_of_ble_eq_true rfl) dX7_losesBy_46) hS (fun H locs hM hS => ?_)
    refine sk_iast (o := 103) C hM hS rfl (by decide) dX7_losesBy_49 (fun M_10 eM_10 H locs hM hS => ?_)
    have h := sk_letU h eM_10
    refine lv_aload_n hx hb dX7_losesBy_50 rfl (lv_at hl 2 rfl) ?_
    refine sk_getR (o := 88) (ci := 7) (j := 26) (t := 103) C hM rfl rfl (by decide) rfl rfl kw_961 dX7_losesBy_51 ?_
    refine lv_bipush (v := 119) hx hb dX7_losesBy_54 (by decide) ?_
    refine lv_iload_n hx hb dX7_losesBy_56 rfl (lv_at hl 5 rfl) ?_
    refine sk_iast (o := 103) C hM hS rfl (by decide) dX7_losesBy_57 (fun M_11 eM_11 H locs hM hS => ?_)
    have h := sk_letU h eM_11
    refine lv_aload_n hx hb dX7_losesBy_58 rfl (lv_at hl 2 rfl) ?_
    refine lv_iload hx hb dX7_losesBy_59 (lv_at hl 0 rfl) ?_
    obtain ⟨x_12, M_13, h_14, h⟩ := sk_b2E h
    refine sk_contI (sk_runV (As := [.int x_4]) (rest := []) C (c_X7_worked g l x_4 M_11 h_14) yo_X7_worked kw_1161 (sk_recv (ci := 7) C hM rfl rfl) (by decide) hM hS hl.1 rfl rfl (Nat.le_of_ble_eq_true rfl) dX7_losesBy_61) hS (fun H locs hM hS => ?_)
    refine lv_istore (lv' := [(5, .int x_12), (6, .int x_4), (0, .ref (sk_ad g 88)), (1, .int a1), (2, .int a2), (3, .int a3), (4, .int a4)]) hx hb dX7_losesBy_64 hl (by decide) rfl (fun ls hl => ?_)
    exact J_6 _ _ _ _ _ h (lv_sub hl [2, 3, 4, 6, 0] rfl) hM hS
theorem dX7_losesOn_0 : decode cX7_losesOn 0 = .ok (.aload_n 0, 1) := by decide +kernel
theorem dX7_losesOn_1 : decode cX7_losesOn 1 = .ok (.iload_n 2, 1) := by decide +kernel
theorem dX7_losesOn_2 : decode cX7_losesOn 2 = .ok (.aload_n 0, 1) := by decide +kernel
theorem dX7_losesOn_3 : decode cX7_losesOn 3 = .ok (.iload_n 1, 1) := by decide +kernel
theorem dX7_losesOn_4 : decode cX7_losesOn 4 = .ok (.iload_n 2, 1) := by decide +kernel
theorem dX7_losesOn_5 : decode cX7_losesOn 5 = .ok (.invokevirtual 100, 3) := by decide +kernel
theorem dX7_losesOn_8 : decode cX7_losesOn 8 = .ok (.aload_n 0, 1) := by decide +kernel
theorem dX7_losesOn_9 : decode cX7_losesOn 9 = .ok (.getfield 7, 3) := by decide +kernel
theorem dX7_losesOn_12 : decode cX7_losesOn 12 = .ok (.bipush 37, 2) := by decide +kernel
theorem dX7_losesOn_14 : decode cX7_losesOn 14 = .ok (.iload_n 1, 1) := by decide +kernel
theorem dX7_losesOn_15 : decode cX7_losesOn 15 = .ok (.iadd, 1) := by decide +kernel
theorem dX7_losesOn_16 : decode cX7_losesOn 16 = .ok (.iaload, 1) := by decide +kernel
theorem dX7_losesOn_17 : decode cX7_losesOn 17 = .ok (.aload_n 0, 1) := by decide +kernel
theorem dX7_losesOn_18 : decode cX7_losesOn 18 = .ok (.getfield 7, 3) := by decide +kernel
theorem dX7_losesOn_21 : decode cX7_losesOn 21 = .ok (.iconst 4, 1) := by decide +kernel
theorem dX7_losesOn_22 : decode cX7_losesOn 22 = .ok (.iaload, 1) := by decide +kernel
theorem dX7_losesOn_23 : decode cX7_losesOn 23 = .ok (.invokevirtual 103, 3) := by decide +kernel
theorem dX7_losesOn_26 : decode cX7_losesOn 26 = .ok (.ireturn, 1) := by decide +kernel
set_option maxHeartbeats 4000000 in
set_option maxRecDepth 100000 in
theorem c_X7_losesOn (g : sk_G) (l : Launch) (a1 : Int32) (a2 : Int32) (M : sk_M) {rr : Int32} {MM : sk_M} (h : f_X7_losesOn a1 a2 M = some (rr, MM)) : sk_MI g l yX7_losesOn cX7_losesOn 3 (some .int) 4 [.ref (sk_ad g 88), .int a1, .int a2] M rr MM := by
  refine sk_go [(0, .ref (sk_ad g 88)), (1, .int a1), (2, .int a2)] (by decide) (Nat.le_of_ble_eq_true rfl) rfl ?_
  intro p e s m av below meth c C ls hl hM hS
  obtain ⟨hx, hb, hml, hown, hts, hK, hE, hr, hlocks⟩ := id C
  rw [f_X7_losesOn] at h
  refine lv_aload_n hx hb dX7_losesOn_0 rfl (lv_at hl 0 rfl) ?_
  refine lv_iload_n hx hb dX7_losesOn_1 rfl (lv_at hl 2 rfl) ?_
  refine lv_aload_n hx hb dX7_losesOn_2 rfl (lv_at hl 0 rfl) ?_
  refine lv_iload_n hx hb dX7_losesOn_3 rfl (lv_at hl 1 rfl) ?_
  refine lv_iload_n hx hb dX7_losesOn_4 rfl (lv_at hl 2 rfl) ?_
  obtain ⟨x_1, h_2, h⟩ := sk_b1E h
  refine sk_contI (sk_runV (As := [.int a1, .int a2]) (rest := [.int a2, .ref (sk_ad g 88)]) C (c_X7_on g l a1 a2 M h_2) yo_X7_on kw_1137 (sk_recv (ci := 7) C hM rfl rfl) (by decide) hM hS hl.1 rfl rfl (Nat.le_of_ble_eq_true rfl) dX7_losesOn_5) hS (fun H locs hM hS => ?_)
  refine lv_aload_n hx hb dX7_losesOn_8 rfl (lv_at hl 0 rfl) ?_
  refine sk_getR (o := 88) (ci := 7) (j := 0) (t := 89) C hM rfl rfl (by decide) rfl rfl kw_935 dX7_losesOn_9 ?_
  refine lv_bipush (v := 37) hx hb dX7_losesOn_12 (by decide) ?_
  refine lv_iload_n hx hb dX7_losesOn_14 rfl (lv_at hl 1 rfl) ?_
  refine lv_iadd hx hb dX7_losesOn_15 ?_
  obtain ⟨i_3, h⟩ := sk_chkE h
  refine sk_iald (o := 89) C hM rfl i_3 dX7_losesOn_16 ?_
  refine lv_aload_n hx hb dX7_losesOn_17 rfl (lv_at hl 0 rfl) ?_
  refine sk_getR (o := 88) (ci := 7) (j := 0) (t := 89) C hM rfl rfl (by decide) rfl rfl kw_935 dX7_losesOn_18 ?_
  refine lv_iconst (v := 4) hx hb dX7_losesOn_21 (by decide) ?_
  refine sk_iald (o := 89) C hM rfl (by decide) dX7_losesOn_22 ?_
  refine W.eq (g2 := F0 m 23 ls [.int (M 89 4), .int (M 89 (37 + a1).toNatClampNeg), .int x_1, .int a2, .ref (sk_ad g 88)]) rfl ?_
  obtain ⟨x_4, M_5, h_6, h⟩ := sk_b2E h
  refine sk_contI (sk_runV (As := [.int a2, .int x_1, .int (M 89 (37 + a1).toNatClampNeg), .int (M 89 4)]) (rest := []) C (c_X7_losesBy g l a2 x_1 (M 89 (37 + a1).toNatClampNeg) (M 89 4) M h_6) yo_X7_losesBy kw_1149 (sk_recv (ci := 7) C hM rfl rfl) (by decide) hM hS hl.1 rfl rfl (Nat.le_of_ble_eq_true rfl) dX7_losesOn_23) hS (fun H locs hM hS => ?_)
  exact sk_iret C hM hS (sk_e2 h) dX7_losesOn_26
theorem dX7_worth_0 : decode cX7_worth 0 = .ok (.aload_n 0, 1) := by decide +kernel
theorem dX7_worth_1 : decode cX7_worth 1 = .ok (.iload_n 1, 1) := by decide +kernel
theorem dX7_worth_2 : decode cX7_worth 2 = .ok (.iconst 1, 1) := by decide +kernel
theorem dX7_worth_3 : decode cX7_worth 3 = .ok (.invokevirtual 86, 3) := by decide +kernel
theorem dX7_worth_6 : decode cX7_worth 6 = .ok (.istore_n 2, 1) := by decide +kernel
theorem dX7_worth_7 : decode cX7_worth 7 = .ok (.aload_n 0, 1) := by decide +kernel
theorem dX7_worth_8 : decode cX7_worth 8 = .ok (.iload_n 1, 1) := by decide +kernel
theorem dX7_worth_9 : decode cX7_worth 9 = .ok (.iconst 0, 1) := by decide +kernel
theorem dX7_worth_10 : decode cX7_worth 10 = .ok (.invokevirtual 86, 3) := by decide +kernel
theorem dX7_worth_13 : decode cX7_worth 13 = .ok (.tableswitch 58 1 5 #[35, 40, 44, 51, 55], 35) := by decide +kernel
theorem dX7_worth_48 : decode cX7_worth 48 = .ok (.bipush 60, 2) := by decide +kernel
theorem dX7_worth_50 : decode cX7_worth 50 = .ok (.iload_n 2, 1) := by decide +kernel
theorem dX7_worth_51 : decode cX7_worth 51 = .ok (.isub, 1) := by decide +kernel
theorem dX7_worth_52 : decode cX7_worth 52 = .ok (.ireturn, 1) := by decide +kernel
theorem dX7_worth_53 : decode cX7_worth 53 = .ok (.iload_n 2, 1) := by decide +kernel
theorem dX7_worth_54 : decode cX7_worth 54 = .ok (.iconst 5, 1) := by decide +kernel
theorem dX7_worth_55 : decode cX7_worth 55 = .ok (.iadd, 1) := by decide +kernel
theorem dX7_worth_56 : decode cX7_worth 56 = .ok (.ireturn, 1) := by decide +kernel
theorem dX7_worth_57 : decode cX7_worth 57 = .ok (.iconst 2, 1) := by decide +kernel
theorem dX7_worth_58 : decode cX7_worth 58 = .ok (.bipush 60, 2) := by decide +kernel
theorem dX7_worth_60 : decode cX7_worth 60 = .ok (.iload_n 2, 1) := by decide +kernel
theorem dX7_worth_61 : decode cX7_worth 61 = .ok (.isub, 1) := by decide +kernel
theorem dX7_worth_62 : decode cX7_worth 62 = .ok (.imul, 1) := by decide +kernel
theorem dX7_worth_63 : decode cX7_worth 63 = .ok (.ireturn, 1) := by decide +kernel
theorem dX7_worth_64 : decode cX7_worth 64 = .ok (.iload_n 2, 1) := by decide +kernel
theorem dX7_worth_65 : decode cX7_worth 65 = .ok (.iconst 2, 1) := by decide +kernel
theorem dX7_worth_66 : decode cX7_worth 66 = .ok (.isub, 1) := by decide +kernel
theorem dX7_worth_67 : decode cX7_worth 67 = .ok (.ireturn, 1) := by decide +kernel
theorem dX7_worth_68 : decode cX7_worth 68 = .ok (.bipush 99, 2) := by decide +kernel
theorem dX7_worth_70 : decode cX7_worth 70 = .ok (.ireturn, 1) := by decide +kernel
theorem dX7_worth_71 : decode cX7_worth 71 = .ok (.iload_n 2, 1) := by decide +kernel
theorem dX7_worth_72 : decode cX7_worth 72 = .ok (.ireturn, 1) := by decide +kernel
set_option maxHeartbeats 4000000 in
set_option maxRecDepth 100000 in
theorem c_X7_worth (g : sk_G) (l : Launch) (a1 : Int32) (M : sk_M) {rr : Int32} (h : f_X7_worth a1 M = some rr) : sk_MI g l yX7_worth cX7_worth 3 (some .int) 2 [.ref (sk_ad g 88), .int a1] M rr M := by
  refine sk_go [(0, .ref (sk_ad g 88)), (1, .int a1)] (by decide) (Nat.le_of_ble_eq_true rfl) rfl ?_
  intro p e s m av below meth c C ls hl hM hS
  obtain ⟨hx, hb, hml, hown, hts, hK, hE, hr, hlocks⟩ := id C
  rw [f_X7_worth] at h
  refine lv_aload_n hx hb dX7_worth_0 rfl (lv_at hl 0 rfl) ?_
  refine lv_iload_n hx hb dX7_worth_1 rfl (lv_at hl 1 rfl) ?_
  refine lv_iconst (v := 1) hx hb dX7_worth_2 (by decide) ?_
  obtain ⟨x_1, h_2, h⟩ := sk_b1E h
  refine sk_contI (sk_runV (As := [.int a1, .int 1]) (rest := []) C (c_X7_of g l a1 1 M h_2) yo_X7_of kw_1059 (sk_recv (ci := 7) C hM rfl rfl) (by decide) hM hS hl.1 rfl rfl (Nat.le_of_ble_eq_true rfl) dX7_worth_3) hS (fun H locs hM hS => ?_)
  refine lv_istore_n (lv' := [(2, .int x_1), (0, .ref (sk_ad g 88)), (1, .int a1)]) hx hb dX7_worth_6 rfl hl (by decide) rfl (fun ls hl => ?_)
  refine lv_aload_n hx hb dX7_worth_7 rfl (lv_at hl 1 rfl) ?_
  refine lv_iload_n hx hb dX7_worth_8 rfl (lv_at hl 2 rfl) ?_
  refine lv_iconst (v := 0) hx hb dX7_worth_9 (by decide) ?_
  obtain ⟨x_3, h_4, h⟩ := sk_b1E h
  refine sk_contI (sk_runV (As := [.int a1, .int 0]) (rest := []) C (c_X7_of g l a1 0 M h_4) yo_X7_of kw_1059 (sk_recv (ci := 7) C hM rfl rfl) (by decide) hM hS hl.1 rfl rfl (Nat.le_of_ble_eq_true rfl) dX7_worth_10) hS (fun H locs hM hS => ?_)
  by_cases hk_5 : x_3 = 1
  · refine lv_tableIn (off := 35) hx hb dX7_worth_13 (by rw [hk_5]; decide) (by rw [hk_5]; decide) (by rw [hk_5]; rfl) rfl ?_
    have h := sk_pos h hk_5
    refine lv_bipush (v := 60) hx hb dX7_worth_48 (by decide) ?_
    refine lv_iload_n hx hb dX7_worth_50 rfl (lv_at hl 0 rfl) ?_
    refine lv_isub hx hb dX7_worth_51 ?_
    exact sk_iret C hM hS ⟨Option.some.inj h, rfl⟩ dX7_worth_52
  have h := sk_neg h hk_5
  by_cases hk_6 : x_3 = 2
  · refine lv_tableIn (off := 40) hx hb dX7_worth_13 (by rw [hk_6]; decide) (by rw [hk_6]; decide) (by rw [hk_6]; rfl) rfl ?_
    have h := sk_pos h hk_6
    refine lv_iload_n hx hb dX7_worth_53 rfl (lv_at hl 0 rfl) ?_
    refine lv_iconst (v := 5) hx hb dX7_worth_54 (by decide) ?_
    refine lv_iadd hx hb dX7_worth_55 ?_
    exact sk_iret C hM hS ⟨Option.some.inj h, rfl⟩ dX7_worth_56
  have h := sk_neg h hk_6
  by_cases hk_7 : x_3 = 3
  · refine lv_tableIn (off := 44) hx hb dX7_worth_13 (by rw [hk_7]; decide) (by rw [hk_7]; decide) (by rw [hk_7]; rfl) rfl ?_
    have h := sk_pos h hk_7
    refine lv_iconst (v := 2) hx hb dX7_worth_57 (by decide) ?_
    refine lv_bipush (v := 60) hx hb dX7_worth_58 (by decide) ?_
    refine lv_iload_n hx hb dX7_worth_60 rfl (lv_at hl 0 rfl) ?_
    refine lv_isub hx hb dX7_worth_61 ?_
    refine lv_imul hx hb dX7_worth_62 ?_
    exact sk_iret C hM hS ⟨Option.some.inj h, rfl⟩ dX7_worth_63
  have h := sk_neg h hk_7
  by_cases hk_8 : x_3 = 4
  · refine lv_tableIn (off := 51) hx hb dX7_worth_13 (by rw [hk_8]; decide) (by rw [hk_8]; decide) (by rw [hk_8]; rfl) rfl ?_
    have h := sk_pos h hk_8
    refine lv_iload_n hx hb dX7_worth_64 rfl (lv_at hl 0 rfl) ?_
    refine lv_iconst (v := 2) hx hb dX7_worth_65 (by decide) ?_
    refine lv_isub hx hb dX7_worth_66 ?_
    exact sk_iret C hM hS ⟨Option.some.inj h, rfl⟩ dX7_worth_67
  have h := sk_neg h hk_8
  by_cases hk_9 : x_3 = 5
  · refine lv_tableIn (off := 55) hx hb dX7_worth_13 (by rw [hk_9]; decide) (by rw [hk_9]; decide) (by rw [hk_9]; rfl) rfl ?_
    have h := sk_pos h hk_9
    refine lv_bipush (v := 99) hx hb dX7_worth_68 (by decide) ?_
    exact sk_iret C hM hS ⟨Option.some.inj h, rfl⟩ dX7_worth_70
  have h := sk_neg h hk_9
  refine lv_tableOut hx hb dX7_worth_13 (by have zhk_5 := sk_tn hk_5 (z := 1) rfl; have zhk_6 := sk_tn hk_6 (z := 2) rfl; have zhk_7 := sk_tn hk_7 (z := 3) rfl; have zhk_8 := sk_tn hk_8 (z := 4) rfl; have zhk_9 := sk_tn hk_9 (z := 5) rfl; omega) rfl ?_
  refine lv_iload_n hx hb dX7_worth_71 rfl (lv_at hl 0 rfl) ?_
  exact sk_iret C hM hS ⟨Option.some.inj h, rfl⟩ dX7_worth_72
theorem dX7_told_0 : decode cX7_told 0 = .ok (.aload_n 0, 1) := by decide +kernel
theorem dX7_told_1 : decode cX7_told 1 = .ok (.iload_n 1, 1) := by decide +kernel
theorem dX7_told_2 : decode cX7_told 2 = .ok (.invokevirtual 107, 3) := by decide +kernel
theorem dX7_told_5 : decode cX7_told 5 = .ok (.ifCond .eq 15, 3) := by decide +kernel
theorem dX7_told_8 : decode cX7_told 8 = .ok (.iload_n 2, 1) := by decide +kernel
theorem dX7_told_9 : decode cX7_told 9 = .ok (.i2l, 1) := by decide +kernel
theorem dX7_told_10 : decode cX7_told 10 = .ok (.lconst 0, 1) := by decide +kernel
theorem dX7_told_11 : decode cX7_told 11 = .ok (.ldc2_w 111, 3) := by decide +kernel
theorem dX7_told_14 : decode cX7_told 14 = .ok (.invokestatic 71, 3) := by decide +kernel
theorem dX7_told_17 : decode cX7_told 17 = .ok (.ifCond .ne 6, 3) := by decide +kernel
theorem dX7_told_20 : decode cX7_told 20 = .ok (.ldc 80, 2) := by decide +kernel
theorem dX7_told_22 : decode cX7_told 22 = .ok (.ireturn, 1) := by decide +kernel
theorem dX7_told_23 : decode cX7_told 23 = .ok (.iload_n 2, 1) := by decide +kernel
theorem dX7_told_24 : decode cX7_told 24 = .ok (.iconst 2, 1) := by decide +kernel
theorem dX7_told_25 : decode cX7_told 25 = .ok (.if_icmp .ge 12, 3) := by decide +kernel
theorem dX7_told_28 : decode cX7_told 28 = .ok (.aload_n 0, 1) := by decide +kernel
theorem dX7_told_29 : decode cX7_told 29 = .ok (.iload_n 1, 1) := by decide +kernel
theorem dX7_told_30 : decode cX7_told 30 = .ok (.iload_n 2, 1) := by decide +kernel
theorem dX7_told_31 : decode cX7_told 31 = .ok (.invokevirtual 86, 3) := by decide +kernel
theorem dX7_told_34 : decode cX7_told 34 = .ok (.goto 22, 3) := by decide +kernel
theorem dX7_told_37 : decode cX7_told 37 = .ok (.iload_n 2, 1) := by decide +kernel
theorem dX7_told_38 : decode cX7_told 38 = .ok (.iconst 2, 1) := by decide +kernel
theorem dX7_told_39 : decode cX7_told 39 = .ok (.if_icmp .ne 11, 3) := by decide +kernel
theorem dX7_told_42 : decode cX7_told 42 = .ok (.aload_n 0, 1) := by decide +kernel
theorem dX7_told_43 : decode cX7_told 43 = .ok (.iload_n 1, 1) := by decide +kernel
theorem dX7_told_44 : decode cX7_told 44 = .ok (.invokevirtual 113, 3) := by decide +kernel
theorem dX7_told_47 : decode cX7_told 47 = .ok (.goto 9, 3) := by decide +kernel
theorem dX7_told_50 : decode cX7_told 50 = .ok (.aload_n 0, 1) := by decide +kernel
theorem dX7_told_51 : decode cX7_told 51 = .ok (.iload_n 1, 1) := by decide +kernel
theorem dX7_told_52 : decode cX7_told 52 = .ok (.iconst 2, 1) := by decide +kernel
theorem dX7_told_53 : decode cX7_told 53 = .ok (.invokevirtual 86, 3) := by decide +kernel
theorem dX7_told_56 : decode cX7_told 56 = .ok (.ireturn, 1) := by decide +kernel
set_option maxHeartbeats 4000000 in
set_option maxRecDepth 100000 in
theorem c_X7_told (g : sk_G) (l : Launch) (a1 : Int32) (a2 : Int32) (M : sk_M) {rr : Int32} (h : f_X7_told a1 a2 M = some rr) : sk_MI g l yX7_told cX7_told 3 (some .int) 3 [.ref (sk_ad g 88), .int a1, .int a2] M rr M := by
  refine sk_go [(0, .ref (sk_ad g 88)), (1, .int a1), (2, .int a2)] (by decide) (Nat.le_of_ble_eq_true rfl) rfl ?_
  intro p e s m av below meth c C ls hl hM hS
  obtain ⟨hx, hb, hml, hown, hts, hK, hE, hr, hlocks⟩ := id C
  rw [f_X7_told] at h
  refine lv_aload_n hx hb dX7_told_0 rfl (lv_at hl 0 rfl) ?_
  refine lv_iload_n hx hb dX7_told_1 rfl (lv_at hl 1 rfl) ?_
  refine sk_contI (sk_runV (As := [.int a1]) (rest := []) C (c_X7_isScent g l a1 M rfl) yo_X7_isScent kw_1054 (sk_recv (ci := 7) C hM rfl rfl) (by decide) hM hS hl.1 rfl rfl (Nat.le_of_ble_eq_true rfl) dX7_told_2) hS (fun H locs hM hS => ?_)
  refine lv_if_eq hx hb dX7_told_5 rfl (fun hc => ?_) (fun hc => ?_)
  · have h := sk_pos h hc
    refine lv_ldc (v := (-1000000001)) hx hb hown (hts _ kw_1044) dX7_told_20 ?_
    exact sk_iret C hM hS ⟨Option.some.inj h, rfl⟩ dX7_told_22
  · have h := sk_neg h hc
    refine lv_iload_n hx hb dX7_told_8 rfl (lv_at hl 2 rfl) ?_
    refine lv_i2l (v := a2.toInt64) hx hb dX7_told_9 rfl ?_
    refine lv_lconst (v := 0) hx hb dX7_told_10 (by decide) ?_
    refine lv_ldc2 (v := 3) hx hb hown (hts _ kw_1058) dX7_told_11 ?_
    refine sk_contI (sk_runS (As := [.long (a2.toInt64), .long 0, .long 3]) (rest := []) C (c_X7_isIn g l (a2.toInt64) 0 3 M rfl) yo_X7_isIn kw_1040 (by decide) hM hS hl.1 rfl rfl (Nat.le_of_ble_eq_true rfl) dX7_told_14) hS (fun H locs hM hS => ?_)
    refine lv_if_ne hx hb dX7_told_17 rfl (fun hc => ?_) (fun hc => ?_)
    · have h := sk_neg h hc
      refine lv_iload_n hx hb dX7_told_23 rfl (lv_at hl 2 rfl) ?_
      refine lv_iconst (v := 2) hx hb dX7_told_24 (by decide) ?_
      refine lv_icmp_ge hx hb dX7_told_25 rfl (fun hc => ?_) (fun hc => ?_)
      · have h := sk_pos h hc
        refine lv_iload_n hx hb dX7_told_37 rfl (lv_at hl 2 rfl) ?_
        refine lv_iconst (v := 2) hx hb dX7_told_38 (by decide) ?_
        refine lv_icmp_ne hx hb dX7_told_39 rfl (fun hc => ?_) (fun hc => ?_)
        · have h := sk_neg h hc
          refine lv_aload_n hx hb dX7_told_50 rfl (lv_at hl 0 rfl) ?_
          refine lv_iload_n hx hb dX7_told_51 rfl (lv_at hl 1 rfl) ?_
          refine lv_iconst (v := 2) hx hb dX7_told_52 (by decide) ?_
          obtain ⟨x_3, h_4, h⟩ := sk_b1E h
          refine sk_contI (sk_runV (As := [.int a1, .int 2]) (rest := []) C (c_X7_of g l a1 2 M h_4) yo_X7_of kw_1059 (sk_recv (ci := 7) C hM rfl rfl) (by decide) hM hS hl.1 rfl rfl (Nat.le_of_ble_eq_true rfl) dX7_told_53) hS (fun H locs hM hS => ?_)
          exact sk_iret C hM hS ⟨Option.some.inj h, rfl⟩ dX7_told_56
        · have h := sk_pos h hc
          refine lv_aload_n hx hb dX7_told_42 rfl (lv_at hl 0 rfl) ?_
          refine lv_iload_n hx hb dX7_told_43 rfl (lv_at hl 1 rfl) ?_
          obtain ⟨x_5, h_6, h⟩ := sk_b1E h
          refine sk_contI (sk_runV (As := [.int a1]) (rest := []) C (c_X7_worth g l a1 M h_6) yo_X7_worth kw_1063 (sk_recv (ci := 7) C hM rfl rfl) (by decide) hM hS hl.1 rfl rfl (Nat.le_of_ble_eq_true rfl) dX7_told_44) hS (fun H locs hM hS => ?_)
          refine lv_goto hx hb dX7_told_47 rfl ?_
          exact sk_iret C hM hS ⟨Option.some.inj h, rfl⟩ dX7_told_56
      · have h := sk_neg h hc
        refine lv_aload_n hx hb dX7_told_28 rfl (lv_at hl 0 rfl) ?_
        refine lv_iload_n hx hb dX7_told_29 rfl (lv_at hl 1 rfl) ?_
        refine lv_iload_n hx hb dX7_told_30 rfl (lv_at hl 2 rfl) ?_
        obtain ⟨x_7, h_8, h⟩ := sk_b1E h
        refine sk_contI (sk_runV (As := [.int a1, .int a2]) (rest := []) C (c_X7_of g l a1 a2 M h_8) yo_X7_of kw_1059 (sk_recv (ci := 7) C hM rfl rfl) (by decide) hM hS hl.1 rfl rfl (Nat.le_of_ble_eq_true rfl) dX7_told_31) hS (fun H locs hM hS => ?_)
        refine lv_goto hx hb dX7_told_34 rfl ?_
        exact sk_iret C hM hS ⟨Option.some.inj h, rfl⟩ dX7_told_56
    · have h := sk_pos h hc
      refine lv_ldc (v := (-1000000001)) hx hb hown (hts _ kw_1044) dX7_told_20 ?_
      exact sk_iret C hM hS ⟨Option.some.inj h, rfl⟩ dX7_told_22
theorem dX7_isOf_0 : decode cX7_isOf 0 = .ok (.iload_n 0, 1) := by decide +kernel
theorem dX7_isOf_1 : decode cX7_isOf 1 = .ok (.iload_n 1, 1) := by decide +kernel
theorem dX7_isOf_2 : decode cX7_isOf 2 = .ok (.if_icmp .eq 27, 3) := by decide +kernel
theorem dX7_isOf_5 : decode cX7_isOf 5 = .ok (.iload_n 1, 1) := by decide +kernel
theorem dX7_isOf_6 : decode cX7_isOf 6 = .ok (.ifCond .eq 23, 3) := by decide +kernel
theorem dX7_isOf_9 : decode cX7_isOf 9 = .ok (.iload_n 1, 1) := by decide +kernel
theorem dX7_isOf_10 : decode cX7_isOf 10 = .ok (.iconst 1, 1) := by decide +kernel
theorem dX7_isOf_11 : decode cX7_isOf 11 = .ok (.if_icmp .ne 8, 3) := by decide +kernel
theorem dX7_isOf_14 : decode cX7_isOf 14 = .ok (.iload_n 0, 1) := by decide +kernel
theorem dX7_isOf_15 : decode cX7_isOf 15 = .ok (.iconst 3, 1) := by decide +kernel
theorem dX7_isOf_16 : decode cX7_isOf 16 = .ok (.if_icmp .eq 13, 3) := by decide +kernel
theorem dX7_isOf_19 : decode cX7_isOf 19 = .ok (.iload_n 1, 1) := by decide +kernel
theorem dX7_isOf_20 : decode cX7_isOf 20 = .ok (.iconst 2, 1) := by decide +kernel
theorem dX7_isOf_21 : decode cX7_isOf 21 = .ok (.if_icmp .ne 12, 3) := by decide +kernel
theorem dX7_isOf_24 : decode cX7_isOf 24 = .ok (.iload_n 0, 1) := by decide +kernel
theorem dX7_isOf_25 : decode cX7_isOf 25 = .ok (.iconst 4, 1) := by decide +kernel
theorem dX7_isOf_26 : decode cX7_isOf 26 = .ok (.if_icmp .ne 7, 3) := by decide +kernel
theorem dX7_isOf_29 : decode cX7_isOf 29 = .ok (.iconst 1, 1) := by decide +kernel
theorem dX7_isOf_30 : decode cX7_isOf 30 = .ok (.goto 4, 3) := by decide +kernel
theorem dX7_isOf_33 : decode cX7_isOf 33 = .ok (.iconst 0, 1) := by decide +kernel
theorem dX7_isOf_34 : decode cX7_isOf 34 = .ok (.ireturn, 1) := by decide +kernel
set_option maxHeartbeats 4000000 in
set_option maxRecDepth 100000 in
theorem c_X7_isOf (g : sk_G) (l : Launch) (a0 : Int32) (a1 : Int32) (M : sk_M) {rr : Int32} (h : f_X7_isOf a0 a1 = rr) : sk_MI g l yX7_isOf cX7_isOf 2 (some .boolean) 1 [.int a0, .int a1] M rr M := by
  refine sk_go [(0, .int a0), (1, .int a1)] (by decide) (Nat.le_of_ble_eq_true rfl) rfl ?_
  intro p e s m av below meth c C ls hl hM hS
  obtain ⟨hx, hb, hml, hown, hts, hK, hE, hr, hlocks⟩ := id C
  rw [f_X7_isOf] at h
  refine lv_iload_n hx hb dX7_isOf_0 rfl (lv_at hl 0 rfl) ?_
  refine lv_iload_n hx hb dX7_isOf_1 rfl (lv_at hl 1 rfl) ?_
  refine lv_icmp_eq hx hb dX7_isOf_2 rfl (fun hc => ?_) (fun hc => ?_)
  · have h := sk_pos h hc
    refine lv_iconst (v := 1) hx hb dX7_isOf_29 (by decide) ?_
    refine lv_goto hx hb dX7_isOf_30 rfl ?_
    exact sk_zret C hM hS (sk_nz (Or.inr rfl)) ⟨h, rfl⟩ dX7_isOf_34
  · have h := sk_neg h hc
    refine lv_iload_n hx hb dX7_isOf_5 rfl (lv_at hl 1 rfl) ?_
    refine lv_if_eq hx hb dX7_isOf_6 rfl (fun hc => ?_) (fun hc => ?_)
    · have h := sk_pos h hc
      refine lv_iconst (v := 1) hx hb dX7_isOf_29 (by decide) ?_
      refine lv_goto hx hb dX7_isOf_30 rfl ?_
      exact sk_zret C hM hS (sk_nz (Or.inr rfl)) ⟨h, rfl⟩ dX7_isOf_34
    · have h := sk_neg h hc
      refine lv_iload_n hx hb dX7_isOf_9 rfl (lv_at hl 1 rfl) ?_
      refine lv_iconst (v := 1) hx hb dX7_isOf_10 (by decide) ?_
      refine lv_icmp_ne hx hb dX7_isOf_11 rfl (fun hc => ?_) (fun hc => ?_)
      · have h := sk_neg h hc
        refine lv_iload_n hx hb dX7_isOf_19 rfl (lv_at hl 1 rfl) ?_
        refine lv_iconst (v := 2) hx hb dX7_isOf_20 (by decide) ?_
        have J : ∀ (vv : Int32) (H : Heap) (locs : List Loc), (if a1 = 2 then (if a0 = 4 then 1 else 0 : Int32) else 0 : Int32) = vv → sk_P g M H → va_S (sk_A g) s.heap H locs → W p l e (sk_rm 1) s m av below meth c H locs 0 0 (MQ below (sk_QI g rr M) av s 0 0 (sk_A g)) (F0 m 34 ls [.int vv]) := by
          intro vv H locs hvv hM hS
          subst hvv
          exact sk_zret C hM hS (sk_nz (sk_zi (sk_zi (Or.inr rfl) (Or.inl rfl)) (Or.inl rfl))) ⟨h, rfl⟩ dX7_isOf_34
        refine lv_icmp_ne hx hb dX7_isOf_21 rfl (fun hc => ?_) (fun hc => ?_)
        · have J := fun vv H locs q => J vv H locs ((if_neg hc).trans q)
          refine lv_iconst (v := 0) hx hb dX7_isOf_33 (by decide) ?_
          exact J _ _ _ rfl hM hS
        · have J := fun vv H locs q => J vv H locs ((if_pos hc).trans q)
          refine lv_iload_n hx hb dX7_isOf_24 rfl (lv_at hl 0 rfl) ?_
          refine lv_iconst (v := 4) hx hb dX7_isOf_25 (by decide) ?_
          refine lv_icmp_ne hx hb dX7_isOf_26 rfl (fun hc => ?_) (fun hc => ?_)
          · have J := fun vv H locs q => J vv H locs ((if_neg hc).trans q)
            refine lv_iconst (v := 0) hx hb dX7_isOf_33 (by decide) ?_
            exact J _ _ _ rfl hM hS
          · have J := fun vv H locs q => J vv H locs ((if_pos hc).trans q)
            refine lv_iconst (v := 1) hx hb dX7_isOf_29 (by decide) ?_
            refine lv_goto hx hb dX7_isOf_30 rfl ?_
            exact J _ _ _ rfl hM hS
      · have h := sk_pos h hc
        refine lv_iload_n hx hb dX7_isOf_14 rfl (lv_at hl 0 rfl) ?_
        refine lv_iconst (v := 3) hx hb dX7_isOf_15 (by decide) ?_
        refine lv_icmp_eq hx hb dX7_isOf_16 rfl (fun hc => ?_) (fun hc => ?_)
        · have h := sk_pos h hc
          refine lv_iconst (v := 1) hx hb dX7_isOf_29 (by decide) ?_
          refine lv_goto hx hb dX7_isOf_30 rfl ?_
          exact sk_zret C hM hS (sk_nz (Or.inr rfl)) ⟨h, rfl⟩ dX7_isOf_34
        · have h := sk_neg h hc
          refine lv_iload_n hx hb dX7_isOf_19 rfl (lv_at hl 1 rfl) ?_
          refine lv_iconst (v := 2) hx hb dX7_isOf_20 (by decide) ?_
          have J : ∀ (vv : Int32) (H : Heap) (locs : List Loc), (if a1 = 2 then (if a0 = 4 then 1 else 0 : Int32) else 0 : Int32) = vv → sk_P g M H → va_S (sk_A g) s.heap H locs → W p l e (sk_rm 1) s m av below meth c H locs 0 0 (MQ below (sk_QI g rr M) av s 0 0 (sk_A g)) (F0 m 34 ls [.int vv]) := by
            intro vv H locs hvv hM hS
            subst hvv
            exact sk_zret C hM hS (sk_nz (sk_zi (sk_zi (Or.inr rfl) (Or.inl rfl)) (Or.inl rfl))) ⟨h, rfl⟩ dX7_isOf_34
          refine lv_icmp_ne hx hb dX7_isOf_21 rfl (fun hc => ?_) (fun hc => ?_)
          · have J := fun vv H locs q => J vv H locs ((if_neg hc).trans q)
            refine lv_iconst (v := 0) hx hb dX7_isOf_33 (by decide) ?_
            exact J _ _ _ rfl hM hS
          · have J := fun vv H locs q => J vv H locs ((if_pos hc).trans q)
            refine lv_iload_n hx hb dX7_isOf_24 rfl (lv_at hl 0 rfl) ?_
            refine lv_iconst (v := 4) hx hb dX7_isOf_25 (by decide) ?_
            refine lv_icmp_ne hx hb dX7_isOf_26 rfl (fun hc => ?_) (fun hc => ?_)
            · have J := fun vv H locs q => J vv H locs ((if_neg hc).trans q)
              refine lv_iconst (v := 0) hx hb dX7_isOf_33 (by decide) ?_
              exact J _ _ _ rfl hM hS
            · have J := fun vv H locs q => J vv H locs ((if_pos hc).trans q)
              refine lv_iconst (v := 1) hx hb dX7_isOf_29 (by decide) ?_
              refine lv_goto hx hb dX7_isOf_30 rfl ?_
              exact J _ _ _ rfl hM hS
theorem dX7_as_0 : decode cX7_as 0 = .ok (.aload_n 0, 1) := by decide +kernel
theorem dX7_as_1 : decode cX7_as 1 = .ok (.iload_n 1, 1) := by decide +kernel
theorem dX7_as_2 : decode cX7_as 2 = .ok (.invokevirtual 107, 3) := by decide +kernel
theorem dX7_as_5 : decode cX7_as 5 = .ok (.ifCond .eq 15, 3) := by decide +kernel
theorem dX7_as_8 : decode cX7_as 8 = .ok (.iload_n 2, 1) := by decide +kernel
theorem dX7_as_9 : decode cX7_as 9 = .ok (.i2l, 1) := by decide +kernel
theorem dX7_as_10 : decode cX7_as 10 = .ok (.lconst 0, 1) := by decide +kernel
theorem dX7_as_11 : decode cX7_as 11 = .ok (.ldc2_w 76, 3) := by decide +kernel
theorem dX7_as_14 : decode cX7_as 14 = .ok (.invokestatic 71, 3) := by decide +kernel
theorem dX7_as_17 : decode cX7_as 17 = .ok (.ifCond .ne 6, 3) := by decide +kernel
theorem dX7_as_20 : decode cX7_as 20 = .ok (.ldc 80, 2) := by decide +kernel
theorem dX7_as_22 : decode cX7_as 22 = .ok (.ireturn, 1) := by decide +kernel
theorem dX7_as_23 : decode cX7_as 23 = .ok (.aload_n 0, 1) := by decide +kernel
theorem dX7_as_24 : decode cX7_as 24 = .ok (.iload_n 1, 1) := by decide +kernel
theorem dX7_as_25 : decode cX7_as 25 = .ok (.iconst 0, 1) := by decide +kernel
theorem dX7_as_26 : decode cX7_as 26 = .ok (.invokevirtual 86, 3) := by decide +kernel
theorem dX7_as_29 : decode cX7_as 29 = .ok (.iload_n 2, 1) := by decide +kernel
theorem dX7_as_30 : decode cX7_as 30 = .ok (.invokestatic 116, 3) := by decide +kernel
theorem dX7_as_33 : decode cX7_as 33 = .ok (.ifCond .eq 12, 3) := by decide +kernel
theorem dX7_as_36 : decode cX7_as 36 = .ok (.aload_n 0, 1) := by decide +kernel
theorem dX7_as_37 : decode cX7_as 37 = .ok (.iload_n 1, 1) := by decide +kernel
theorem dX7_as_38 : decode cX7_as 38 = .ok (.iconst 1, 1) := by decide +kernel
theorem dX7_as_39 : decode cX7_as 39 = .ok (.invokevirtual 86, 3) := by decide +kernel
theorem dX7_as_42 : decode cX7_as 42 = .ok (.goto 5, 3) := by decide +kernel
theorem dX7_as_45 : decode cX7_as 45 = .ok (.ldc 120, 2) := by decide +kernel
theorem dX7_as_47 : decode cX7_as 47 = .ok (.ireturn, 1) := by decide +kernel
set_option maxHeartbeats 4000000 in
set_option maxRecDepth 100000 in
theorem c_X7_as (g : sk_G) (l : Launch) (a1 : Int32) (a2 : Int32) (M : sk_M) {rr : Int32} (h : f_X7_as a1 a2 M = some rr) : sk_MI g l yX7_as cX7_as 3 (some .int) 3 [.ref (sk_ad g 88), .int a1, .int a2] M rr M := by
  refine sk_go [(0, .ref (sk_ad g 88)), (1, .int a1), (2, .int a2)] (by decide) (Nat.le_of_ble_eq_true rfl) rfl ?_
  intro p e s m av below meth c C ls hl hM hS
  obtain ⟨hx, hb, hml, hown, hts, hK, hE, hr, hlocks⟩ := id C
  rw [f_X7_as] at h
  refine lv_aload_n hx hb dX7_as_0 rfl (lv_at hl 0 rfl) ?_
  refine lv_iload_n hx hb dX7_as_1 rfl (lv_at hl 1 rfl) ?_
  refine sk_contI (sk_runV (As := [.int a1]) (rest := []) C (c_X7_isScent g l a1 M rfl) yo_X7_isScent kw_1054 (sk_recv (ci := 7) C hM rfl rfl) (by decide) hM hS hl.1 rfl rfl (Nat.le_of_ble_eq_true rfl) dX7_as_2) hS (fun H locs hM hS => ?_)
  refine lv_if_eq hx hb dX7_as_5 rfl (fun hc => ?_) (fun hc => ?_)
  · have h := sk_pos h hc
    refine lv_ldc (v := (-1000000001)) hx hb hown (hts _ kw_1044) dX7_as_20 ?_
    exact sk_iret C hM hS ⟨Option.some.inj h, rfl⟩ dX7_as_22
  · have h := sk_neg h hc
    refine lv_iload_n hx hb dX7_as_8 rfl (lv_at hl 2 rfl) ?_
    refine lv_i2l (v := a2.toInt64) hx hb dX7_as_9 rfl ?_
    refine lv_lconst (v := 0) hx hb dX7_as_10 (by decide) ?_
    refine lv_ldc2 (v := 5) hx hb hown (hts _ kw_1039) dX7_as_11 ?_
    refine sk_contI (sk_runS (As := [.long (a2.toInt64), .long 0, .long 5]) (rest := []) C (c_X7_isIn g l (a2.toInt64) 0 5 M rfl) yo_X7_isIn kw_1040 (by decide) hM hS hl.1 rfl rfl (Nat.le_of_ble_eq_true rfl) dX7_as_14) hS (fun H locs hM hS => ?_)
    refine lv_if_ne hx hb dX7_as_17 rfl (fun hc => ?_) (fun hc => ?_)
    · have h := sk_neg h hc
      refine lv_aload_n hx hb dX7_as_23 rfl (lv_at hl 0 rfl) ?_
      refine lv_iload_n hx hb dX7_as_24 rfl (lv_at hl 1 rfl) ?_
      refine lv_iconst (v := 0) hx hb dX7_as_25 (by decide) ?_
      obtain ⟨x_3, h_4, h⟩ := sk_b1E h
      refine sk_contI (sk_runV (As := [.int a1, .int 0]) (rest := []) C (c_X7_of g l a1 0 M h_4) yo_X7_of kw_1059 (sk_recv (ci := 7) C hM rfl rfl) (by decide) hM hS hl.1 rfl rfl (Nat.le_of_ble_eq_true rfl) dX7_as_26) hS (fun H locs hM hS => ?_)
      refine lv_iload_n hx hb dX7_as_29 rfl (lv_at hl 2 rfl) ?_
      refine sk_contI (sk_runS (As := [.int x_3, .int a2]) (rest := []) C (c_X7_isOf g l x_3 a2 M rfl) yo_X7_isOf kw_1071 (by decide) hM hS hl.1 rfl rfl (Nat.le_of_ble_eq_true rfl) dX7_as_30) hS (fun H locs hM hS => ?_)
      refine lv_if_eq hx hb dX7_as_33 rfl (fun hc => ?_) (fun hc => ?_)
      · have h := sk_pos h hc
        refine lv_ldc (v := (-1000000012)) hx hb hown (hts _ kw_1074) dX7_as_45 ?_
        exact sk_iret C hM hS ⟨Option.some.inj h, rfl⟩ dX7_as_47
      · have h := sk_neg h hc
        refine lv_aload_n hx hb dX7_as_36 rfl (lv_at hl 0 rfl) ?_
        refine lv_iload_n hx hb dX7_as_37 rfl (lv_at hl 1 rfl) ?_
        refine lv_iconst (v := 1) hx hb dX7_as_38 (by decide) ?_
        obtain ⟨x_6, h_7, h⟩ := sk_b1E h
        refine sk_contI (sk_runV (As := [.int a1, .int 1]) (rest := []) C (c_X7_of g l a1 1 M h_7) yo_X7_of kw_1059 (sk_recv (ci := 7) C hM rfl rfl) (by decide) hM hS hl.1 rfl rfl (Nat.le_of_ble_eq_true rfl) dX7_as_39) hS (fun H locs hM hS => ?_)
        refine lv_goto hx hb dX7_as_42 rfl ?_
        exact sk_iret C hM hS ⟨Option.some.inj h, rfl⟩ dX7_as_47
    · have h := sk_pos h hc
      refine lv_ldc (v := (-1000000001)) hx hb hown (hts _ kw_1044) dX7_as_20 ?_
      exact sk_iret C hM hS ⟨Option.some.inj h, rfl⟩ dX7_as_22
theorem dX7_turns_0 : decode cX7_turns 0 = .ok (.aload_n 0, 1) := by decide +kernel
theorem dX7_turns_1 : decode cX7_turns 1 = .ok (.iload_n 1, 1) := by decide +kernel
theorem dX7_turns_2 : decode cX7_turns 2 = .ok (.invokevirtual 107, 3) := by decide +kernel
theorem dX7_turns_5 : decode cX7_turns 5 = .ok (.ifCond .eq 29, 3) := by decide +kernel
theorem dX7_turns_8 : decode cX7_turns 8 = .ok (.iload_n 2, 1) := by decide +kernel
theorem dX7_turns_9 : decode cX7_turns 9 = .ok (.i2l, 1) := by decide +kernel
theorem dX7_turns_10 : decode cX7_turns 10 = .ok (.lconst 0, 1) := by decide +kernel
theorem dX7_turns_11 : decode cX7_turns 11 = .ok (.ldc2_w 76, 3) := by decide +kernel
theorem dX7_turns_14 : decode cX7_turns 14 = .ok (.invokestatic 71, 3) := by decide +kernel
theorem dX7_turns_17 : decode cX7_turns 17 = .ok (.ifCond .eq 17, 3) := by decide +kernel
theorem dX7_turns_20 : decode cX7_turns 20 = .ok (.aload_n 0, 1) := by decide +kernel
theorem dX7_turns_21 : decode cX7_turns 21 = .ok (.bipush 10, 2) := by decide +kernel
theorem dX7_turns_23 : decode cX7_turns 23 = .ok (.iconst 3, 1) := by decide +kernel
theorem dX7_turns_24 : decode cX7_turns 24 = .ok (.iload_n 1, 1) := by decide +kernel
theorem dX7_turns_25 : decode cX7_turns 25 = .ok (.imul, 1) := by decide +kernel
theorem dX7_turns_26 : decode cX7_turns 26 = .ok (.iadd, 1) := by decide +kernel
theorem dX7_turns_27 : decode cX7_turns 27 = .ok (.iload_n 2, 1) := by decide +kernel
theorem dX7_turns_28 : decode cX7_turns 28 = .ok (.invokevirtual 121, 3) := by decide +kernel
theorem dX7_turns_31 : decode cX7_turns 31 = .ok (.goto 5, 3) := by decide +kernel
theorem dX7_turns_34 : decode cX7_turns 34 = .ok (.ldc 80, 2) := by decide +kernel
theorem dX7_turns_36 : decode cX7_turns 36 = .ok (.ireturn, 1) := by decide +kernel
set_option maxHeartbeats 4000000 in
set_option maxRecDepth 100000 in
theorem c_X7_turns (g : sk_G) (l : Launch) (a1 : Int32) (a2 : Int32) (M : sk_M) {rr : Int32} {MM : sk_M} (h : f_X7_turns a1 a2 M = some (rr, MM)) : sk_MI g l yX7_turns cX7_turns 3 (some .int) 3 [.ref (sk_ad g 88), .int a1, .int a2] M rr MM := by
  refine sk_go [(0, .ref (sk_ad g 88)), (1, .int a1), (2, .int a2)] (by decide) (Nat.le_of_ble_eq_true rfl) rfl ?_
  intro p e s m av below meth c C ls hl hM hS
  obtain ⟨hx, hb, hml, hown, hts, hK, hE, hr, hlocks⟩ := id C
  rw [f_X7_turns] at h
  refine lv_aload_n hx hb dX7_turns_0 rfl (lv_at hl 0 rfl) ?_
  refine lv_iload_n hx hb dX7_turns_1 rfl (lv_at hl 1 rfl) ?_
  refine sk_contI (sk_runV (As := [.int a1]) (rest := []) C (c_X7_isScent g l a1 M rfl) yo_X7_isScent kw_1054 (sk_recv (ci := 7) C hM rfl rfl) (by decide) hM hS hl.1 rfl rfl (Nat.le_of_ble_eq_true rfl) dX7_turns_2) hS (fun H locs hM hS => ?_)
  refine lv_if_eq hx hb dX7_turns_5 rfl (fun hc => ?_) (fun hc => ?_)
  · have h := sk_pos h hc
    refine lv_ldc (v := (-1000000001)) hx hb hown (hts _ kw_1044) dX7_turns_34 ?_
    exact sk_iret C hM hS (sk_e2 h) dX7_turns_36
  · have h := sk_neg h hc
    refine lv_iload_n hx hb dX7_turns_8 rfl (lv_at hl 2 rfl) ?_
    refine lv_i2l (v := a2.toInt64) hx hb dX7_turns_9 rfl ?_
    refine lv_lconst (v := 0) hx hb dX7_turns_10 (by decide) ?_
    refine lv_ldc2 (v := 5) hx hb hown (hts _ kw_1039) dX7_turns_11 ?_
    refine sk_contI (sk_runS (As := [.long (a2.toInt64), .long 0, .long 5]) (rest := []) C (c_X7_isIn g l (a2.toInt64) 0 5 M rfl) yo_X7_isIn kw_1040 (by decide) hM hS hl.1 rfl rfl (Nat.le_of_ble_eq_true rfl) dX7_turns_14) hS (fun H locs hM hS => ?_)
    refine lv_if_eq hx hb dX7_turns_17 rfl (fun hc => ?_) (fun hc => ?_)
    · have h := sk_pos h hc
      refine lv_ldc (v := (-1000000001)) hx hb hown (hts _ kw_1044) dX7_turns_34 ?_
      exact sk_iret C hM hS (sk_e2 h) dX7_turns_36
    · have h := sk_neg h hc
      refine lv_aload_n hx hb dX7_turns_20 rfl (lv_at hl 0 rfl) ?_
      refine lv_bipush (v := 10) hx hb dX7_turns_21 (by decide) ?_
      refine lv_iconst (v := 3) hx hb dX7_turns_23 (by decide) ?_
      refine lv_iload_n hx hb dX7_turns_24 rfl (lv_at hl 1 rfl) ?_
      refine lv_imul hx hb dX7_turns_25 ?_
      refine lv_iadd hx hb dX7_turns_26 ?_
      refine lv_iload_n hx hb dX7_turns_27 rfl (lv_at hl 2 rfl) ?_
      obtain ⟨x_3, M_4, h_5, h⟩ := sk_b2E h
      refine sk_contI (sk_runV (As := [.int (10 + (3 * a1)), .int a2]) (rest := []) C (c_X7_becomes g l (10 + (3 * a1)) a2 M h_5) yo_X7_becomes kw_1079 (sk_recv (ci := 7) C hM rfl rfl) (by decide) hM hS hl.1 rfl rfl (Nat.le_of_ble_eq_true rfl) dX7_turns_28) hS (fun H locs hM hS => ?_)
      refine lv_goto hx hb dX7_turns_31 rfl ?_
      exact sk_iret C hM hS (sk_e2 h) dX7_turns_36
theorem dX7_pace_0 : decode cX7_pace 0 = .ok (.aload_n 0, 1) := by decide +kernel
theorem dX7_pace_1 : decode cX7_pace 1 = .ok (.iload_n 1, 1) := by decide +kernel
theorem dX7_pace_2 : decode cX7_pace 2 = .ok (.invokevirtual 107, 3) := by decide +kernel
theorem dX7_pace_5 : decode cX7_pace 5 = .ok (.ifCond .eq 31, 3) := by decide +kernel
theorem dX7_pace_8 : decode cX7_pace 8 = .ok (.iload_n 2, 1) := by decide +kernel
theorem dX7_pace_9 : decode cX7_pace 9 = .ok (.i2l, 1) := by decide +kernel
theorem dX7_pace_10 : decode cX7_pace 10 = .ok (.lconst 0, 1) := by decide +kernel
theorem dX7_pace_11 : decode cX7_pace 11 = .ok (.ldc2_w 78, 3) := by decide +kernel
theorem dX7_pace_14 : decode cX7_pace 14 = .ok (.invokestatic 71, 3) := by decide +kernel
theorem dX7_pace_17 : decode cX7_pace 17 = .ok (.ifCond .eq 19, 3) := by decide +kernel
theorem dX7_pace_20 : decode cX7_pace 20 = .ok (.aload_n 0, 1) := by decide +kernel
theorem dX7_pace_21 : decode cX7_pace 21 = .ok (.bipush 10, 2) := by decide +kernel
theorem dX7_pace_23 : decode cX7_pace 23 = .ok (.iconst 3, 1) := by decide +kernel
theorem dX7_pace_24 : decode cX7_pace 24 = .ok (.iload_n 1, 1) := by decide +kernel
theorem dX7_pace_25 : decode cX7_pace 25 = .ok (.imul, 1) := by decide +kernel
theorem dX7_pace_26 : decode cX7_pace 26 = .ok (.iadd, 1) := by decide +kernel
theorem dX7_pace_27 : decode cX7_pace 27 = .ok (.iconst 1, 1) := by decide +kernel
theorem dX7_pace_28 : decode cX7_pace 28 = .ok (.iadd, 1) := by decide +kernel
theorem dX7_pace_29 : decode cX7_pace 29 = .ok (.iload_n 2, 1) := by decide +kernel
theorem dX7_pace_30 : decode cX7_pace 30 = .ok (.invokevirtual 121, 3) := by decide +kernel
theorem dX7_pace_33 : decode cX7_pace 33 = .ok (.goto 5, 3) := by decide +kernel
theorem dX7_pace_36 : decode cX7_pace 36 = .ok (.ldc 80, 2) := by decide +kernel
theorem dX7_pace_38 : decode cX7_pace 38 = .ok (.ireturn, 1) := by decide +kernel
set_option maxHeartbeats 4000000 in
set_option maxRecDepth 100000 in
theorem c_X7_pace (g : sk_G) (l : Launch) (a1 : Int32) (a2 : Int32) (M : sk_M) {rr : Int32} {MM : sk_M} (h : f_X7_pace a1 a2 M = some (rr, MM)) : sk_MI g l yX7_pace cX7_pace 3 (some .int) 3 [.ref (sk_ad g 88), .int a1, .int a2] M rr MM := by
  refine sk_go [(0, .ref (sk_ad g 88)), (1, .int a1), (2, .int a2)] (by decide) (Nat.le_of_ble_eq_true rfl) rfl ?_
  intro p e s m av below meth c C ls hl hM hS
  obtain ⟨hx, hb, hml, hown, hts, hK, hE, hr, hlocks⟩ := id C
  rw [f_X7_pace] at h
  refine lv_aload_n hx hb dX7_pace_0 rfl (lv_at hl 0 rfl) ?_
  refine lv_iload_n hx hb dX7_pace_1 rfl (lv_at hl 1 rfl) ?_
  refine sk_contI (sk_runV (As := [.int a1]) (rest := []) C (c_X7_isScent g l a1 M rfl) yo_X7_isScent kw_1054 (sk_recv (ci := 7) C hM rfl rfl) (by decide) hM hS hl.1 rfl rfl (Nat.le_of_ble_eq_true rfl) dX7_pace_2) hS (fun H locs hM hS => ?_)
  refine lv_if_eq hx hb dX7_pace_5 rfl (fun hc => ?_) (fun hc => ?_)
  · have h := sk_pos h hc
    refine lv_ldc (v := (-1000000001)) hx hb hown (hts _ kw_1044) dX7_pace_36 ?_
    exact sk_iret C hM hS (sk_e2 h) dX7_pace_38
  · have h := sk_neg h hc
    refine lv_iload_n hx hb dX7_pace_8 rfl (lv_at hl 2 rfl) ?_
    refine lv_i2l (v := a2.toInt64) hx hb dX7_pace_9 rfl ?_
    refine lv_lconst (v := 0) hx hb dX7_pace_10 (by decide) ?_
    refine lv_ldc2 (v := 50) hx hb hown (hts _ kw_1043) dX7_pace_11 ?_
    refine sk_contI (sk_runS (As := [.long (a2.toInt64), .long 0, .long 50]) (rest := []) C (c_X7_isIn g l (a2.toInt64) 0 50 M rfl) yo_X7_isIn kw_1040 (by decide) hM hS hl.1 rfl rfl (Nat.le_of_ble_eq_true rfl) dX7_pace_14) hS (fun H locs hM hS => ?_)
    refine lv_if_eq hx hb dX7_pace_17 rfl (fun hc => ?_) (fun hc => ?_)
    · have h := sk_pos h hc
      refine lv_ldc (v := (-1000000001)) hx hb hown (hts _ kw_1044) dX7_pace_36 ?_
      exact sk_iret C hM hS (sk_e2 h) dX7_pace_38
    · have h := sk_neg h hc
      refine lv_aload_n hx hb dX7_pace_20 rfl (lv_at hl 0 rfl) ?_
      refine lv_bipush (v := 10) hx hb dX7_pace_21 (by decide) ?_
      refine lv_iconst (v := 3) hx hb dX7_pace_23 (by decide) ?_
      refine lv_iload_n hx hb dX7_pace_24 rfl (lv_at hl 1 rfl) ?_
      refine lv_imul hx hb dX7_pace_25 ?_
      refine lv_iadd hx hb dX7_pace_26 ?_
      refine lv_iconst (v := 1) hx hb dX7_pace_27 (by decide) ?_
      refine lv_iadd hx hb dX7_pace_28 ?_
      refine lv_iload_n hx hb dX7_pace_29 rfl (lv_at hl 2 rfl) ?_
      obtain ⟨x_3, M_4, h_5, h⟩ := sk_b2E h
      refine sk_contI (sk_runV (As := [.int ((10 + (3 * a1)) + 1), .int a2]) (rest := []) C (c_X7_becomes g l ((10 + (3 * a1)) + 1) a2 M h_5) yo_X7_becomes kw_1079 (sk_recv (ci := 7) C hM rfl rfl) (by decide) hM hS hl.1 rfl rfl (Nat.le_of_ble_eq_true rfl) dX7_pace_30) hS (fun H locs hM hS => ?_)
      refine lv_goto hx hb dX7_pace_33 rfl ?_
      exact sk_iret C hM hS (sk_e2 h) dX7_pace_38
theorem dX7_hide_0 : decode cX7_hide 0 = .ok (.aload_n 0, 1) := by decide +kernel
theorem dX7_hide_1 : decode cX7_hide 1 = .ok (.iload_n 1, 1) := by decide +kernel
theorem dX7_hide_2 : decode cX7_hide 2 = .ok (.invokevirtual 107, 3) := by decide +kernel
theorem dX7_hide_5 : decode cX7_hide 5 = .ok (.ifCond .eq 26, 3) := by decide +kernel
theorem dX7_hide_8 : decode cX7_hide 8 = .ok (.aload_n 0, 1) := by decide +kernel
theorem dX7_hide_9 : decode cX7_hide 9 = .ok (.iload_n 2, 1) := by decide +kernel
theorem dX7_hide_10 : decode cX7_hide 10 = .ok (.invokevirtual 107, 3) := by decide +kernel
theorem dX7_hide_13 : decode cX7_hide 13 = .ok (.ifCond .eq 18, 3) := by decide +kernel
theorem dX7_hide_16 : decode cX7_hide 16 = .ok (.iload_n 1, 1) := by decide +kernel
theorem dX7_hide_17 : decode cX7_hide 17 = .ok (.iload_n 2, 1) := by decide +kernel
theorem dX7_hide_18 : decode cX7_hide 18 = .ok (.if_icmp .eq 13, 3) := by decide +kernel
theorem dX7_hide_21 : decode cX7_hide 21 = .ok (.iload_n 3, 1) := by decide +kernel
theorem dX7_hide_22 : decode cX7_hide 22 = .ok (.i2l, 1) := by decide +kernel
theorem dX7_hide_23 : decode cX7_hide 23 = .ok (.lconst 0, 1) := by decide +kernel
theorem dX7_hide_24 : decode cX7_hide 24 = .ok (.lconst 1, 1) := by decide +kernel
theorem dX7_hide_25 : decode cX7_hide 25 = .ok (.invokestatic 71, 3) := by decide +kernel
theorem dX7_hide_28 : decode cX7_hide 28 = .ok (.ifCond .ne 6, 3) := by decide +kernel
theorem dX7_hide_31 : decode cX7_hide 31 = .ok (.ldc 80, 2) := by decide +kernel
theorem dX7_hide_33 : decode cX7_hide 33 = .ok (.ireturn, 1) := by decide +kernel
theorem dX7_hide_34 : decode cX7_hide 34 = .ok (.bipush 10, 2) := by decide +kernel
theorem dX7_hide_36 : decode cX7_hide 36 = .ok (.iconst 3, 1) := by decide +kernel
theorem dX7_hide_37 : decode cX7_hide 37 = .ok (.iload_n 1, 1) := by decide +kernel
theorem dX7_hide_38 : decode cX7_hide 38 = .ok (.imul, 1) := by decide +kernel
theorem dX7_hide_39 : decode cX7_hide 39 = .ok (.iadd, 1) := by decide +kernel
theorem dX7_hide_40 : decode cX7_hide 40 = .ok (.iconst 2, 1) := by decide +kernel
theorem dX7_hide_41 : decode cX7_hide 41 = .ok (.iadd, 1) := by decide +kernel
theorem dX7_hide_42 : decode cX7_hide 42 = .ok (.istore 4, 2) := by decide +kernel
theorem dX7_hide_44 : decode cX7_hide 44 = .ok (.aload_n 0, 1) := by decide +kernel
theorem dX7_hide_45 : decode cX7_hide 45 = .ok (.getfield 7, 3) := by decide +kernel
theorem dX7_hide_48 : decode cX7_hide 48 = .ok (.iload 4, 2) := by decide +kernel
theorem dX7_hide_50 : decode cX7_hide 50 = .ok (.iaload, 1) := by decide +kernel
theorem dX7_hide_51 : decode cX7_hide 51 = .ok (.iload_n 2, 1) := by decide +kernel
theorem dX7_hide_52 : decode cX7_hide 52 = .ok (.ishr, 1) := by decide +kernel
theorem dX7_hide_53 : decode cX7_hide 53 = .ok (.iconst 1, 1) := by decide +kernel
theorem dX7_hide_54 : decode cX7_hide 54 = .ok (.iand, 1) := by decide +kernel
theorem dX7_hide_55 : decode cX7_hide 55 = .ok (.istore 5, 2) := by decide +kernel
theorem dX7_hide_57 : decode cX7_hide 57 = .ok (.aload_n 0, 1) := by decide +kernel
theorem dX7_hide_58 : decode cX7_hide 58 = .ok (.getfield 7, 3) := by decide +kernel
theorem dX7_hide_61 : decode cX7_hide 61 = .ok (.iload 4, 2) := by decide +kernel
theorem dX7_hide_63 : decode cX7_hide 63 = .ok (.aload_n 0, 1) := by decide +kernel
theorem dX7_hide_64 : decode cX7_hide 64 = .ok (.getfield 7, 3) := by decide +kernel
theorem dX7_hide_67 : decode cX7_hide 67 = .ok (.iload 4, 2) := by decide +kernel
theorem dX7_hide_69 : decode cX7_hide 69 = .ok (.iaload, 1) := by decide +kernel
theorem dX7_hide_70 : decode cX7_hide 70 = .ok (.iconst 1, 1) := by decide +kernel
theorem dX7_hide_71 : decode cX7_hide 71 = .ok (.iload_n 2, 1) := by decide +kernel
theorem dX7_hide_72 : decode cX7_hide 72 = .ok (.ishl, 1) := by decide +kernel
theorem dX7_hide_73 : decode cX7_hide 73 = .ok (.iconst (-1), 1) := by decide +kernel
theorem dX7_hide_74 : decode cX7_hide 74 = .ok (.ixor, 1) := by decide +kernel
theorem dX7_hide_75 : decode cX7_hide 75 = .ok (.iand, 1) := by decide +kernel
theorem dX7_hide_76 : decode cX7_hide 76 = .ok (.iload_n 3, 1) := by decide +kernel
theorem dX7_hide_77 : decode cX7_hide 77 = .ok (.iload_n 2, 1) := by decide +kernel
theorem dX7_hide_78 : decode cX7_hide 78 = .ok (.ishl, 1) := by decide +kernel
theorem dX7_hide_79 : decode cX7_hide 79 = .ok (.ior, 1) := by decide +kernel
theorem dX7_hide_80 : decode cX7_hide 80 = .ok (.iastore, 1) := by decide +kernel
theorem dX7_hide_81 : decode cX7_hide 81 = .ok (.iload 5, 2) := by decide +kernel
theorem dX7_hide_83 : decode cX7_hide 83 = .ok (.ireturn, 1) := by decide +kernel
set_option maxHeartbeats 4000000 in
set_option maxRecDepth 100000 in
theorem c_X7_hide (g : sk_G) (l : Launch) (a1 : Int32) (a2 : Int32) (a3 : Int32) (M : sk_M) {rr : Int32} {MM : sk_M} (h : f_X7_hide a1 a2 a3 M = some (rr, MM)) : sk_MI g l yX7_hide cX7_hide 6 (some .int) 3 [.ref (sk_ad g 88), .int a1, .int a2, .int a3] M rr MM := by
  refine sk_go [(0, .ref (sk_ad g 88)), (1, .int a1), (2, .int a2), (3, .int a3)] (by decide) (Nat.le_of_ble_eq_true rfl) rfl ?_
  intro p e s m av below meth c C ls hl hM hS
  obtain ⟨hx, hb, hml, hown, hts, hK, hE, hr, hlocks⟩ := id C
  rw [f_X7_hide] at h
  refine lv_aload_n hx hb dX7_hide_0 rfl (lv_at hl 0 rfl) ?_
  refine lv_iload_n hx hb dX7_hide_1 rfl (lv_at hl 1 rfl) ?_
  refine sk_contI (sk_runV (As := [.int a1]) (rest := []) C (c_X7_isScent g l a1 M rfl) yo_X7_isScent kw_1054 (sk_recv (ci := 7) C hM rfl rfl) (by decide) hM hS hl.1 rfl rfl (Nat.le_of_ble_eq_true rfl) dX7_hide_2) hS (fun H locs hM hS => ?_)
  refine lv_if_eq hx hb dX7_hide_5 rfl (fun hc => ?_) (fun hc => ?_)
  · have h := sk_pos h hc
    refine lv_ldc (v := (-1000000001)) hx hb hown (hts _ kw_1044) dX7_hide_31 ?_
    exact sk_iret C hM hS (sk_e2 h) dX7_hide_33
  · have h := sk_neg h hc
    refine lv_aload_n hx hb dX7_hide_8 rfl (lv_at hl 0 rfl) ?_
    refine lv_iload_n hx hb dX7_hide_9 rfl (lv_at hl 2 rfl) ?_
    refine sk_contI (sk_runV (As := [.int a2]) (rest := []) C (c_X7_isScent g l a2 M rfl) yo_X7_isScent kw_1054 (sk_recv (ci := 7) C hM rfl rfl) (by decide) hM hS hl.1 rfl rfl (Nat.le_of_ble_eq_true rfl) dX7_hide_10) hS (fun H locs hM hS => ?_)
    refine lv_if_eq hx hb dX7_hide_13 rfl (fun hc => ?_) (fun hc => ?_)
    · have h := sk_pos h hc
      refine lv_ldc (v := (-1000000001)) hx hb hown (hts _ kw_1044) dX7_hide_31 ?_
      exact sk_iret C hM hS (sk_e2 h) dX7_hide_33
    · have h := sk_neg h hc
      refine lv_iload_n hx hb dX7_hide_16 rfl (lv_at hl 1 rfl) ?_
      refine lv_iload_n hx hb dX7_hide_17 rfl (lv_at hl 2 rfl) ?_
      refine lv_icmp_eq hx hb dX7_hide_18 rfl (fun hc => ?_) (fun hc => ?_)
      · have h := sk_pos h hc
        refine lv_ldc (v := (-1000000001)) hx hb hown (hts _ kw_1044) dX7_hide_31 ?_
        exact sk_iret C hM hS (sk_e2 h) dX7_hide_33
      · have h := sk_neg h hc
        refine lv_iload_n hx hb dX7_hide_21 rfl (lv_at hl 3 rfl) ?_
        refine lv_i2l (v := a3.toInt64) hx hb dX7_hide_22 rfl ?_
        refine lv_lconst (v := 0) hx hb dX7_hide_23 (by decide) ?_
        refine lv_lconst (v := 1) hx hb dX7_hide_24 (by decide) ?_
        refine sk_contI (sk_runS (As := [.long (a3.toInt64), .long 0, .long 1]) (rest := []) C (c_X7_isIn g l (a3.toInt64) 0 1 M rfl) yo_X7_isIn kw_1040 (by decide) hM hS hl.1 rfl rfl (Nat.le_of_ble_eq_true rfl) dX7_hide_25) hS (fun H locs hM hS => ?_)
        refine lv_if_ne hx hb dX7_hide_28 rfl (fun hc => ?_) (fun hc => ?_)
        · have h := sk_neg h hc
          refine lv_bipush (v := 10) hx hb dX7_hide_34 (by decide) ?_
          refine lv_iconst (v := 3) hx hb dX7_hide_36 (by decide) ?_
          refine lv_iload_n hx hb dX7_hide_37 rfl (lv_at hl 1 rfl) ?_
          refine lv_imul hx hb dX7_hide_38 ?_
          refine lv_iadd hx hb dX7_hide_39 ?_
          refine lv_iconst (v := 2) hx hb dX7_hide_40 (by decide) ?_
          refine lv_iadd hx hb dX7_hide_41 ?_
          refine lv_topi (fun x_4 ex_4 => ?_)
          have h := sk_letU h ex_4
          refine lv_istore (lv' := [(4, .int x_4), (0, .ref (sk_ad g 88)), (1, .int a1), (2, .int a2), (3, .int a3)]) hx hb dX7_hide_42 hl (by decide) rfl (fun ls hl => ?_)
          refine lv_aload_n hx hb dX7_hide_44 rfl (lv_at hl 1 rfl) ?_
          refine sk_getR (o := 88) (ci := 7) (j := 0) (t := 89) C hM rfl rfl (by decide) rfl rfl kw_935 dX7_hide_45 ?_
          refine lv_iload hx hb dX7_hide_48 (lv_at hl 0 rfl) ?_
          obtain ⟨i_5, h⟩ := sk_chkE h
          refine sk_iald (o := 89) C hM rfl i_5 dX7_hide_50 ?_
          refine lv_iload_n hx hb dX7_hide_51 rfl (lv_at hl 3 rfl) ?_
          refine lv_ishr hx hb dX7_hide_52 ?_
          refine lv_iconst (v := 1) hx hb dX7_hide_53 (by decide) ?_
          refine lv_iand hx hb dX7_hide_54 ?_
          refine lv_topi (fun x_6 ex_6 => ?_)
          have h := sk_letU h ex_6
          refine lv_istore (lv' := [(5, .int x_6), (4, .int x_4), (0, .ref (sk_ad g 88)), (1, .int a1), (2, .int a2), (3, .int a3)]) hx hb dX7_hide_55 hl (by decide) rfl (fun ls hl => ?_)
          refine lv_aload_n hx hb dX7_hide_57 rfl (lv_at hl 2 rfl) ?_
          refine sk_getR (o := 88) (ci := 7) (j := 0) (t := 89) C hM rfl rfl (by decide) rfl rfl kw_935 dX7_hide_58 ?_
          refine lv_iload hx hb dX7_hide_61 (lv_at hl 1 rfl) ?_
          refine lv_aload_n hx hb dX7_hide_63 rfl (lv_at hl 2 rfl) ?_
          refine sk_getR (o := 88) (ci := 7) (j := 0) (t := 89) C hM rfl rfl (by decide) rfl rfl kw_935 dX7_hide_64 ?_
          refine lv_iload hx hb dX7_hide_67 (lv_at hl 1 rfl) ?_
          obtain ⟨i_7, h⟩ := sk_chkE h
          refine sk_iald (o := 89) C hM rfl i_7 dX7_hide_69 ?_
          refine lv_iconst (v := 1) hx hb dX7_hide_70 (by decide) ?_
          refine lv_iload_n hx hb dX7_hide_71 rfl (lv_at hl 4 rfl) ?_
          refine lv_ishl hx hb dX7_hide_72 ?_
          refine lv_iconst (v := (-1)) hx hb dX7_hide_73 (by decide) ?_
          refine lv_ixor hx hb dX7_hide_74 ?_
          refine lv_iand hx hb dX7_hide_75 ?_
          refine lv_iload_n hx hb dX7_hide_76 rfl (lv_at hl 5 rfl) ?_
          refine lv_iload_n hx hb dX7_hide_77 rfl (lv_at hl 4 rfl) ?_
          refine lv_ishl hx hb dX7_hide_78 ?_
          refine lv_ior hx hb dX7_hide_79 ?_
          obtain ⟨i_8, h⟩ := sk_chkE h
          refine sk_iast (o := 89) C hM hS rfl i_8 dX7_hide_80 (fun M_9 eM_9 H locs hM hS => ?_)
          have h := sk_letU h eM_9
          refine lv_iload hx hb dX7_hide_81 (lv_at hl 0 rfl) ?_
          exact sk_iret C hM hS (sk_e2 h) dX7_hide_83
        · have h := sk_pos h hc
          refine lv_ldc (v := (-1000000001)) hx hb hown (hts _ kw_1044) dX7_hide_31 ?_
          exact sk_iret C hM hS (sk_e2 h) dX7_hide_33
theorem dX7_nose_0 : decode cX7_nose 0 = .ok (.iload_n 1, 1) := by decide +kernel
theorem dX7_nose_1 : decode cX7_nose 1 = .ok (.invokestatic 124, 3) := by decide +kernel
theorem dX7_nose_4 : decode cX7_nose 4 = .ok (.ifCond .eq 27, 3) := by decide +kernel
theorem dX7_nose_7 : decode cX7_nose 7 = .ok (.iload_n 2, 1) := by decide +kernel
theorem dX7_nose_8 : decode cX7_nose 8 = .ok (.i2l, 1) := by decide +kernel
theorem dX7_nose_9 : decode cX7_nose 9 = .ok (.lconst 1, 1) := by decide +kernel
theorem dX7_nose_10 : decode cX7_nose 10 = .ok (.ldc2_w 127, 3) := by decide +kernel
theorem dX7_nose_13 : decode cX7_nose 13 = .ok (.invokestatic 71, 3) := by decide +kernel
theorem dX7_nose_16 : decode cX7_nose 16 = .ok (.ifCond .eq 15, 3) := by decide +kernel
theorem dX7_nose_19 : decode cX7_nose 19 = .ok (.aload_n 0, 1) := by decide +kernel
theorem dX7_nose_20 : decode cX7_nose 20 = .ok (.bipush 6, 2) := by decide +kernel
theorem dX7_nose_22 : decode cX7_nose 22 = .ok (.iload_n 1, 1) := by decide +kernel
theorem dX7_nose_23 : decode cX7_nose 23 = .ok (.iadd, 1) := by decide +kernel
theorem dX7_nose_24 : decode cX7_nose 24 = .ok (.iload_n 2, 1) := by decide +kernel
theorem dX7_nose_25 : decode cX7_nose 25 = .ok (.invokevirtual 121, 3) := by decide +kernel
theorem dX7_nose_28 : decode cX7_nose 28 = .ok (.goto 5, 3) := by decide +kernel
theorem dX7_nose_31 : decode cX7_nose 31 = .ok (.ldc 80, 2) := by decide +kernel
theorem dX7_nose_33 : decode cX7_nose 33 = .ok (.ireturn, 1) := by decide +kernel
set_option maxHeartbeats 4000000 in
set_option maxRecDepth 100000 in
theorem c_X7_nose (g : sk_G) (l : Launch) (a1 : Int32) (a2 : Int32) (M : sk_M) {rr : Int32} {MM : sk_M} (h : f_X7_nose a1 a2 M = some (rr, MM)) : sk_MI g l yX7_nose cX7_nose 3 (some .int) 2 [.ref (sk_ad g 88), .int a1, .int a2] M rr MM := by
  refine sk_go [(0, .ref (sk_ad g 88)), (1, .int a1), (2, .int a2)] (by decide) (Nat.le_of_ble_eq_true rfl) rfl ?_
  intro p e s m av below meth c C ls hl hM hS
  obtain ⟨hx, hb, hml, hown, hts, hK, hE, hr, hlocks⟩ := id C
  rw [f_X7_nose] at h
  refine lv_iload_n hx hb dX7_nose_0 rfl (lv_at hl 1 rfl) ?_
  refine sk_contI (sk_runS (As := [.int a1]) (rest := []) C (c_X7_isNose g l a1 M rfl) yo_X7_isNose kw_1095 (by decide) hM hS hl.1 rfl rfl (Nat.le_of_ble_eq_true rfl) dX7_nose_1) hS (fun H locs hM hS => ?_)
  refine lv_if_eq hx hb dX7_nose_4 rfl (fun hc => ?_) (fun hc => ?_)
  · have h := sk_pos h hc
    refine lv_ldc (v := (-1000000001)) hx hb hown (hts _ kw_1044) dX7_nose_31 ?_
    exact sk_iret C hM hS (sk_e2 h) dX7_nose_33
  · have h := sk_neg h hc
    refine lv_iload_n hx hb dX7_nose_7 rfl (lv_at hl 2 rfl) ?_
    refine lv_i2l (v := a2.toInt64) hx hb dX7_nose_8 rfl ?_
    refine lv_lconst (v := 1) hx hb dX7_nose_9 (by decide) ?_
    refine lv_ldc2 (v := 999) hx hb hown (hts _ kw_1098) dX7_nose_10 ?_
    refine sk_contI (sk_runS (As := [.long (a2.toInt64), .long 1, .long 999]) (rest := []) C (c_X7_isIn g l (a2.toInt64) 1 999 M rfl) yo_X7_isIn kw_1040 (by decide) hM hS hl.1 rfl rfl (Nat.le_of_ble_eq_true rfl) dX7_nose_13) hS (fun H locs hM hS => ?_)
    refine lv_if_eq hx hb dX7_nose_16 rfl (fun hc => ?_) (fun hc => ?_)
    · have h := sk_pos h hc
      refine lv_ldc (v := (-1000000001)) hx hb hown (hts _ kw_1044) dX7_nose_31 ?_
      exact sk_iret C hM hS (sk_e2 h) dX7_nose_33
    · have h := sk_neg h hc
      refine lv_aload_n hx hb dX7_nose_19 rfl (lv_at hl 0 rfl) ?_
      refine lv_bipush (v := 6) hx hb dX7_nose_20 (by decide) ?_
      refine lv_iload_n hx hb dX7_nose_22 rfl (lv_at hl 1 rfl) ?_
      refine lv_iadd hx hb dX7_nose_23 ?_
      refine lv_iload_n hx hb dX7_nose_24 rfl (lv_at hl 2 rfl) ?_
      obtain ⟨x_3, M_4, h_5, h⟩ := sk_b2E h
      refine sk_contI (sk_runV (As := [.int (6 + a1), .int a2]) (rest := []) C (c_X7_becomes g l (6 + a1) a2 M h_5) yo_X7_becomes kw_1079 (sk_recv (ci := 7) C hM rfl rfl) (by decide) hM hS hl.1 rfl rfl (Nat.le_of_ble_eq_true rfl) dX7_nose_25) hS (fun H locs hM hS => ?_)
      refine lv_goto hx hb dX7_nose_28 rfl ?_
      exact sk_iret C hM hS (sk_e2 h) dX7_nose_33
