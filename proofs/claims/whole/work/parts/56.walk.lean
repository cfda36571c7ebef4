theorem dX7_mark_0 : decode cX7_mark 0 = .ok (.iload_n 1, 1) := by decide +kernel
theorem dX7_mark_1 : decode cX7_mark 1 = .ok (.invokestatic 296, 3) := by decide +kernel
theorem dX7_mark_4 : decode cX7_mark 4 = .ok (.ifCond .ne 6, 3) := by decide +kernel
theorem dX7_mark_7 : decode cX7_mark 7 = .ok (.ldc 80, 2) := by decide +kernel
theorem dX7_mark_9 : decode cX7_mark 9 = .ok (.ireturn, 1) := by decide +kernel
theorem dX7_mark_10 : decode cX7_mark 10 = .ok (.aload_n 0, 1) := by decide +kernel
theorem dX7_mark_11 : decode cX7_mark 11 = .ok (.getfield 19, 3) := by decide +kernel
theorem dX7_mark_14 : decode cX7_mark 14 = .ok (.iload_n 1, 1) := by decide +kernel
theorem dX7_mark_15 : decode cX7_mark 15 = .ok (.iaload, 1) := by decide +kernel
theorem dX7_mark_16 : decode cX7_mark 16 = .ok (.ifCond .ge 7, 3) := by decide +kernel
theorem dX7_mark_19 : decode cX7_mark 19 = .ok (.ldc_w 302, 3) := by decide +kernel
theorem dX7_mark_22 : decode cX7_mark 22 = .ok (.ireturn, 1) := by decide +kernel
theorem dX7_mark_23 : decode cX7_mark 23 = .ok (.iload_n 2, 1) := by decide +kernel
theorem dX7_mark_24 : decode cX7_mark 24 = .ok (.i2l, 1) := by decide +kernel
theorem dX7_mark_25 : decode cX7_mark 25 = .ok (.lconst 0, 1) := by decide +kernel
theorem dX7_mark_26 : decode cX7_mark 26 = .ok (.aload_n 0, 1) := by decide +kernel
theorem dX7_mark_27 : decode cX7_mark 27 = .ok (.getfield 22, 3) := by decide +kernel
theorem dX7_mark_30 : decode cX7_mark 30 = .ok (.iload_n 1, 1) := by decide +kernel
theorem dX7_mark_31 : decode cX7_mark 31 = .ok (.iaload, 1) := by decide +kernel
theorem dX7_mark_32 : decode cX7_mark 32 = .ok (.iconst 1, 1) := by decide +kernel
theorem dX7_mark_33 : decode cX7_mark 33 = .ok (.isub, 1) := by decide +kernel
theorem dX7_mark_34 : decode cX7_mark 34 = .ok (.i2l, 1) := by decide +kernel
theorem dX7_mark_35 : decode cX7_mark 35 = .ok (.invokestatic 71, 3) := by decide +kernel
theorem dX7_mark_38 : decode cX7_mark 38 = .ok (.ifCond .ne 7, 3) := by decide +kernel
theorem dX7_mark_41 : decode cX7_mark 41 = .ok (.ldc_w 303, 3) := by decide +kernel
theorem dX7_mark_44 : decode cX7_mark 44 = .ok (.ireturn, 1) := by decide +kernel
theorem dX7_mark_45 : decode cX7_mark 45 = .ok (.aload_n 0, 1) := by decide +kernel
theorem dX7_mark_46 : decode cX7_mark 46 = .ok (.getfield 19, 3) := by decide +kernel
theorem dX7_mark_49 : decode cX7_mark 49 = .ok (.iload_n 1, 1) := by decide +kernel
theorem dX7_mark_50 : decode cX7_mark 50 = .ok (.iaload, 1) := by decide +kernel
theorem dX7_mark_51 : decode cX7_mark 51 = .ok (.ifCond .ne 12, 3) := by decide +kernel
theorem dX7_mark_54 : decode cX7_mark 54 = .ok (.iload_n 3, 1) := by decide +kernel
theorem dX7_mark_55 : decode cX7_mark 55 = .ok (.ldc 70, 2) := by decide +kernel
theorem dX7_mark_57 : decode cX7_mark 57 = .ok (.if_icmp .ne 6, 3) := by decide +kernel
theorem dX7_mark_60 : decode cX7_mark 60 = .ok (.ldc 120, 2) := by decide +kernel
theorem dX7_mark_62 : decode cX7_mark 62 = .ok (.ireturn, 1) := by decide +kernel
theorem dX7_mark_63 : decode cX7_mark 63 = .ok (.aload_n 0, 1) := by decide +kernel
theorem dX7_mark_64 : decode cX7_mark 64 = .ok (.getfield 19, 3) := by decide +kernel
theorem dX7_mark_67 : decode cX7_mark 67 = .ok (.iload_n 1, 1) := by decide +kernel
theorem dX7_mark_68 : decode cX7_mark 68 = .ok (.iaload, 1) := by decide +kernel
theorem dX7_mark_69 : decode cX7_mark 69 = .ok (.iconst 1, 1) := by decide +kernel
theorem dX7_mark_70 : decode cX7_mark 70 = .ok (.if_icmp .ne 26, 3) := by decide +kernel
theorem dX7_mark_73 : decode cX7_mark 73 = .ok (.iload_n 3, 1) := by decide +kernel
theorem dX7_mark_74 : decode cX7_mark 74 = .ok (.ldc 70, 2) := by decide +kernel
theorem dX7_mark_76 : decode cX7_mark 76 = .ok (.if_icmp .eq 20, 3) := by decide +kernel
theorem dX7_mark_79 : decode cX7_mark 79 = .ok (.iload_n 3, 1) := by decide +kernel
theorem dX7_mark_80 : decode cX7_mark 80 = .ok (.i2l, 1) := by decide +kernel
theorem dX7_mark_81 : decode cX7_mark 81 = .ok (.ldc2_w 304, 3) := by decide +kernel
theorem dX7_mark_84 : decode cX7_mark 84 = .ok (.ldc2_w 306, 3) := by decide +kernel
theorem dX7_mark_87 : decode cX7_mark 87 = .ok (.invokestatic 71, 3) := by decide +kernel
theorem dX7_mark_90 : decode cX7_mark 90 = .ok (.ifCond .ne 6, 3) := by decide +kernel
theorem dX7_mark_93 : decode cX7_mark 93 = .ok (.ldc 80, 2) := by decide +kernel
theorem dX7_mark_95 : decode cX7_mark 95 = .ok (.ireturn, 1) := by decide +kernel
theorem dX7_mark_96 : decode cX7_mark 96 = .ok (.aload_n 0, 1) := by decide +kernel
theorem dX7_mark_97 : decode cX7_mark 97 = .ok (.getfield 25, 3) := by decide +kernel
theorem dX7_mark_100 : decode cX7_mark 100 = .ok (.bipush 24, 2) := by decide +kernel
theorem dX7_mark_102 : decode cX7_mark 102 = .ok (.iload_n 1, 1) := by decide +kernel
theorem dX7_mark_103 : decode cX7_mark 103 = .ok (.imul, 1) := by decide +kernel
theorem dX7_mark_104 : decode cX7_mark 104 = .ok (.iload_n 2, 1) := by decide +kernel
theorem dX7_mark_105 : decode cX7_mark 105 = .ok (.iadd, 1) := by decide +kernel
theorem dX7_mark_106 : decode cX7_mark 106 = .ok (.aload_n 0, 1) := by decide +kernel
theorem dX7_mark_107 : decode cX7_mark 107 = .ok (.getfield 19, 3) := by decide +kernel
theorem dX7_mark_110 : decode cX7_mark 110 = .ok (.iload_n 1, 1) := by decide +kernel
theorem dX7_mark_111 : decode cX7_mark 111 = .ok (.iaload, 1) := by decide +kernel
theorem dX7_mark_112 : decode cX7_mark 112 = .ok (.ifCond .ne 13, 3) := by decide +kernel
theorem dX7_mark_115 : decode cX7_mark 115 = .ok (.iload_n 3, 1) := by decide +kernel
theorem dX7_mark_116 : decode cX7_mark 116 = .ok (.bipush 16, 2) := by decide +kernel
theorem dX7_mark_118 : decode cX7_mark 118 = .ok (.ishl, 1) := by decide +kernel
theorem dX7_mark_119 : decode cX7_mark 119 = .ok (.bipush 16, 2) := by decide +kernel
theorem dX7_mark_121 : decode cX7_mark 121 = .ok (.ishr, 1) := by decide +kernel
theorem dX7_mark_122 : decode cX7_mark 122 = .ok (.goto 4, 3) := by decide +kernel
theorem dX7_mark_125 : decode cX7_mark 125 = .ok (.iload_n 3, 1) := by decide +kernel
theorem dX7_mark_126 : decode cX7_mark 126 = .ok (.iastore, 1) := by decide +kernel
theorem dX7_mark_127 : decode cX7_mark 127 = .ok (.iconst 1, 1) := by decide +kernel
theorem dX7_mark_128 : decode cX7_mark 128 = .ok (.ireturn, 1) := by decide +kernel
set_option maxHeartbeats 4000000 in
set_option maxRecDepth 100000 in
theorem c_X7_mark (g : sk_G) (l : Launch) (a1 : Int32) (a2 : Int32) (a3 : Int32) (M : sk_M) {rr : Int32} {MM : sk_M} (h : f_X7_mark a1 a2 a3 M = some (rr, MM)) : sk_MI g l yX7_mark cX7_mark 4 (some .int) 3 [.ref (sk_ad g 88), .int a1, .int a2, .int a3] M rr MM := by
  refine sk_go [(0, .ref (sk_ad g 88)), (1, .int a1), (2, .int a2), (3, .int a3)] (by decide) (Nat.le_of_ble_eq_true rfl) rfl ?_
  intro p e s m av below meth c C ls hl hM hS
  obtain ⟨hx, hb, hml, hown, hts, hK, hE, hr, hlocks⟩ := id C
  rw [f_X7_mark] at h
  refine lv_iload_n hx hb dX7_mark_0 rfl (lv_at hl 1 rfl) ?_
  refine sk_contI (sk_runS (As := [.int a1]) (rest := []) C (c_X7_isSheet g l a1 M rfl) yo_X7_isSheet kw_1384 (by decide) hM hS hl.1 rfl rfl (Nat.le_of_ble_eq_true rfl) dX7_mark_1) hS (fun H locs hM hS => ?_)
  refine lv_if_ne hx hb dX7_mark_4 rfl (fun hc => ?_) (fun hc => ?_)
  · have h := sk_neg h hc
    refine lv_aload_n hx hb dX7_mark_10 rfl (lv_at hl 0 rfl) ?_
    refine sk_getR (o := 88) (ci := 7) (j := 4) (t := 92) C hM rfl rfl (by decide) rfl rfl kw_939 dX7_mark_11 ?_
    refine lv_iload_n hx hb dX7_mark_14 rfl (lv_at hl 1 rfl) ?_
    obtain ⟨i_2, h⟩ := sk_chkE h
    refine sk_iald (o := 92) C hM rfl i_2 dX7_mark_15 ?_
    refine lv_if_ge hx hb dX7_mark_16 rfl (fun hc => ?_) (fun hc => ?_)
    · have h := sk_pos h hc
      refine lv_iload_n hx hb dX7_mark_23 rfl (lv_at hl 2 rfl) ?_
      refine lv_i2l (v := a2.toInt64) hx hb dX7_mark_24 rfl ?_
      refine lv_lconst (v := 0) hx hb dX7_mark_25 (by decide) ?_
      refine lv_aload_n hx hb dX7_mark_26 rfl (lv_at hl 0 rfl) ?_
      refine sk_getR (o := 88) (ci := 7) (j := 5) (t := 93) C hM rfl rfl (by decide) rfl rfl kw_940 dX7_mark_27 ?_
      refine lv_iload_n hx hb dX7_mark_30 rfl (lv_at hl 1 rfl) ?_
      obtain ⟨i_3, h⟩ := sk_chkE h
      refine sk_iald (o := 93) C hM rfl i_3 dX7_mark_31 ?_
      refine lv_iconst (v := 1) hx hb dX7_mark_32 (by decide) ?_
      refine lv_isub hx hb dX7_mark_33 ?_
      refine lv_i2l (v := (((M 93 a1.toNatClampNeg) - 1)).toInt64) hx hb dX7_mark_34 rfl ?_
      refine sk_contI (sk_runS (As := [.long (a2.toInt64), .long 0, .long ((((M 93 a1.toNatClampNeg) - 1)).toInt64)]) (rest := []) C (c_X7_isIn g l (a2.toInt64) 0 ((((M 93 a1.toNatClampNeg) - 1)).toInt64) M rfl) yo_X7_isIn kw_1040 (by decide) hM hS hl.1 rfl rfl (Nat.le_of_ble_eq_true rfl) dX7_mark_35) hS (fun H locs hM hS => ?_)
      refine lv_if_ne hx hb dX7_mark_38 rfl (fun hc => ?_) (fun hc => ?_)
      · have h := sk_neg h hc
        refine lv_aload_n hx hb dX7_mark_45 rfl (lv_at hl 0 rfl) ?_
        refine sk_getR (o := 88) (ci := 7) (j := 4) (t := 92) C hM rfl rfl (by decide) rfl rfl kw_939 dX7_mark_46 ?_
        refine lv_iload_n hx hb dX7_mark_49 rfl (lv_at hl 1 rfl) ?_
        obtain ⟨i_5, h⟩ := sk_chkE h
        refine sk_iald (o := 92) C hM rfl i_5 dX7_mark_50 ?_
        obtain ⟨out_6, h_6, kf_6, kg_6⟩ := sk_s0E h
        have J_6 : ∀  (H : Heap) (locs : List Loc) (ls : Array Slot), some (Sum.inr ()) = some out_6 → lv_has ls 4 [(0, .ref (sk_ad g 88)), (1, .int a1), (2, .int a2), (3, .int a3)] → sk_P g M H → va_S (sk_A g) s.heap H locs → W p l e (sk_rm 3) s m av below meth c H locs 0 0 (MQ below (sk_QI g rr MM) av s 0 0 (sk_A g)) (F0 m 63 ls []) := by
          intro  H locs ls he hl hM hS
          have h := kg_6  (Option.some.inj he).symm
          refine lv_aload_n hx hb dX7_mark_63 rfl (lv_at hl 0 rfl) ?_
          refine sk_getR (o := 88) (ci := 7) (j := 4) (t := 92) C hM rfl rfl (by decide) rfl rfl kw_939 dX7_mark_64 ?_
          refine lv_iload_n hx hb dX7_mark_67 rfl (lv_at hl 1 rfl) ?_
          obtain ⟨i_7, h⟩ := sk_chkE h
          refine sk_iald (o := 92) C hM rfl i_7 dX7_mark_68 ?_
          refine lv_iconst (v := 1) hx hb dX7_mark_69 (by decide) ?_
          obtain ⟨out_8, h_8, kf_8, kg_8⟩ := sk_s0E h
          have J_8 : ∀  (H : Heap) (locs : List Loc) (ls : Array Slot), some (Sum.inr ()) = some out_8 → lv_has ls 4 [(0, .ref (sk_ad g 88)), (1, .int a1), (2, .int a2), (3, .int a3)] → sk_P g M H → va_S (sk_A g) s.heap H locs → W p l e (sk_rm 3) s m av below meth c H locs 0 0 (MQ below (sk_QI g rr MM) av s 0 0 (sk_A g)) (F0 m 96 ls []) := by
            intro  H locs ls he hl hM hS
            have h := kg_8  (Option.some.inj he).symm
            refine lv_aload_n hx hb dX7_mark_96 rfl (lv_at hl 0 rfl) ?_
            refine sk_getR (o := 88) (ci := 7) (j := 6) (t := 94) C hM rfl rfl (by decide) rfl rfl kw_941 dX7_mark_97 ?_
            refine lv_bipush (v := 24) hx hb dX7_mark_100 (by decide) ?_
            refine lv_iload_n hx hb dX7_mark_102 rfl (lv_at hl 1 rfl) ?_
            refine lv_imul hx hb dX7_mark_103 ?_
            refine lv_iload_n hx hb dX7_mark_104 rfl (lv_at hl 2 rfl) ?_
            refine lv_iadd hx hb dX7_mark_105 ?_
            refine lv_aload_n hx hb dX7_mark_106 rfl (lv_at hl 0 rfl) ?_
            refine sk_getR (o := 88) (ci := 7) (j := 4) (t := 92) C hM rfl rfl (by decide) rfl rfl kw_939 dX7_mark_107 ?_
            refine lv_iload_n hx hb dX7_mark_110 rfl (lv_at hl 1 rfl) ?_
            obtain ⟨i_10, h⟩ := sk_chkE h
            refine sk_iald (o := 92) C hM rfl i_10 dX7_mark_111 ?_
            have J : ∀ (vv : Int32) (H : Heap) (locs : List Loc), (if (M 92 a1.toNatClampNeg) = 0 then ((a3 <<< (16 &&& 31)) >>> (16 &&& 31)) else a3 : Int32) = vv → sk_P g M H → va_S (sk_A g) s.heap H locs → W p l e (sk_rm 3) s m av below meth c H locs 0 0 (MQ below (sk_QI g rr MM) av s 0 0 (sk_A g)) (F0 m 126 ls [.int vv, .int ((24 * a1) + a2), .ref (sk_ad g 94)]) := by
              intro vv H locs hvv hM hS
              subst hvv
              obtain ⟨i_11, h⟩ := sk_chkE h
              refine sk_iast (o := 94) C hM hS rfl i_11 dX7_mark_126 (fun M_12 eM_12 H locs hM hS => ?_)
              have h := sk_letU h eM_12
              refine lv_iconst (v := 1) hx hb dX7_mark_127 (by decide) ?_
              exact sk_iret C hM hS (sk_e2 h) dX7_mark_128
            refine lv_if_ne hx hb dX7_mark_112 rfl (fun hc => ?_) (fun hc => ?_)
            · have J := fun vv H locs q => J vv H locs ((if_neg hc).trans q)
              refine lv_iload_n hx hb dX7_mark_125 rfl (lv_at hl 3 rfl) ?_
              exact J _ _ _ rfl hM hS
            · have J := fun vv H locs q => J vv H locs ((if_pos hc).trans q)
              refine lv_iload_n hx hb dX7_mark_115 rfl (lv_at hl 3 rfl) ?_
              refine lv_bipush (v := 16) hx hb dX7_mark_116 (by decide) ?_
              refine lv_ishl hx hb dX7_mark_118 ?_
              refine lv_bipush (v := 16) hx hb dX7_mark_119 (by decide) ?_
              refine lv_ishr hx hb dX7_mark_121 ?_
              refine lv_goto hx hb dX7_mark_122 rfl ?_
              exact J _ _ _ rfl hM hS
          have h := h_8
          refine lv_icmp_ne hx hb dX7_mark_70 rfl (fun hc => ?_) (fun hc => ?_)
          · have h := sk_neg h hc
            exact J_8  _ _ _ h (lv_sub hl [0, 1, 2, 3] rfl) hM hS
          · have h := sk_pos h hc
            refine lv_iload_n hx hb dX7_mark_73 rfl (lv_at hl 3 rfl) ?_
            refine lv_ldc (v := (-1000000005)) hx hb hown (hts _ kw_1212) dX7_mark_74 ?_
            refine lv_icmp_eq hx hb dX7_mark_76 rfl (fun hc => ?_) (fun hc => ?_)
            · have h := sk_pos h hc
              exact J_8  _ _ _ h (lv_sub hl [0, 1, 2, 3] rfl) hM hS
            · have h := sk_neg h hc
              refine lv_iload_n hx hb dX7_mark_79 rfl (lv_at hl 3 rfl) ?_
              refine lv_i2l (v := a3.toInt64) hx hb dX7_mark_80 rfl ?_
              refine lv_ldc2 (v := (-99999)) hx hb hown (hts _ kw_1395) dX7_mark_81 ?_
              refine lv_ldc2 (v := 99999) hx hb hown (hts _ kw_1396) dX7_mark_84 ?_
              refine sk_contI (sk_runS (As := [.long (a3.toInt64), .long (-99999), .long 99999]) (rest := []) C (c_X7_isIn g l (a3.toInt64) (-99999) 99999 M rfl) yo_X7_isIn kw_1040 (by decide) hM hS hl.1 rfl rfl (Nat.le_of_ble_eq_true rfl) dX7_mark_87) hS (fun H locs hM hS => ?_)
              refine lv_if_ne hx hb dX7_mark_90 rfl (fun hc => ?_) (fun hc => ?_)
              · have h := sk_neg h hc
                exact J_8  _ _ _ h (lv_sub hl [0, 1, 2, 3] rfl) hM hS
              · have h := sk_pos h hc
                refine lv_ldc (v := (-1000000001)) hx hb hown (hts _ kw_1044) dX7_mark_93 ?_
                have h := kf_8 _ (Option.some.inj h).symm
                exact sk_iret C hM hS (sk_e2 h) dX7_mark_95
        have h := h_6
        refine lv_if_ne hx hb dX7_mark_51 rfl (fun hc => ?_) (fun hc => ?_)
        · have h := sk_neg h hc
          exact J_6  _ _ _ h (lv_sub hl [0, 1, 2, 3] rfl) hM hS
        · have h := sk_pos h hc
          refine lv_iload_n hx hb dX7_mark_54 rfl (lv_at hl 3 rfl) ?_
          refine lv_ldc (v := (-1000000005)) hx hb hown (hts _ kw_1212) dX7_mark_55 ?_
          refine lv_icmp_ne hx hb dX7_mark_57 rfl (fun hc => ?_) (fun hc => ?_)
          · have h := sk_neg h hc
            exact J_6  _ _ _ h (lv_sub hl [0, 1, 2, 3] rfl) hM hS
          · have h := sk_pos h hc
            refine lv_ldc (v := (-1000000012)) hx hb hown (hts _ kw_1074) dX7_mark_60 ?_
            have h := kf_6 _ (Option.some.inj h).symm
            exact sk_iret C hM hS (sk_e2 h) dX7_mark_62
      · have h := sk_pos h hc
        refine lv_ldcw (v := (-1000000013)) hx hb hown (hts _ kw_1394) dX7_mark_41 ?_
        exact sk_iret C hM hS (sk_e2 h) dX7_mark_44
    · have h := sk_neg h hc
      refine lv_ldcw (v := (-1000000011)) hx hb hown (hts _ kw_1393) dX7_mark_19 ?_
      exact sk_iret C hM hS (sk_e2 h) dX7_mark_22
  · have h := sk_pos h hc
    refine lv_ldc (v := (-1000000001)) hx hb hown (hts _ kw_1044) dX7_mark_7 ?_
    exact sk_iret C hM hS (sk_e2 h) dX7_mark_9
theorem dX7_pour_0 : decode cX7_pour 0 = .ok (.aload_n 0, 1) := by decide +kernel
theorem dX7_pour_1 : decode cX7_pour 1 = .ok (.iload_n 1, 1) := by decide +kernel
theorem dX7_pour_2 : decode cX7_pour 2 = .ok (.invokevirtual 138, 3) := by decide +kernel
theorem dX7_pour_5 : decode cX7_pour 5 = .ok (.ifCond .eq 10, 3) := by decide +kernel
theorem dX7_pour_8 : decode cX7_pour 8 = .ok (.iload_n 2, 1) := by decide +kernel
theorem dX7_pour_9 : decode cX7_pour 9 = .ok (.invokestatic 296, 3) := by decide +kernel
theorem dX7_pour_12 : decode cX7_pour 12 = .ok (.ifCond .ne 6, 3) := by decide +kernel
theorem dX7_pour_15 : decode cX7_pour 15 = .ok (.ldc 80, 2) := by decide +kernel
theorem dX7_pour_17 : decode cX7_pour 17 = .ok (.ireturn, 1) := by decide +kernel
theorem dX7_pour_18 : decode cX7_pour 18 = .ok (.aload_n 0, 1) := by decide +kernel
theorem dX7_pour_19 : decode cX7_pour 19 = .ok (.getfield 19, 3) := by decide +kernel
theorem dX7_pour_22 : decode cX7_pour 22 = .ok (.iload_n 2, 1) := by decide +kernel
theorem dX7_pour_23 : decode cX7_pour 23 = .ok (.iaload, 1) := by decide +kernel
theorem dX7_pour_24 : decode cX7_pour 24 = .ok (.ifCond .ge 7, 3) := by decide +kernel
theorem dX7_pour_27 : decode cX7_pour 27 = .ok (.ldc_w 302, 3) := by decide +kernel
theorem dX7_pour_30 : decode cX7_pour 30 = .ok (.ireturn, 1) := by decide +kernel
theorem dX7_pour_31 : decode cX7_pour 31 = .ok (.iconst 0, 1) := by decide +kernel
theorem dX7_pour_32 : decode cX7_pour 32 = .ok (.istore_n 3, 1) := by decide +kernel
theorem dX7_pour_33 : decode cX7_pour 33 = .ok (.iconst 0, 1) := by decide +kernel
theorem dX7_pour_34 : decode cX7_pour 34 = .ok (.istore 4, 2) := by decide +kernel
theorem dX7_pour_36 : decode cX7_pour 36 = .ok (.iload 4, 2) := by decide +kernel
theorem dX7_pour_38 : decode cX7_pour 38 = .ok (.aload_n 0, 1) := by decide +kernel
theorem dX7_pour_39 : decode cX7_pour 39 = .ok (.getfield 22, 3) := by decide +kernel
theorem dX7_pour_42 : decode cX7_pour 42 = .ok (.iload_n 2, 1) := by decide +kernel
theorem dX7_pour_43 : decode cX7_pour 43 = .ok (.iaload, 1) := by decide +kernel
theorem dX7_pour_44 : decode cX7_pour 44 = .ok (.if_icmp .ge 90, 3) := by decide +kernel
theorem dX7_pour_47 : decode cX7_pour 47 = .ok (.iload 4, 2) := by decide +kernel
theorem dX7_pour_49 : decode cX7_pour 49 = .ok (.aload_n 0, 1) := by decide +kernel
theorem dX7_pour_50 : decode cX7_pour 50 = .ok (.getfield 7, 3) := by decide +kernel
theorem dX7_pour_53 : decode cX7_pour 53 = .ok (.iconst 0, 1) := by decide +kernel
theorem dX7_pour_54 : decode cX7_pour 54 = .ok (.iaload, 1) := by decide +kernel
theorem dX7_pour_55 : decode cX7_pour 55 = .ok (.if_icmp .ge 79, 3) := by decide +kernel
theorem dX7_pour_58 : decode cX7_pour 58 = .ok (.aload_n 0, 1) := by decide +kernel
theorem dX7_pour_59 : decode cX7_pour 59 = .ok (.getfield 25, 3) := by decide +kernel
theorem dX7_pour_62 : decode cX7_pour 62 = .ok (.bipush 24, 2) := by decide +kernel
theorem dX7_pour_64 : decode cX7_pour 64 = .ok (.iload_n 2, 1) := by decide +kernel
theorem dX7_pour_65 : decode cX7_pour 65 = .ok (.imul, 1) := by decide +kernel
theorem dX7_pour_66 : decode cX7_pour 66 = .ok (.iload 4, 2) := by decide +kernel
theorem dX7_pour_68 : decode cX7_pour 68 = .ok (.iadd, 1) := by decide +kernel
theorem dX7_pour_69 : decode cX7_pour 69 = .ok (.iaload, 1) := by decide +kernel
theorem dX7_pour_70 : decode cX7_pour 70 = .ok (.istore 5, 2) := by decide +kernel
theorem dX7_pour_72 : decode cX7_pour 72 = .ok (.iload 5, 2) := by decide +kernel
theorem dX7_pour_74 : decode cX7_pour 74 = .ok (.ldc 70, 2) := by decide +kernel
theorem dX7_pour_76 : decode cX7_pour 76 = .ok (.if_icmp .ne 13, 3) := by decide +kernel
theorem dX7_pour_79 : decode cX7_pour 79 = .ok (.aload_n 0, 1) := by decide +kernel
theorem dX7_pour_80 : decode cX7_pour 80 = .ok (.iload_n 1, 1) := by decide +kernel
theorem dX7_pour_81 : decode cX7_pour 81 = .ok (.iload 4, 2) := by decide +kernel
theorem dX7_pour_83 : decode cX7_pour 83 = .ok (.invokevirtual 100, 3) := by decide +kernel
theorem dX7_pour_86 : decode cX7_pour 86 = .ok (.goto 11, 3) := by decide +kernel
theorem dX7_pour_89 : decode cX7_pour 89 = .ok (.iload 5, 2) := by decide +kernel
theorem dX7_pour_91 : decode cX7_pour 91 = .ok (.sipush 999, 3) := by decide +kernel
theorem dX7_pour_94 : decode cX7_pour 94 = .ok (.invokestatic 97, 3) := by decide +kernel
theorem dX7_pour_97 : decode cX7_pour 97 = .ok (.istore 6, 2) := by decide +kernel
theorem dX7_pour_99 : decode cX7_pour 99 = .ok (.iload_n 3, 1) := by decide +kernel
theorem dX7_pour_100 : decode cX7_pour 100 = .ok (.iload 6, 2) := by decide +kernel
theorem dX7_pour_102 : decode cX7_pour 102 = .ok (.aload_n 0, 1) := by decide +kernel
theorem dX7_pour_103 : decode cX7_pour 103 = .ok (.bipush 43, 2) := by decide +kernel
theorem dX7_pour_105 : decode cX7_pour 105 = .ok (.bipush 9, 2) := by decide +kernel
theorem dX7_pour_107 : decode cX7_pour 107 = .ok (.iload_n 1, 1) := by decide +kernel
theorem dX7_pour_108 : decode cX7_pour 108 = .ok (.imul, 1) := by decide +kernel
theorem dX7_pour_109 : decode cX7_pour 109 = .ok (.iadd, 1) := by decide +kernel
theorem dX7_pour_110 : decode cX7_pour 110 = .ok (.iload 4, 2) := by decide +kernel
theorem dX7_pour_112 : decode cX7_pour 112 = .ok (.iadd, 1) := by decide +kernel
theorem dX7_pour_113 : decode cX7_pour 113 = .ok (.iload 6, 2) := by decide +kernel
theorem dX7_pour_115 : decode cX7_pour 115 = .ok (.invokevirtual 121, 3) := by decide +kernel
theorem dX7_pour_118 : decode cX7_pour 118 = .ok (.if_icmp .ne 7, 3) := by decide +kernel
theorem dX7_pour_121 : decode cX7_pour 121 = .ok (.iconst 0, 1) := by decide +kernel
theorem dX7_pour_122 : decode cX7_pour 122 = .ok (.goto 4, 3) := by decide +kernel
theorem dX7_pour_125 : decode cX7_pour 125 = .ok (.iconst 1, 1) := by decide +kernel
theorem dX7_pour_126 : decode cX7_pour 126 = .ok (.iadd, 1) := by decide +kernel
theorem dX7_pour_127 : decode cX7_pour 127 = .ok (.istore_n 3, 1) := by decide +kernel
theorem dX7_pour_128 : decode cX7_pour 128 = .ok (.iinc 4 1, 3) := by decide +kernel
theorem dX7_pour_131 : decode cX7_pour 131 = .ok (.goto (-95), 3) := by decide +kernel
theorem dX7_pour_134 : decode cX7_pour 134 = .ok (.iload_n 3, 1) := by decide +kernel
theorem dX7_pour_135 : decode cX7_pour 135 = .ok (.ireturn, 1) := by decide +kernel
set_option maxHeartbeats 4000000 in
set_option maxRecDepth 100000 in
theorem w_X7_pour_L36 {g : sk_G} {l : Launch} {p : Program} {e : Env} {s : State} {m : MethodId} {av : Array Value} {below : List Frame} {meth : Method} {c : Code} (C : sk_C g p s m av meth c cX7_pour 7 RX7 (some .int)) (a1 : Int32) (a2 : Int32) {rr : Int32} {MM : sk_M} :
    ∀ (n : Nat) (a3 : Int32) (a4 : Int32) (M : sk_M) (H : Heap) (locs : List Loc) (ls : Array Slot), lv_has ls 7 [(0, .ref (sk_ad g 88)), (1, .int a1), (2, .int a2), (3, .int a3), (4, .int a4)] → sk_P g M H → va_S (sk_A g) s.heap H locs → ∀ {out : Int32 × sk_M}, f_X7_pour_L36 a1 a2 n a3 a4 M = some out → (∀ (x3 : Int32) (M1 : sk_M) (H : Heap) (locs : List Loc) (ls : Array Slot), some (x3, M1) = some out → lv_has ls 7 [(3, .int x3)] → sk_P g M1 H → va_S (sk_A g) s.heap H locs → W p l e (sk_rm 3) s m av below meth c H locs 0 0 (MQ below (sk_QI g rr MM) av s 0 0 (sk_A g)) (F0 m 134 ls [])) → W p l e (sk_rm 3) s m av below meth c H locs 0 0 (MQ below (sk_QI g rr MM) av s 0 0 (sk_A g)) (F0 m 36 ls []) := by
  obtain ⟨hx, hb, hml, hown, hts, hK, hE, hr, hlocks⟩ := id C
  intro n
  induction n with
  | zero =>
    intro a3 a4 M H locs ls hl hM hS out h
    cases h
  | succ n ih =>
    intro a3 a4 M H locs ls hl hM hS out h kx
    rw [f_X7_pour_L36] at h
    refine lv_iload hx hb dX7_pour_36 (lv_at hl 4 rfl) ?_
    refine lv_aload_n hx hb dX7_pour_38 rfl (lv_at hl 0 rfl) ?_
    refine sk_getR (o := 88) (ci := 7) (j := 5) (t := 93) C hM rfl rfl (by decide) rfl rfl kw_940 dX7_pour_39 ?_
    refine lv_iload_n hx hb dX7_pour_42 rfl (lv_at hl 2 rfl) ?_
    obtain ⟨i_4, h⟩ := sk_chkE h
    refine sk_iald (o := 93) C hM rfl i_4 dX7_pour_43 ?_
    refine lv_icmp_ge hx hb dX7_pour_44 rfl (fun hc => ?_) (fun hc => ?_)
    · have h := sk_pos h hc
      exact kx _ _ _ _ _ h (lv_sub hl [3] rfl) hM hS
    · have h := sk_neg h hc
      refine lv_iload hx hb dX7_pour_47 (lv_at hl 4 rfl) ?_
      refine lv_aload_n hx hb dX7_pour_49 rfl (lv_at hl 0 rfl) ?_
      refine sk_getR (o := 88) (ci := 7) (j := 0) (t := 89) C hM rfl rfl (by decide) rfl rfl kw_935 dX7_pour_50 ?_
      refine lv_iconst (v := 0) hx hb dX7_pour_53 (by decide) ?_
      refine sk_iald (o := 89) C hM rfl (by decide) dX7_pour_54 ?_
      refine W.eq (g2 := F0 m 55 ls [.int (M 89 0), .int a4]) rfl ?_
      refine lv_icmp_ge hx hb dX7_pour_55 rfl (fun hc => ?_) (fun hc => ?_)
      · have h := sk_pos h hc
        exact kx _ _ _ _ _ h (lv_sub hl [3] rfl) hM hS
      · have h := sk_neg h hc
        refine lv_aload_n hx hb dX7_pour_58 rfl (lv_at hl 0 rfl) ?_
        refine sk_getR (o := 88) (ci := 7) (j := 6) (t := 94) C hM rfl rfl (by decide) rfl rfl kw_941 dX7_pour_59 ?_
        refine lv_bipush (v := 24) hx hb dX7_pour_62 (by decide) ?_
        refine lv_iload_n hx hb dX7_pour_64 rfl (lv_at hl 2 rfl) ?_
        refine lv_imul hx hb dX7_pour_65 ?_
        refine lv_iload hx hb dX7_pour_66 (lv_at hl 4 rfl) ?_
        refine lv_iadd hx hb dX7_pour_68 ?_
        obtain ⟨i_5, h⟩ := sk_chkE h
        refine sk_iald (o := 94) C hM rfl i_5 dX7_pour_69 ?_
        refine lv_topi (fun x_6 ex_6 => ?_)
        have h := sk_letU h ex_6
        refine lv_istore (lv' := [(5, .int x_6), (0, .ref (sk_ad g 88)), (1, .int a1), (2, .int a2), (3, .int a3), (4, .int a4)]) hx hb dX7_pour_70 hl (by decide) rfl (fun ls hl => ?_)
        refine lv_iload hx hb dX7_pour_72 (lv_at hl 0 rfl) ?_
        refine lv_ldc (v := (-1000000005)) hx hb hown (hts _ kw_1212) dX7_pour_74 ?_
        obtain ⟨y0_7, h_7, kg_7⟩ := sk_b1E h
        have J_7 : ∀ (x_11 : Int32) (H : Heap) (locs : List Loc) (ls : Array Slot), some x_11 = some y0_7 → lv_has ls 7 [(0, .ref (sk_ad g 88)), (1, .int a1), (2, .int a2), (3, .int a3), (4, .int a4)] → sk_P g M H → va_S (sk_A g) s.heap H locs → W p l e (sk_rm 3) s m av below meth c H locs 0 0 (MQ below (sk_QI g rr MM) av s 0 0 (sk_A g)) (F0 m 97 ls [.int x_11]) := by
          intro x_11 H locs ls he hl hM hS
          obtain rfl := Option.some.inj he
          have h := kg_7
          refine lv_istore (lv' := [(6, .int x_11), (0, .ref (sk_ad g 88)), (1, .int a1), (2, .int a2), (3, .int a3), (4, .int a4)]) hx hb dX7_pour_97 hl (by decide) rfl (fun ls hl => ?_)
          refine lv_iload_n hx hb dX7_pour_99 rfl (lv_at hl 4 rfl) ?_
          refine lv_iload hx hb dX7_pour_100 (lv_at hl 0 rfl) ?_
          refine lv_aload_n hx hb dX7_pour_102 rfl (lv_at hl 1 rfl) ?_
          refine lv_bipush (v := 43) hx hb dX7_pour_103 (by decide) ?_
          refine lv_bipush (v := 9) hx hb dX7_pour_105 (by decide) ?_
          refine lv_iload_n hx hb dX7_pour_107 rfl (lv_at hl 2 rfl) ?_
          refine lv_imul hx hb dX7_pour_108 ?_
          refine lv_iadd hx hb dX7_pour_109 ?_
          refine lv_iload hx hb dX7_pour_110 (lv_at hl 5 rfl) ?_
          refine lv_iadd hx hb dX7_pour_112 ?_
          refine lv_iload hx hb dX7_pour_113 (lv_at hl 0 rfl) ?_
          obtain ⟨x_12, M_13, h_14, h⟩ := sk_b2E h
          refine sk_contI (sk_runV (As := [.int ((43 + (9 * a1)) + a4), .int x_11]) (rest := [.int x_11, .int a3]) C (c_X7_becomes g l ((43 + (9 * a1)) + a4) x_11 M h_14) yo_X7_becomes kw_1079 (sk_recv (ci := 7) C hM rfl rfl) (by decide) hM hS hl.1 rfl rfl (Nat.le_of_ble_eq_true rfl) dX7_pour_115) hS (fun H locs hM hS => ?_)
          have J : ∀ (vv : Int32) (H : Heap) (locs : List Loc), (if x_11 = x_12 then 0 else 1 : Int32) = vv → sk_P g M_13 H → va_S (sk_A g) s.heap H locs → W p l e (sk_rm 3) s m av below meth c H locs 0 0 (MQ below (sk_QI g rr MM) av s 0 0 (sk_A g)) (F0 m 126 ls [.int vv, .int a3]) := by
            intro vv H locs hvv hM hS
            subst hvv
            refine lv_iadd hx hb dX7_pour_126 ?_
            refine lv_topi (fun x_15 ex_15 => ?_)
            have h := sk_letU h ex_15
            refine lv_istore_n (lv' := [(3, .int x_15), (6, .int x_11), (0, .ref (sk_ad g 88)), (1, .int a1), (2, .int a2), (4, .int a4)]) hx hb dX7_pour_127 rfl hl (by decide) rfl (fun ls hl => ?_)
            refine lv_iinc (v := (a4 + 1)) (lv' := [(4, .int (a4 + 1)), (3, .int x_15), (6, .int x_11), (0, .ref (sk_ad g 88)), (1, .int a1), (2, .int a2)]) hx hb dX7_pour_128 hl (k := 5) rfl rfl (by decide) rfl (fun ls hl => ?_)
            refine lv_goto hx hb dX7_pour_131 rfl ?_
            exact ih x_15 (a4 + 1) M_13 _ _ _ (lv_sub hl [3, 4, 5, 1, 0] rfl) hM hS h kx
          refine lv_icmp_ne hx hb dX7_pour_118 rfl (fun hc => ?_) (fun hc => ?_)
          · have J := fun vv H locs q => J vv H locs ((if_neg hc).trans q)
            refine lv_iconst (v := 1) hx hb dX7_pour_125 (by decide) ?_
            exact J _ _ _ rfl hM hS
          · have J := fun vv H locs q => J vv H locs ((if_pos hc).trans q)
            refine lv_iconst (v := 0) hx hb dX7_pour_121 (by decide) ?_
            refine lv_goto hx hb dX7_pour_122 rfl ?_
            exact J _ _ _ rfl hM hS
        have h := h_7
        refine lv_icmp_ne hx hb dX7_pour_76 rfl (fun hc => ?_) (fun hc => ?_)
        · have h := sk_neg h hc
          refine lv_iload hx hb dX7_pour_89 (lv_at hl 0 rfl) ?_
          refine lv_sipush (v := 999) hx hb dX7_pour_91 (by decide) ?_
          refine sk_contI (sk_runS (As := [.int x_6, .int 999]) (rest := []) C (c_X7_within g l x_6 999 M rfl) yo_X7_within kw_1168 (by decide) hM hS hl.1 rfl rfl (Nat.le_of_ble_eq_true rfl) dX7_pour_94) hS (fun H locs hM hS => ?_)
          exact J_7 _ _ _ _ h (lv_sub hl [1, 2, 3, 4, 5] rfl) hM hS
        · have h := sk_pos h hc
          refine lv_aload_n hx hb dX7_pour_79 rfl (lv_at hl 1 rfl) ?_
          refine lv_iload_n hx hb dX7_pour_80 rfl (lv_at hl 2 rfl) ?_
          refine lv_iload hx hb dX7_pour_81 (lv_at hl 5 rfl) ?_
          obtain ⟨x_9, h_10, h⟩ := sk_b1E h
          refine sk_contI (sk_runV (As := [.int a1, .int a4]) (rest := []) C (c_X7_on g l a1 a4 M h_10) yo_X7_on kw_1137 (sk_recv (ci := 7) C hM rfl rfl) (by decide) hM hS hl.1 rfl rfl (Nat.le_of_ble_eq_true rfl) dX7_pour_83) hS (fun H locs hM hS => ?_)
          refine lv_goto hx hb dX7_pour_86 rfl ?_
          exact J_7 _ _ _ _ h (lv_sub hl [1, 2, 3, 4, 5] rfl) hM hS
set_option maxHeartbeats 4000000 in
set_option maxRecDepth 100000 in
theorem c_X7_pour (g : sk_G) (l : Launch) (a1 : Int32) (a2 : Int32) (M : sk_M) {rr : Int32} {MM : sk_M} (h : f_X7_pour a1 a2 M = some (rr, MM)) : sk_MI g l yX7_pour cX7_pour 7 (some .int) 3 [.ref (sk_ad g 88), .int a1, .int a2] M rr MM := by
  refine sk_go [(0, .ref (sk_ad g 88)), (1, .int a1), (2, .int a2)] (by decide) (Nat.le_of_ble_eq_true rfl) rfl ?_
  intro p e s m av below meth c C ls hl hM hS
  obtain ⟨hx, hb, hml, hown, hts, hK, hE, hr, hlocks⟩ := id C
  rw [f_X7_pour] at h
  refine lv_aload_n hx hb dX7_pour_0 rfl (lv_at hl 0 rfl) ?_
  refine lv_iload_n hx hb dX7_pour_1 rfl (lv_at hl 1 rfl) ?_
  refine sk_contI (sk_runV (As := [.int a1]) (rest := []) C (c_X7_isCloth g l a1 M rfl) yo_X7_isCloth kw_1133 (sk_recv (ci := 7) C hM rfl rfl) (by decide) hM hS hl.1 rfl rfl (Nat.le_of_ble_eq_true rfl) dX7_pour_2) hS (fun H locs hM hS => ?_)
  refine lv_if_eq hx hb dX7_pour_5 rfl (fun hc => ?_) (fun hc => ?_)
  · have h := sk_pos h hc
    refine lv_ldc (v := (-1000000001)) hx hb hown (hts _ kw_1044) dX7_pour_15 ?_
    exact sk_iret C hM hS (sk_e2 h) dX7_pour_17
  · have h := sk_neg h hc
    refine lv_iload_n hx hb dX7_pour_8 rfl (lv_at hl 2 rfl) ?_
    refine sk_contI (sk_runS (As := [.int a2]) (rest := []) C (c_X7_isSheet g l a2 M rfl) yo_X7_isSheet kw_1384 (by decide) hM hS hl.1 rfl rfl (Nat.le_of_ble_eq_true rfl) dX7_pour_9) hS (fun H locs hM hS => ?_)
    refine lv_if_ne hx hb dX7_pour_12 rfl (fun hc => ?_) (fun hc => ?_)
    · have h := sk_neg h hc
      refine lv_aload_n hx hb dX7_pour_18 rfl (lv_at hl 0 rfl) ?_
      refine sk_getR (o := 88) (ci := 7) (j := 4) (t := 92) C hM rfl rfl (by decide) rfl rfl kw_939 dX7_pour_19 ?_
      refine lv_iload_n hx hb dX7_pour_22 rfl (lv_at hl 2 rfl) ?_
      obtain ⟨i_3, h⟩ := sk_chkE h
      refine sk_iald (o := 92) C hM rfl i_3 dX7_pour_23 ?_
      refine lv_if_ge hx hb dX7_pour_24 rfl (fun hc => ?_) (fun hc => ?_)
      · have h := sk_pos h hc
        refine lv_iconst (v := 0) hx hb dX7_pour_31 (by decide) ?_
        refine lv_istore_n (lv' := [(3, .int 0), (0, .ref (sk_ad g 88)), (1, .int a1), (2, .int a2)]) hx hb dX7_pour_32 rfl hl (by decide) rfl (fun ls hl => ?_)
        refine lv_iconst (v := 0) hx hb dX7_pour_33 (by decide) ?_
        refine lv_istore (lv' := [(4, .int 0), (3, .int 0), (0, .ref (sk_ad g 88)), (1, .int a1), (2, .int a2)]) hx hb dX7_pour_34 hl (by decide) rfl (fun ls hl => ?_)
        obtain ⟨x_16, M_17, h_18, h⟩ := sk_b2E h
        refine w_X7_pour_L36 C a1 a2 sk_FU 0 0 M _ _ _ (lv_sub hl [2, 3, 4, 1, 0] rfl) hM hS h_18 (fun y_19 y_20 H locs ls he hl hM hS => ?_)
        obtain ⟨rfl, rfl⟩ := sk_e2 he
        refine lv_iload_n hx hb dX7_pour_134 rfl (lv_at hl 0 rfl) ?_
        exact sk_iret C hM hS (sk_e2 h) dX7_pour_135
      · have h := sk_neg h hc
        refine lv_ldcw (v := (-1000000011)) hx hb hown (hts _ kw_1393) dX7_pour_27 ?_
        exact sk_iret C hM hS (sk_e2 h) dX7_pour_30
    · have h := sk_pos h hc
      refine lv_ldc (v := (-1000000001)) hx hb hown (hts _ kw_1044) dX7_pour_15 ?_
      exact sk_iret C hM hS (sk_e2 h) dX7_pour_17
theorem dX7_dated_0 : decode cX7_dated 0 = .ok (.iload_n 1, 1) := by decide +kernel
theorem dX7_dated_1 : decode cX7_dated 1 = .ok (.invokestatic 296, 3) := by decide +kernel
theorem dX7_dated_4 : decode cX7_dated 4 = .ok (.ifCond .eq 30, 3) := by decide +kernel
theorem dX7_dated_7 : decode cX7_dated 7 = .ok (.aload_n 0, 1) := by decide +kernel
theorem dX7_dated_8 : decode cX7_dated 8 = .ok (.iload_n 2, 1) := by decide +kernel
theorem dX7_dated_9 : decode cX7_dated 9 = .ok (.invokevirtual 138, 3) := by decide +kernel
theorem dX7_dated_12 : decode cX7_dated 12 = .ok (.ifCond .eq 22, 3) := by decide +kernel
theorem dX7_dated_15 : decode cX7_dated 15 = .ok (.aload_n 0, 1) := by decide +kernel
theorem dX7_dated_16 : decode cX7_dated 16 = .ok (.iload_n 3, 1) := by decide +kernel
theorem dX7_dated_17 : decode cX7_dated 17 = .ok (.invokevirtual 107, 3) := by decide +kernel
theorem dX7_dated_20 : decode cX7_dated 20 = .ok (.ifCond .eq 14, 3) := by decide +kernel
theorem dX7_dated_23 : decode cX7_dated 23 = .ok (.iload 4, 2) := by decide +kernel
theorem dX7_dated_25 : decode cX7_dated 25 = .ok (.i2l, 1) := by decide +kernel
theorem dX7_dated_26 : decode cX7_dated 26 = .ok (.lconst 0, 1) := by decide +kernel
theorem dX7_dated_27 : decode cX7_dated 27 = .ok (.lconst 1, 1) := by decide +kernel
theorem dX7_dated_28 : decode cX7_dated 28 = .ok (.invokestatic 71, 3) := by decide +kernel
theorem dX7_dated_31 : decode cX7_dated 31 = .ok (.ifCond .ne 6, 3) := by decide +kernel
theorem dX7_dated_34 : decode cX7_dated 34 = .ok (.ldc 80, 2) := by decide +kernel
theorem dX7_dated_36 : decode cX7_dated 36 = .ok (.ireturn, 1) := by decide +kernel
theorem dX7_dated_37 : decode cX7_dated 37 = .ok (.aload_n 0, 1) := by decide +kernel
theorem dX7_dated_38 : decode cX7_dated 38 = .ok (.getfield 19, 3) := by decide +kernel
theorem dX7_dated_41 : decode cX7_dated 41 = .ok (.iload_n 1, 1) := by decide +kernel
theorem dX7_dated_42 : decode cX7_dated 42 = .ok (.iaload, 1) := by decide +kernel
theorem dX7_dated_43 : decode cX7_dated 43 = .ok (.ifCond .ge 7, 3) := by decide +kernel
theorem dX7_dated_46 : decode cX7_dated 46 = .ok (.ldc_w 302, 3) := by decide +kernel
theorem dX7_dated_49 : decode cX7_dated 49 = .ok (.ireturn, 1) := by decide +kernel
theorem dX7_dated_50 : decode cX7_dated 50 = .ok (.aload_n 0, 1) := by decide +kernel
theorem dX7_dated_51 : decode cX7_dated 51 = .ok (.iload_n 2, 1) := by decide +kernel
theorem dX7_dated_52 : decode cX7_dated 52 = .ok (.iload_n 3, 1) := by decide +kernel
theorem dX7_dated_53 : decode cX7_dated 53 = .ok (.invokevirtual 100, 3) := by decide +kernel
theorem dX7_dated_56 : decode cX7_dated 56 = .ok (.istore 5, 2) := by decide +kernel
theorem dX7_dated_58 : decode cX7_dated 58 = .ok (.iconst 0, 1) := by decide +kernel
theorem dX7_dated_59 : decode cX7_dated 59 = .ok (.istore 6, 2) := by decide +kernel
theorem dX7_dated_61 : decode cX7_dated 61 = .ok (.iload 6, 2) := by decide +kernel
theorem dX7_dated_63 : decode cX7_dated 63 = .ok (.sipush 130, 3) := by decide +kernel
theorem dX7_dated_66 : decode cX7_dated 66 = .ok (.if_icmp .ge 48, 3) := by decide +kernel
theorem dX7_dated_69 : decode cX7_dated 69 = .ok (.aload_n 0, 1) := by decide +kernel
theorem dX7_dated_70 : decode cX7_dated 70 = .ok (.getfield 58, 3) := by decide +kernel
theorem dX7_dated_73 : decode cX7_dated 73 = .ok (.iload 6, 2) := by decide +kernel
theorem dX7_dated_75 : decode cX7_dated 75 = .ok (.iload 5, 2) := by decide +kernel
theorem dX7_dated_77 : decode cX7_dated 77 = .ok (.iastore, 1) := by decide +kernel
theorem dX7_dated_78 : decode cX7_dated 78 = .ok (.iload 5, 2) := by decide +kernel
theorem dX7_dated_80 : decode cX7_dated 80 = .ok (.aload_n 0, 1) := by decide +kernel
theorem dX7_dated_81 : decode cX7_dated 81 = .ok (.iload_n 3, 1) := by decide +kernel
theorem dX7_dated_82 : decode cX7_dated 82 = .ok (.iload 5, 2) := by decide +kernel
theorem dX7_dated_84 : decode cX7_dated 84 = .ok (.aload_n 0, 1) := by decide +kernel
theorem dX7_dated_85 : decode cX7_dated 85 = .ok (.getfield 7, 3) := by decide +kernel
theorem dX7_dated_88 : decode cX7_dated 88 = .ok (.bipush 37, 2) := by decide +kernel
theorem dX7_dated_90 : decode cX7_dated 90 = .ok (.iload_n 2, 1) := by decide +kernel
theorem dX7_dated_91 : decode cX7_dated 91 = .ok (.iadd, 1) := by decide +kernel
theorem dX7_dated_92 : decode cX7_dated 92 = .ok (.iaload, 1) := by decide +kernel
theorem dX7_dated_93 : decode cX7_dated 93 = .ok (.aload_n 0, 1) := by decide +kernel
theorem dX7_dated_94 : decode cX7_dated 94 = .ok (.getfield 7, 3) := by decide +kernel
theorem dX7_dated_97 : decode cX7_dated 97 = .ok (.iconst 4, 1) := by decide +kernel
theorem dX7_dated_98 : decode cX7_dated 98 = .ok (.iaload, 1) := by decide +kernel
theorem dX7_dated_99 : decode cX7_dated 99 = .ok (.iload 6, 2) := by decide +kernel
theorem dX7_dated_101 : decode cX7_dated 101 = .ok (.iadd, 1) := by decide +kernel
theorem dX7_dated_102 : decode cX7_dated 102 = .ok (.invokevirtual 103, 3) := by decide +kernel
theorem dX7_dated_105 : decode cX7_dated 105 = .ok (.isub, 1) := by decide +kernel
theorem dX7_dated_106 : decode cX7_dated 106 = .ok (.istore 5, 2) := by decide +kernel
theorem dX7_dated_108 : decode cX7_dated 108 = .ok (.iinc 6 1, 3) := by decide +kernel
theorem dX7_dated_111 : decode cX7_dated 111 = .ok (.goto (-50), 3) := by decide +kernel
theorem dX7_dated_114 : decode cX7_dated 114 = .ok (.iconst (-1), 1) := by decide +kernel
theorem dX7_dated_115 : decode cX7_dated 115 = .ok (.istore 6, 2) := by decide +kernel
theorem dX7_dated_117 : decode cX7_dated 117 = .ok (.iconst 0, 1) := by decide +kernel
theorem dX7_dated_118 : decode cX7_dated 118 = .ok (.istore 7, 2) := by decide +kernel
theorem dX7_dated_120 : decode cX7_dated 120 = .ok (.iconst 0, 1) := by decide +kernel
theorem dX7_dated_121 : decode cX7_dated 121 = .ok (.istore 8, 2) := by decide +kernel
theorem dX7_dated_123 : decode cX7_dated 123 = .ok (.iload 8, 2) := by decide +kernel
theorem dX7_dated_125 : decode cX7_dated 125 = .ok (.bipush 100, 2) := by decide +kernel
theorem dX7_dated_127 : decode cX7_dated 127 = .ok (.if_icmp .gt 110, 3) := by decide +kernel
theorem dX7_dated_130 : decode cX7_dated 130 = .ok (.iconst 0, 1) := by decide +kernel
theorem dX7_dated_131 : decode cX7_dated 131 = .ok (.istore 9, 2) := by decide +kernel
theorem dX7_dated_133 : decode cX7_dated 133 = .ok (.iconst 0, 1) := by decide +kernel
theorem dX7_dated_134 : decode cX7_dated 134 = .ok (.istore 10, 2) := by decide +kernel
theorem dX7_dated_136 : decode cX7_dated 136 = .ok (.iload 10, 2) := by decide +kernel
theorem dX7_dated_138 : decode cX7_dated 138 = .ok (.aload_n 0, 1) := by decide +kernel
theorem dX7_dated_139 : decode cX7_dated 139 = .ok (.getfield 22, 3) := by decide +kernel
theorem dX7_dated_142 : decode cX7_dated 142 = .ok (.iload_n 1, 1) := by decide +kernel
theorem dX7_dated_143 : decode cX7_dated 143 = .ok (.iaload, 1) := by decide +kernel
theorem dX7_dated_144 : decode cX7_dated 144 = .ok (.if_icmp .ge 67, 3) := by decide +kernel
theorem dX7_dated_147 : decode cX7_dated 147 = .ok (.aload_n 0, 1) := by decide +kernel
theorem dX7_dated_148 : decode cX7_dated 148 = .ok (.getfield 25, 3) := by decide +kernel
theorem dX7_dated_151 : decode cX7_dated 151 = .ok (.bipush 24, 2) := by decide +kernel
theorem dX7_dated_153 : decode cX7_dated 153 = .ok (.iload_n 1, 1) := by decide +kernel
theorem dX7_dated_154 : decode cX7_dated 154 = .ok (.imul, 1) := by decide +kernel
theorem dX7_dated_155 : decode cX7_dated 155 = .ok (.iload 10, 2) := by decide +kernel
theorem dX7_dated_157 : decode cX7_dated 157 = .ok (.iadd, 1) := by decide +kernel
theorem dX7_dated_158 : decode cX7_dated 158 = .ok (.iaload, 1) := by decide +kernel
theorem dX7_dated_159 : decode cX7_dated 159 = .ok (.istore 11, 2) := by decide +kernel
theorem dX7_dated_161 : decode cX7_dated 161 = .ok (.iload 11, 2) := by decide +kernel
theorem dX7_dated_163 : decode cX7_dated 163 = .ok (.ldc 70, 2) := by decide +kernel
theorem dX7_dated_165 : decode cX7_dated 165 = .ok (.if_icmp .ne 7, 3) := by decide +kernel
theorem dX7_dated_168 : decode cX7_dated 168 = .ok (.iconst 0, 1) := by decide +kernel
theorem dX7_dated_169 : decode cX7_dated 169 = .ok (.goto 16, 3) := by decide +kernel
theorem dX7_dated_172 : decode cX7_dated 172 = .ok (.iload 11, 2) := by decide +kernel
theorem dX7_dated_174 : decode cX7_dated 174 = .ok (.aload_n 0, 1) := by decide +kernel
theorem dX7_dated_175 : decode cX7_dated 175 = .ok (.getfield 58, 3) := by decide +kernel
theorem dX7_dated_178 : decode cX7_dated 178 = .ok (.iload 8, 2) := by decide +kernel
theorem dX7_dated_180 : decode cX7_dated 180 = .ok (.iload 10, 2) := by decide +kernel
theorem dX7_dated_182 : decode cX7_dated 182 = .ok (.iadd, 1) := by decide +kernel
theorem dX7_dated_183 : decode cX7_dated 183 = .ok (.iaload, 1) := by decide +kernel
theorem dX7_dated_184 : decode cX7_dated 184 = .ok (.isub, 1) := by decide +kernel
theorem dX7_dated_185 : decode cX7_dated 185 = .ok (.istore 12, 2) := by decide +kernel
theorem dX7_dated_187 : decode cX7_dated 187 = .ok (.iload 9, 2) := by decide +kernel
theorem dX7_dated_189 : decode cX7_dated 189 = .ok (.iload 12, 2) := by decide +kernel
theorem dX7_dated_191 : decode cX7_dated 191 = .ok (.ifCond .ge 9, 3) := by decide +kernel
theorem dX7_dated_194 : decode cX7_dated 194 = .ok (.iload 12, 2) := by decide +kernel
theorem dX7_dated_196 : decode cX7_dated 196 = .ok (.ineg, 1) := by decide +kernel
theorem dX7_dated_197 : decode cX7_dated 197 = .ok (.goto 5, 3) := by decide +kernel
theorem dX7_dated_200 : decode cX7_dated 200 = .ok (.iload 12, 2) := by decide +kernel
theorem dX7_dated_202 : decode cX7_dated 202 = .ok (.iadd, 1) := by decide +kernel
theorem dX7_dated_203 : decode cX7_dated 203 = .ok (.istore 9, 2) := by decide +kernel
theorem dX7_dated_205 : decode cX7_dated 205 = .ok (.iinc 10 1, 3) := by decide +kernel
theorem dX7_dated_208 : decode cX7_dated 208 = .ok (.goto (-72), 3) := by decide +kernel
theorem dX7_dated_211 : decode cX7_dated 211 = .ok (.iload 6, 2) := by decide +kernel
theorem dX7_dated_213 : decode cX7_dated 213 = .ok (.ifCond .lt 10, 3) := by decide +kernel
theorem dX7_dated_216 : decode cX7_dated 216 = .ok (.iload 9, 2) := by decide +kernel
theorem dX7_dated_218 : decode cX7_dated 218 = .ok (.iload 7, 2) := by decide +kernel
theorem dX7_dated_220 : decode cX7_dated 220 = .ok (.if_icmp .ge 11, 3) := by decide +kernel
theorem dX7_dated_223 : decode cX7_dated 223 = .ok (.iload 8, 2) := by decide +kernel
theorem dX7_dated_225 : decode cX7_dated 225 = .ok (.istore 6, 2) := by decide +kernel
theorem dX7_dated_227 : decode cX7_dated 227 = .ok (.iload 9, 2) := by decide +kernel
theorem dX7_dated_229 : decode cX7_dated 229 = .ok (.istore 7, 2) := by decide +kernel
theorem dX7_dated_231 : decode cX7_dated 231 = .ok (.iinc 8 1, 3) := by decide +kernel
theorem dX7_dated_234 : decode cX7_dated 234 = .ok (.goto (-111), 3) := by decide +kernel
theorem dX7_dated_237 : decode cX7_dated 237 = .ok (.iload 4, 2) := by decide +kernel
theorem dX7_dated_239 : decode cX7_dated 239 = .ok (.ifCond .ne 8, 3) := by decide +kernel
theorem dX7_dated_242 : decode cX7_dated 242 = .ok (.iload 6, 2) := by decide +kernel
theorem dX7_dated_244 : decode cX7_dated 244 = .ok (.goto 5, 3) := by decide +kernel
theorem dX7_dated_247 : decode cX7_dated 247 = .ok (.iload 7, 2) := by decide +kernel
theorem dX7_dated_249 : decode cX7_dated 249 = .ok (.ireturn, 1) := by decide +kernel
set_option maxHeartbeats 4000000 in
set_option maxRecDepth 100000 in
theorem w_X7_dated_L61 {g : sk_G} {l : Launch} {p : Program} {e : Env} {s : State} {m : MethodId} {av : Array Value} {below : List Frame} {meth : Method} {c : Code} (C : sk_C g p s m av meth c cX7_dated 13 RX7 (some .int)) (a1 : Int32) (a2 : Int32) (a3 : Int32) (a4 : Int32) {rr : Int32} {MM : sk_M} :
    ∀ (n : Nat) (a5 : Int32) (a6 : Int32) (M : sk_M) (H : Heap) (locs : List Loc) (ls : Array Slot), lv_has ls 13 [(0, .ref (sk_ad g 88)), (1, .int a1), (2, .int a2), (3, .int a3), (4, .int a4), (5, .int a5), (6, .int a6)] → sk_P g M H → va_S (sk_A g) s.heap H locs → ∀ {out : sk_M}, f_X7_dated_L61 a1 a2 a3 a4 n a5 a6 M = some out → (∀ (M1 : sk_M) (H : Heap) (locs : List Loc) (ls : Array Slot), some M1 = some out → lv_has ls 13 [(0, .ref (sk_ad g 88)), (1, .int a1), (4, .int a4)] → sk_P g M1 H → va_S (sk_A g) s.heap H locs → W p l e (sk_rm 4) s m av below meth c H locs 0 0 (MQ below (sk_QI g rr MM) av s 0 0 (sk_A g)) (F0 m 114 ls [])) → W p l e (sk_rm 4) s m av below meth c H locs 0 0 (MQ below (sk_QI g rr MM) av s 0 0 (sk_A g)) (F0 m 61 ls []) := by
  obtain ⟨hx, hb, hml, hown, hts, hK, hE, hr, hlocks⟩ := id C
  intro n
  induction n with
  | zero =>
    intro a5 a6 M H locs ls hl hM hS out h
    cases h
  | succ n ih =>
    intro a5 a6 M H locs ls hl hM hS out h kx
    rw [f_X7_dated_L61] at h
    refine lv_iload hx hb dX7_dated_61 (lv_at hl 6 rfl) ?_
    refine lv_sipush (v := 130) hx hb dX7_dated_63 (by decide) ?_
    refine lv_icmp_ge hx hb dX7_dated_66 rfl (fun hc => ?_) (fun hc => ?_)
    · have h := sk_pos h hc
      exact kx _ _ _ _ h (lv_sub hl [0, 1, 4] rfl) hM hS
    · have h := sk_neg h hc
      refine lv_aload_n hx hb dX7_dated_69 rfl (lv_at hl 0 rfl) ?_
      refine sk_getR (o := 88) (ci := 7) (j := 28) (t := 105) C hM rfl rfl (by decide) rfl rfl kw_963 dX7_dated_70 ?_
      refine lv_iload hx hb dX7_dated_73 (lv_at hl 6 rfl) ?_
      refine lv_iload hx hb dX7_dated_75 (lv_at hl 5 rfl) ?_
      obtain ⟨i_8, h⟩ := sk_chkE h
      refine sk_iast (o := 105) C hM hS rfl i_8 dX7_dated_77 (fun M_9 eM_9 H locs hM hS => ?_)
      have h := sk_letU h eM_9
      refine lv_iload hx hb dX7_dated_78 (lv_at hl 5 rfl) ?_
      refine lv_aload_n hx hb dX7_dated_80 rfl (lv_at hl 0 rfl) ?_
      refine lv_iload_n hx hb dX7_dated_81 rfl (lv_at hl 3 rfl) ?_
      refine lv_iload hx hb dX7_dated_82 (lv_at hl 5 rfl) ?_
      refine lv_aload_n hx hb dX7_dated_84 rfl (lv_at hl 0 rfl) ?_
      refine sk_getR (o := 88) (ci := 7) (j := 0) (t := 89) C hM rfl rfl (by decide) rfl rfl kw_935 dX7_dated_85 ?_
      refine lv_bipush (v := 37) hx hb dX7_dated_88 (by decide) ?_
      refine lv_iload_n hx hb dX7_dated_90 rfl (lv_at hl 2 rfl) ?_
      refine lv_iadd hx hb dX7_dated_91 ?_
      obtain ⟨i_10, h⟩ := sk_chkE h
      refine sk_iald (o := 89) C hM rfl i_10 dX7_dated_92 ?_
      refine lv_aload_n hx hb dX7_dated_93 rfl (lv_at hl 0 rfl) ?_
      refine sk_getR (o := 88) (ci := 7) (j := 0) (t := 89) C hM rfl rfl (by decide) rfl rfl kw_935 dX7_dated_94 ?_
      refine lv_iconst (v := 4) hx hb dX7_dated_97 (by decide) ?_
      refine sk_iald (o := 89) C hM rfl (by decide) dX7_dated_98 ?_
      refine W.eq (g2 := F0 m 99 ls [.int (M_9 89 4), .int (M_9 89 (37 + a2).toNatClampNeg), .int a5, .int a3, .ref (sk_ad g 88), .int a5]) rfl ?_
      refine lv_iload hx hb dX7_dated_99 (lv_at hl 6 rfl) ?_
      refine lv_iadd hx hb dX7_dated_101 ?_
      obtain ⟨x_11, M_12, h_13, h⟩ := sk_b2E h
      refine sk_contI (sk_runV (As := [.int a3, .int a5, .int (M_9 89 (37 + a2).toNatClampNeg), .int ((M_9 89 4) + a6)]) (rest := [.int a5]) C (c_X7_losesBy g l a3 a5 (M_9 89 (37 + a2).toNatClampNeg) ((M_9 89 4) + a6) M_9 h_13) yo_X7_losesBy kw_1149 (sk_recv (ci := 7) C hM rfl rfl) (by decide) hM hS hl.1 rfl rfl (Nat.le_of_ble_eq_true rfl) dX7_dated_102) hS (fun H locs hM hS => ?_)
      refine lv_isub hx hb dX7_dated_105 ?_
      refine lv_topi (fun x_14 ex_14 => ?_)
      have h := sk_letU h ex_14
      refine lv_istore (lv' := [(5, .int x_14), (0, .ref (sk_ad g 88)), (1, .int a1), (2, .int a2), (3, .int a3), (4, .int a4), (6, .int a6)]) hx hb dX7_dated_106 hl (by decide) rfl (fun ls hl => ?_)
      refine lv_iinc (v := (a6 + 1)) (lv' := [(6, .int (a6 + 1)), (5, .int x_14), (0, .ref (sk_ad g 88)), (1, .int a1), (2, .int a2), (3, .int a3), (4, .int a4)]) hx hb dX7_dated_108 hl (k := 6) rfl rfl (by decide) rfl (fun ls hl => ?_)
      refine lv_goto hx hb dX7_dated_111 rfl ?_
      exact ih x_14 (a6 + 1) M_12 _ _ _ (lv_sub hl [2, 3, 4, 5, 6, 1, 0] rfl) hM hS h kx
set_option maxHeartbeats 4000000 in
set_option maxRecDepth 100000 in
theorem w_X7_dated_L136 {g : sk_G} {l : Launch} {p : Program} {e : Env} {s : State} {m : MethodId} {av : Array Value} {below : List Frame} {meth : Method} {c : Code} (C : sk_C g p s m av meth c cX7_dated 13 RX7 (some .int)) (a1 : Int32) (a4 : Int32) (a6 : Int32) (a7 : Int32) (a8 : Int32) (M : sk_M) {rr : Int32} {MM : sk_M} :
    ∀ (n : Nat) (a9 : Int32) (a10 : Int32) (H : Heap) (locs : List Loc) (ls : Array Slot), lv_has ls 13 [(0, .ref (sk_ad g 88)), (1, .int a1), (4, .int a4), (6, .int a6), (7, .int a7), (8, .int a8), (9, .int a9), (10, .int a10)] → sk_P g M H → va_S (sk_A g) s.heap H locs → ∀ {out : Int32}, f_X7_dated_L136 a1 a4 a6 a7 a8 M n a9 a10 = some out → (∀ (x9 : Int32) (H : Heap) (locs : List Loc) (ls : Array Slot), some x9 = some out → lv_has ls 13 [(0, .ref (sk_ad g 88)), (1, .int a1), (4, .int a4), (6, .int a6), (7, .int a7), (8, .int a8), (9, .int x9)] → sk_P g M H → va_S (sk_A g) s.heap H locs → W p l e (sk_rm 4) s m av below meth c H locs 0 0 (MQ below (sk_QI g rr MM) av s 0 0 (sk_A g)) (F0 m 211 ls [])) → W p l e (sk_rm 4) s m av below meth c H locs 0 0 (MQ below (sk_QI g rr MM) av s 0 0 (sk_A g)) (F0 m 136 ls []) := by
  obtain ⟨hx, hb, hml, hown, hts, hK, hE, hr, hlocks⟩ := id C
  intro n
  induction n with
  | zero =>
    intro a9 a10 H locs ls hl hM hS out h
    cases h
  | succ n ih =>
    intro a9 a10 H locs ls hl hM hS out h kx
    rw [f_X7_dated_L136] at h
    refine lv_iload hx hb dX7_dated_136 (lv_at hl 7 rfl) ?_
    refine lv_aload_n hx hb dX7_dated_138 rfl (lv_at hl 0 rfl) ?_
    refine sk_getR (o := 88) (ci := 7) (j := 5) (t := 93) C hM rfl rfl (by decide) rfl rfl kw_940 dX7_dated_139 ?_
    refine lv_iload_n hx hb dX7_dated_142 rfl (lv_at hl 1 rfl) ?_
    obtain ⟨i_16, h⟩ := sk_chkE h
    refine sk_iald (o := 93) C hM rfl i_16 dX7_dated_143 ?_
    refine lv_icmp_ge hx hb dX7_dated_144 rfl (fun hc => ?_) (fun hc => ?_)
    · have h := sk_pos h hc
      exact kx _ _ _ _ h (lv_sub hl [0, 1, 2, 3, 4, 5, 6] rfl) hM hS
    · have h := sk_neg h hc
      refine lv_aload_n hx hb dX7_dated_147 rfl (lv_at hl 0 rfl) ?_
      refine sk_getR (o := 88) (ci := 7) (j := 6) (t := 94) C hM rfl rfl (by decide) rfl rfl kw_941 dX7_dated_148 ?_
      refine lv_bipush (v := 24) hx hb dX7_dated_151 (by decide) ?_
      refine lv_iload_n hx hb dX7_dated_153 rfl (lv_at hl 1 rfl) ?_
      refine lv_imul hx hb dX7_dated_154 ?_
      refine lv_iload hx hb dX7_dated_155 (lv_at hl 7 rfl) ?_
      refine lv_iadd hx hb dX7_dated_157 ?_
      obtain ⟨i_17, h⟩ := sk_chkE h
      refine sk_iald (o := 94) C hM rfl i_17 dX7_dated_158 ?_
      refine lv_topi (fun x_18 ex_18 => ?_)
      have h := sk_letU h ex_18
      refine lv_istore (lv' := [(11, .int x_18), (0, .ref (sk_ad g 88)), (1, .int a1), (4, .int a4), (6, .int a6), (7, .int a7), (8, .int a8), (9, .int a9), (10, .int a10)]) hx hb dX7_dated_159 hl (by decide) rfl (fun ls hl => ?_)
      refine lv_iload hx hb dX7_dated_161 (lv_at hl 0 rfl) ?_
      refine lv_ldc (v := (-1000000005)) hx hb hown (hts _ kw_1212) dX7_dated_163 ?_
      obtain ⟨y0_19, h_19, kg_19⟩ := sk_b1E h
      have J_19 : ∀ (x_21 : Int32) (H : Heap) (locs : List Loc) (ls : Array Slot), some x_21 = some y0_19 → lv_has ls 13 [(0, .ref (sk_ad g 88)), (1, .int a1), (4, .int a4), (6, .int a6), (7, .int a7), (8, .int a8), (9, .int a9), (10, .int a10)] → sk_P g M H → va_S (sk_A g) s.heap H locs → W p l e (sk_rm 4) s m av below meth c H locs 0 0 (MQ below (sk_QI g rr MM) av s 0 0 (sk_A g)) (F0 m 185 ls [.int x_21]) := by
        intro x_21 H locs ls he hl hM hS
        obtain rfl := Option.some.inj he
        have h := kg_19
        refine lv_istore (lv' := [(12, .int x_21), (0, .ref (sk_ad g 88)), (1, .int a1), (4, .int a4), (6, .int a6), (7, .int a7), (8, .int a8), (9, .int a9), (10, .int a10)]) hx hb dX7_dated_185 hl (by decide) rfl (fun ls hl => ?_)
        refine lv_iload hx hb dX7_dated_187 (lv_at hl 7 rfl) ?_
        refine lv_iload hx hb dX7_dated_189 (lv_at hl 0 rfl) ?_
        have J : ∀ (vv : Int32) (H : Heap) (locs : List Loc), (if 0 ≤ x_21 then x_21 else (-x_21) : Int32) = vv → sk_P g M H → va_S (sk_A g) s.heap H locs → W p l e (sk_rm 4) s m av below meth c H locs 0 0 (MQ below (sk_QI g rr MM) av s 0 0 (sk_A g)) (F0 m 202 ls [.int vv, .int a9]) := by
          intro vv H locs hvv hM hS
          subst hvv
          refine lv_iadd hx hb dX7_dated_202 ?_
          refine lv_topi (fun x_22 ex_22 => ?_)
          have h := sk_letU h ex_22
          refine lv_istore (lv' := [(9, .int x_22), (12, .int x_21), (0, .ref (sk_ad g 88)), (1, .int a1), (4, .int a4), (6, .int a6), (7, .int a7), (8, .int a8), (10, .int a10)]) hx hb dX7_dated_203 hl (by decide) rfl (fun ls hl => ?_)
          refine lv_iinc (v := (a10 + 1)) (lv' := [(10, .int (a10 + 1)), (9, .int x_22), (12, .int x_21), (0, .ref (sk_ad g 88)), (1, .int a1), (4, .int a4), (6, .int a6), (7, .int a7), (8, .int a8)]) hx hb dX7_dated_205 hl (k := 8) rfl rfl (by decide) rfl (fun ls hl => ?_)
          refine lv_goto hx hb dX7_dated_208 rfl ?_
          exact ih x_22 (a10 + 1) _ _ _ (lv_sub hl [3, 4, 5, 6, 7, 8, 1, 0] rfl) hM hS h kx
        refine lv_if_ge hx hb dX7_dated_191 rfl (fun hc => ?_) (fun hc => ?_)
        · have J := fun vv H locs q => J vv H locs ((if_pos hc).trans q)
          refine lv_iload hx hb dX7_dated_200 (lv_at hl 0 rfl) ?_
          exact J _ _ _ rfl hM hS
        · have J := fun vv H locs q => J vv H locs ((if_neg hc).trans q)
          refine lv_iload hx hb dX7_dated_194 (lv_at hl 0 rfl) ?_
          refine lv_ineg hx hb dX7_dated_196 ?_
          refine lv_goto hx hb dX7_dated_197 rfl ?_
          exact J _ _ _ rfl hM hS
      have h := h_19
      refine lv_icmp_ne hx hb dX7_dated_165 rfl (fun hc => ?_) (fun hc => ?_)
      · have h := sk_neg h hc
        refine lv_iload hx hb dX7_dated_172 (lv_at hl 0 rfl) ?_
        refine lv_aload_n hx hb dX7_dated_174 rfl (lv_at hl 1 rfl) ?_
        refine sk_getR (o := 88) (ci := 7) (j := 28) (t := 105) C hM rfl rfl (by decide) rfl rfl kw_963 dX7_dated_175 ?_
        refine lv_iload hx hb dX7_dated_178 (lv_at hl 6 rfl) ?_
        refine lv_iload hx hb dX7_dated_180 (lv_at hl 8 rfl) ?_
        refine lv_iadd hx hb dX7_dated_182 ?_
        obtain ⟨i_20, h⟩ := sk_chkE h
        refine sk_iald (o := 105) C hM rfl i_20 dX7_dated_183 ?_
        refine lv_isub hx hb dX7_dated_184 ?_
        exact J_19 _ _ _ _ h (lv_sub hl [1, 2, 3, 4, 5, 6, 7, 8] rfl) hM hS
      · have h := sk_pos h hc
        refine lv_iconst (v := 0) hx hb dX7_dated_168 (by decide) ?_
        refine lv_goto hx hb dX7_dated_169 rfl ?_
        exact J_19 _ _ _ _ h (lv_sub hl [1, 2, 3, 4, 5, 6, 7, 8] rfl) hM hS
set_option maxHeartbeats 4000000 in
set_option maxRecDepth 100000 in
theorem w_X7_dated_L123 {g : sk_G} {l : Launch} {p : Program} {e : Env} {s : State} {m : MethodId} {av : Array Value} {below : List Frame} {meth : Method} {c : Code} (C : sk_C g p s m av meth c cX7_dated 13 RX7 (some .int)) (a1 : Int32) (a4 : Int32) (M : sk_M) {rr : Int32} {MM : sk_M} :
    ∀ (n : Nat) (a6 : Int32) (a7 : Int32) (a8 : Int32) (H : Heap) (locs : List Loc) (ls : Array Slot), lv_has ls 13 [(0, .ref (sk_ad g 88)), (1, .int a1), (4, .int a4), (6, .int a6), (7, .int a7), (8, .int a8)] → sk_P g M H → va_S (sk_A g) s.heap H locs → ∀ {out : Int32 × Int32}, f_X7_dated_L123 a1 a4 M n a6 a7 a8 = some out → (∀ (x6 : Int32) (x7 : Int32) (H : Heap) (locs : List Loc) (ls : Array Slot), some (x6, x7) = some out → lv_has ls 13 [(4, .int a4), (6, .int x6), (7, .int x7)] → sk_P g M H → va_S (sk_A g) s.heap H locs → W p l e (sk_rm 4) s m av below meth c H locs 0 0 (MQ below (sk_QI g rr MM) av s 0 0 (sk_A g)) (F0 m 237 ls [])) → W p l e (sk_rm 4) s m av below meth c H locs 0 0 (MQ below (sk_QI g rr MM) av s 0 0 (sk_A g)) (F0 m 123 ls []) := by
  obtain ⟨hx, hb, hml, hown, hts, hK, hE, hr, hlocks⟩ := id C
  intro n
  induction n with
  | zero =>
    intro a6 a7 a8 H locs ls hl hM hS out h
    cases h
  | succ n ih =>
    intro a6 a7 a8 H locs ls hl hM hS out h kx
    rw [f_X7_dated_L123] at h
    refine lv_iload hx hb dX7_dated_123 (lv_at hl 5 rfl) ?_
    refine lv_bipush (v := 100) hx hb dX7_dated_125 (by decide) ?_
    refine lv_icmp_gt hx hb dX7_dated_127 rfl (fun hc => ?_) (fun hc => ?_)
    · have h := sk_pos h hc
      exact kx _ _ _ _ _ h (lv_sub hl [2, 3, 4] rfl) hM hS
    · have h := sk_neg h hc
      refine lv_iconst (v := 0) hx hb dX7_dated_130 (by decide) ?_
      refine lv_istore (lv' := [(9, .int 0), (0, .ref (sk_ad g 88)), (1, .int a1), (4, .int a4), (6, .int a6), (7, .int a7), (8, .int a8)]) hx hb dX7_dated_131 hl (by decide) rfl (fun ls hl => ?_)
      refine lv_iconst (v := 0) hx hb dX7_dated_133 (by decide) ?_
      refine lv_istore (lv' := [(10, .int 0), (9, .int 0), (0, .ref (sk_ad g 88)), (1, .int a1), (4, .int a4), (6, .int a6), (7, .int a7), (8, .int a8)]) hx hb dX7_dated_134 hl (by decide) rfl (fun ls hl => ?_)
      obtain ⟨x_23, h_24, h⟩ := sk_b1E h
      refine w_X7_dated_L136 C a1 a4 a6 a7 a8 M sk_FU 0 0 _ _ _ (lv_sub hl [2, 3, 4, 5, 6, 7, 1, 0] rfl) hM hS h_24 (fun y_25 H locs ls he hl hM hS => ?_)
      obtain rfl := Option.some.inj he
      refine lv_iload hx hb dX7_dated_211 (lv_at hl 3 rfl) ?_
      refine lv_if_lt hx hb dX7_dated_213 rfl (fun hc => ?_) (fun hc => ?_)
      · have h := sk_pos h hc
        refine lv_iload hx hb dX7_dated_223 (lv_at hl 5 rfl) ?_
        refine lv_istore (lv' := [(6, .int a8), (0, .ref (sk_ad g 88)), (1, .int a1), (4, .int a4), (7, .int a7), (8, .int a8), (9, .int y_25)]) hx hb dX7_dated_225 hl (by decide) rfl (fun ls hl => ?_)
        refine lv_iload hx hb dX7_dated_227 (lv_at hl 6 rfl) ?_
        refine lv_istore (lv' := [(7, .int y_25), (6, .int a8), (0, .ref (sk_ad g 88)), (1, .int a1), (4, .int a4), (8, .int a8), (9, .int y_25)]) hx hb dX7_dated_229 hl (by decide) rfl (fun ls hl => ?_)
        refine lv_iinc (v := (a8 + 1)) (lv' := [(8, .int (a8 + 1)), (7, .int y_25), (6, .int a8), (0, .ref (sk_ad g 88)), (1, .int a1), (4, .int a4), (9, .int y_25)]) hx hb dX7_dated_231 hl (k := 5) rfl rfl (by decide) rfl (fun ls hl => ?_)
        refine lv_goto hx hb dX7_dated_234 rfl ?_
        exact ih a8 y_25 (a8 + 1) _ _ _ (lv_sub hl [3, 4, 5, 2, 1, 0] rfl) hM hS h kx
      · have h := sk_neg h hc
        refine lv_iload hx hb dX7_dated_216 (lv_at hl 6 rfl) ?_
        refine lv_iload hx hb dX7_dated_218 (lv_at hl 4 rfl) ?_
        refine lv_icmp_ge hx hb dX7_dated_220 rfl (fun hc => ?_) (fun hc => ?_)
        · have h := sk_pos h hc
          refine lv_iinc (v := (a8 + 1)) (lv' := [(8, .int (a8 + 1)), (0, .ref (sk_ad g 88)), (1, .int a1), (4, .int a4), (6, .int a6), (7, .int a7), (9, .int y_25)]) hx hb dX7_dated_231 hl (k := 5) rfl rfl (by decide) rfl (fun ls hl => ?_)
          refine lv_goto hx hb dX7_dated_234 rfl ?_
          exact ih a6 a7 (a8 + 1) _ _ _ (lv_sub hl [1, 2, 3, 4, 5, 0] rfl) hM hS h kx
        · have h := sk_neg h hc
          refine lv_iload hx hb dX7_dated_223 (lv_at hl 5 rfl) ?_
          refine lv_istore (lv' := [(6, .int a8), (0, .ref (sk_ad g 88)), (1, .int a1), (4, .int a4), (7, .int a7), (8, .int a8), (9, .int y_25)]) hx hb dX7_dated_225 hl (by decide) rfl (fun ls hl => ?_)
          refine lv_iload hx hb dX7_dated_227 (lv_at hl 6 rfl) ?_
          refine lv_istore (lv' := [(7, .int y_25), (6, .int a8), (0, .ref (sk_ad g 88)), (1, .int a1), (4, .int a4), (8, .int a8), (9, .int y_25)]) hx hb dX7_dated_229 hl (by decide) rfl (fun ls hl => ?_)
          refine lv_iinc (v := (a8 + 1)) (lv' := [(8, .int (a8 + 1)), (7, .int y_25), (6, .int a8), (0, .ref (sk_ad g 88)), (1, .int a1), (4, .int a4), (9, .int y_25)]) hx hb dX7_dated_231 hl (k := 5) rfl rfl (by decide) rfl (fun ls hl => ?_)
          refine lv_goto hx hb dX7_dated_234 rfl ?_
          exact ih a8 y_25 (a8 + 1) _ _ _ (lv_sub hl [3, 4, 5, 2, 1, 0] rfl) hM hS h kx
set_option maxHeartbeats 4000000 in
set_option maxRecDepth 100000 in
theorem c_X7_dated (g : sk_G) (l : Launch) (a1 : Int32) (a2 : Int32) (a3 : Int32) (a4 : Int32) (M : sk_M) {rr : Int32} {MM : sk_M} (h : f_X7_dated a1 a2 a3 a4 M = some (rr, MM)) : sk_MI g l yX7_dated cX7_dated 13 (some .int) 4 [.ref (sk_ad g 88), .int a1, .int a2, .int a3, .int a4] M rr MM := by
  refine sk_go [(0, .ref (sk_ad g 88)), (1, .int a1), (2, .int a2), (3, .int a3), (4, .int a4)] (by decide) (Nat.le_of_ble_eq_true rfl) rfl ?_
  intro p e s m av below meth c C ls hl hM hS
  obtain ⟨hx, hb, hml, hown, hts, hK, hE, hr, hlocks⟩ := id C
  rw [f_X7_dated] at h
  refine lv_iload_n hx hb dX7_dated_0 rfl (lv_at hl 1 rfl) ?_
  refine sk_contI (sk_runS (As := [.int a1]) (rest := []) C (c_X7_isSheet g l a1 M rfl) yo_X7_isSheet kw_1384 (by decide) hM hS hl.1 rfl rfl (Nat.le_of_ble_eq_true rfl) dX7_dated_1) hS (fun H locs hM hS => ?_)
  refine lv_if_eq hx hb dX7_dated_4 rfl (fun hc => ?_) (fun hc => ?_)
  · have h := sk_pos h hc
    refine lv_ldc (v := (-1000000001)) hx hb hown (hts _ kw_1044) dX7_dated_34 ?_
    exact sk_iret C hM hS (sk_e2 h) dX7_dated_36
  · have h := sk_neg h hc
    refine lv_aload_n hx hb dX7_dated_7 rfl (lv_at hl 0 rfl) ?_
    refine lv_iload_n hx hb dX7_dated_8 rfl (lv_at hl 2 rfl) ?_
    refine sk_contI (sk_runV (As := [.int a2]) (rest := []) C (c_X7_isCloth g l a2 M rfl) yo_X7_isCloth kw_1133 (sk_recv (ci := 7) C hM rfl rfl) (by decide) hM hS hl.1 rfl rfl (Nat.le_of_ble_eq_true rfl) dX7_dated_9) hS (fun H locs hM hS => ?_)
    refine lv_if_eq hx hb dX7_dated_12 rfl (fun hc => ?_) (fun hc => ?_)
    · have h := sk_pos h hc
      refine lv_ldc (v := (-1000000001)) hx hb hown (hts _ kw_1044) dX7_dated_34 ?_
      exact sk_iret C hM hS (sk_e2 h) dX7_dated_36
    · have h := sk_neg h hc
      refine lv_aload_n hx hb dX7_dated_15 rfl (lv_at hl 0 rfl) ?_
      refine lv_iload_n hx hb dX7_dated_16 rfl (lv_at hl 3 rfl) ?_
      refine sk_contI (sk_runV (As := [.int a3]) (rest := []) C (c_X7_isScent g l a3 M rfl) yo_X7_isScent kw_1054 (sk_recv (ci := 7) C hM rfl rfl) (by decide) hM hS hl.1 rfl rfl (Nat.le_of_ble_eq_true rfl) dX7_dated_17) hS (fun H locs hM hS => ?_)
      refine lv_if_eq hx hb dX7_dated_20 rfl (fun hc => ?_) (fun hc => ?_)
      · have h := sk_pos h hc
        refine lv_ldc (v := (-1000000001)) hx hb hown (hts _ kw_1044) dX7_dated_34 ?_
        exact sk_iret C hM hS (sk_e2 h) dX7_dated_36
      · have h := sk_neg h hc
        refine lv_iload hx hb dX7_dated_23 (lv_at hl 4 rfl) ?_
        refine lv_i2l (v := a4.toInt64) hx hb dX7_dated_25 rfl ?_
        refine lv_lconst (v := 0) hx hb dX7_dated_26 (by decide) ?_
        refine lv_lconst (v := 1) hx hb dX7_dated_27 (by decide) ?_
        refine sk_contI (sk_runS (As := [.long (a4.toInt64), .long 0, .long 1]) (rest := []) C (c_X7_isIn g l (a4.toInt64) 0 1 M rfl) yo_X7_isIn kw_1040 (by decide) hM hS hl.1 rfl rfl (Nat.le_of_ble_eq_true rfl) dX7_dated_28) hS (fun H locs hM hS => ?_)
        refine lv_if_ne hx hb dX7_dated_31 rfl (fun hc => ?_) (fun hc => ?_)
        · have h := sk_neg h hc
          refine lv_aload_n hx hb dX7_dated_37 rfl (lv_at hl 0 rfl) ?_
          refine sk_getR (o := 88) (ci := 7) (j := 4) (t := 92) C hM rfl rfl (by decide) rfl rfl kw_939 dX7_dated_38 ?_
          refine lv_iload_n hx hb dX7_dated_41 rfl (lv_at hl 1 rfl) ?_
          obtain ⟨i_5, h⟩ := sk_chkE h
          refine sk_iald (o := 92) C hM rfl i_5 dX7_dated_42 ?_
          refine lv_if_ge hx hb dX7_dated_43 rfl (fun hc => ?_) (fun hc => ?_)
          · have h := sk_pos h hc
            refine lv_aload_n hx hb dX7_dated_50 rfl (lv_at hl 0 rfl) ?_
            refine lv_iload_n hx hb dX7_dated_51 rfl (lv_at hl 2 rfl) ?_
            refine lv_iload_n hx hb dX7_dated_52 rfl (lv_at hl 3 rfl) ?_
            obtain ⟨x_6, h_7, h⟩ := sk_b1E h
            refine sk_contI (sk_runV (As := [.int a2, .int a3]) (rest := []) C (c_X7_on g l a2 a3 M h_7) yo_X7_on kw_1137 (sk_recv (ci := 7) C hM rfl rfl) (by decide) hM hS hl.1 rfl rfl (Nat.le_of_ble_eq_true rfl) dX7_dated_53) hS (fun H locs hM hS => ?_)
            refine lv_istore (lv' := [(5, .int x_6), (0, .ref (sk_ad g 88)), (1, .int a1), (2, .int a2), (3, .int a3), (4, .int a4)]) hx hb dX7_dated_56 hl (by decide) rfl (fun ls hl => ?_)
            refine lv_iconst (v := 0) hx hb dX7_dated_58 (by decide) ?_
            refine lv_istore (lv' := [(6, .int 0), (5, .int x_6), (0, .ref (sk_ad g 88)), (1, .int a1), (2, .int a2), (3, .int a3), (4, .int a4)]) hx hb dX7_dated_59 hl (by decide) rfl (fun ls hl => ?_)
            obtain ⟨M_15, h_31, h⟩ := sk_b1E h
            refine w_X7_dated_L61 C a1 a2 a3 a4 sk_FU x_6 0 M _ _ _ (lv_sub hl [2, 3, 4, 5, 6, 1, 0] rfl) hM hS h_31 (fun y_32 H locs ls he hl hM hS => ?_)
            obtain rfl := Option.some.inj he
            refine lv_iconst (v := (-1)) hx hb dX7_dated_114 (by decide) ?_
            refine lv_istore (lv' := [(6, .int (-1)), (0, .ref (sk_ad g 88)), (1, .int a1), (4, .int a4)]) hx hb dX7_dated_115 hl (by decide) rfl (fun ls hl => ?_)
            refine lv_iconst (v := 0) hx hb dX7_dated_117 (by decide) ?_
            refine lv_istore (lv' := [(7, .int 0), (6, .int (-1)), (0, .ref (sk_ad g 88)), (1, .int a1), (4, .int a4)]) hx hb dX7_dated_118 hl (by decide) rfl (fun ls hl => ?_)
            refine lv_iconst (v := 0) hx hb dX7_dated_120 (by decide) ?_
            refine lv_istore (lv' := [(8, .int 0), (7, .int 0), (6, .int (-1)), (0, .ref (sk_ad g 88)), (1, .int a1), (4, .int a4)]) hx hb dX7_dated_121 hl (by decide) rfl (fun ls hl => ?_)
            obtain ⟨x_26, x_27, h_28, h⟩ := sk_b2E h
            refine w_X7_dated_L123 C a1 a4 y_32 sk_FU (-1) 0 0 _ _ _ (lv_sub hl [3, 4, 5, 2, 1, 0] rfl) hM hS h_28 (fun y_29 y_30 H locs ls he hl hM hS => ?_)
            obtain ⟨rfl, rfl⟩ := sk_e2 he
            refine lv_iload hx hb dX7_dated_237 (lv_at hl 0 rfl) ?_
            have J : ∀ (vv : Int32) (H : Heap) (locs : List Loc), (if a4 = 0 then y_29 else y_30 : Int32) = vv → sk_P g y_32 H → va_S (sk_A g) s.heap H locs → W p l e (sk_rm 4) s m av below meth c H locs 0 0 (MQ below (sk_QI g rr MM) av s 0 0 (sk_A g)) (F0 m 249 ls [.int vv]) := by
              intro vv H locs hvv hM hS
              subst hvv
              exact sk_iret C hM hS (sk_e2 h) dX7_dated_249
            refine lv_if_ne hx hb dX7_dated_239 rfl (fun hc => ?_) (fun hc => ?_)
            · have J := fun vv H locs q => J vv H locs ((if_neg hc).trans q)
              refine lv_iload hx hb dX7_dated_247 (lv_at hl 2 rfl) ?_
              exact J _ _ _ rfl hM hS
            · have J := fun vv H locs q => J vv H locs ((if_pos hc).trans q)
              refine lv_iload hx hb dX7_dated_242 (lv_at hl 1 rfl) ?_
              refine lv_goto hx hb dX7_dated_244 rfl ?_
              exact J _ _ _ rfl hM hS
          · have h := sk_neg h hc
            refine lv_ldcw (v := (-1000000011)) hx hb hown (hts _ kw_1393) dX7_dated_46 ?_
            exact sk_iret C hM hS (sk_e2 h) dX7_dated_49
        · have h := sk_pos h hc
          refine lv_ldc (v := (-1000000001)) hx hb hown (hts _ kw_1044) dX7_dated_34 ?_
          exact sk_iret C hM hS (sk_e2 h) dX7_dated_36
theorem dX7_copy_0 : decode cX7_copy 0 = .ok (.iload_n 1, 1) := by decide +kernel
theorem dX7_copy_1 : decode cX7_copy 1 = .ok (.invokestatic 296, 3) := by decide +kernel
theorem dX7_copy_4 : decode cX7_copy 4 = .ok (.ifCond .eq 10, 3) := by decide +kernel
theorem dX7_copy_7 : decode cX7_copy 7 = .ok (.iload_n 3, 1) := by decide +kernel
theorem dX7_copy_8 : decode cX7_copy 8 = .ok (.invokestatic 296, 3) := by decide +kernel
theorem dX7_copy_11 : decode cX7_copy 11 = .ok (.ifCond .ne 6, 3) := by decide +kernel
theorem dX7_copy_14 : decode cX7_copy 14 = .ok (.ldc 80, 2) := by decide +kernel
theorem dX7_copy_16 : decode cX7_copy 16 = .ok (.ireturn, 1) := by decide +kernel
theorem dX7_copy_17 : decode cX7_copy 17 = .ok (.aload_n 0, 1) := by decide +kernel
theorem dX7_copy_18 : decode cX7_copy 18 = .ok (.getfield 19, 3) := by decide +kernel
theorem dX7_copy_21 : decode cX7_copy 21 = .ok (.iload_n 1, 1) := by decide +kernel
theorem dX7_copy_22 : decode cX7_copy 22 = .ok (.iaload, 1) := by decide +kernel
theorem dX7_copy_23 : decode cX7_copy 23 = .ok (.ifCond .lt 12, 3) := by decide +kernel
theorem dX7_copy_26 : decode cX7_copy 26 = .ok (.aload_n 0, 1) := by decide +kernel
theorem dX7_copy_27 : decode cX7_copy 27 = .ok (.getfield 19, 3) := by decide +kernel
theorem dX7_copy_30 : decode cX7_copy 30 = .ok (.iload_n 3, 1) := by decide +kernel
theorem dX7_copy_31 : decode cX7_copy 31 = .ok (.iaload, 1) := by decide +kernel
theorem dX7_copy_32 : decode cX7_copy 32 = .ok (.ifCond .ge 7, 3) := by decide +kernel
theorem dX7_copy_35 : decode cX7_copy 35 = .ok (.ldc_w 302, 3) := by decide +kernel
theorem dX7_copy_38 : decode cX7_copy 38 = .ok (.ireturn, 1) := by decide +kernel
theorem dX7_copy_39 : decode cX7_copy 39 = .ok (.aload_n 0, 1) := by decide +kernel
theorem dX7_copy_40 : decode cX7_copy 40 = .ok (.getfield 19, 3) := by decide +kernel
theorem dX7_copy_43 : decode cX7_copy 43 = .ok (.iload_n 1, 1) := by decide +kernel
theorem dX7_copy_44 : decode cX7_copy 44 = .ok (.iaload, 1) := by decide +kernel
theorem dX7_copy_45 : decode cX7_copy 45 = .ok (.aload_n 0, 1) := by decide +kernel
theorem dX7_copy_46 : decode cX7_copy 46 = .ok (.getfield 19, 3) := by decide +kernel
theorem dX7_copy_49 : decode cX7_copy 49 = .ok (.iload_n 3, 1) := by decide +kernel
theorem dX7_copy_50 : decode cX7_copy 50 = .ok (.iaload, 1) := by decide +kernel
theorem dX7_copy_51 : decode cX7_copy 51 = .ok (.if_icmp .eq 6, 3) := by decide +kernel
theorem dX7_copy_54 : decode cX7_copy 54 = .ok (.ldc 120, 2) := by decide +kernel
theorem dX7_copy_56 : decode cX7_copy 56 = .ok (.ireturn, 1) := by decide +kernel
theorem dX7_copy_57 : decode cX7_copy 57 = .ok (.iload_n 2, 1) := by decide +kernel
theorem dX7_copy_58 : decode cX7_copy 58 = .ok (.ifCond .lt 48, 3) := by decide +kernel
theorem dX7_copy_61 : decode cX7_copy 61 = .ok (.iload 4, 2) := by decide +kernel
theorem dX7_copy_63 : decode cX7_copy 63 = .ok (.ifCond .lt 43, 3) := by decide +kernel
theorem dX7_copy_66 : decode cX7_copy 66 = .ok (.iload 5, 2) := by decide +kernel
theorem dX7_copy_68 : decode cX7_copy 68 = .ok (.ifCond .lt 38, 3) := by decide +kernel
theorem dX7_copy_71 : decode cX7_copy 71 = .ok (.iload_n 2, 1) := by decide +kernel
theorem dX7_copy_72 : decode cX7_copy 72 = .ok (.i2l, 1) := by decide +kernel
theorem dX7_copy_73 : decode cX7_copy 73 = .ok (.iload 5, 2) := by decide +kernel
theorem dX7_copy_75 : decode cX7_copy 75 = .ok (.i2l, 1) := by decide +kernel
theorem dX7_copy_76 : decode cX7_copy 76 = .ok (.ladd, 1) := by decide +kernel
theorem dX7_copy_77 : decode cX7_copy 77 = .ok (.aload_n 0, 1) := by decide +kernel
theorem dX7_copy_78 : decode cX7_copy 78 = .ok (.getfield 22, 3) := by decide +kernel
theorem dX7_copy_81 : decode cX7_copy 81 = .ok (.iload_n 1, 1) := by decide +kernel
theorem dX7_copy_82 : decode cX7_copy 82 = .ok (.iaload, 1) := by decide +kernel
theorem dX7_copy_83 : decode cX7_copy 83 = .ok (.i2l, 1) := by decide +kernel
theorem dX7_copy_84 : decode cX7_copy 84 = .ok (.lcmp, 1) := by decide +kernel
theorem dX7_copy_85 : decode cX7_copy 85 = .ok (.ifCond .gt 21, 3) := by decide +kernel
theorem dX7_copy_88 : decode cX7_copy 88 = .ok (.iload 4, 2) := by decide +kernel
theorem dX7_copy_90 : decode cX7_copy 90 = .ok (.i2l, 1) := by decide +kernel
theorem dX7_copy_91 : decode cX7_copy 91 = .ok (.iload 5, 2) := by decide +kernel
theorem dX7_copy_93 : decode cX7_copy 93 = .ok (.i2l, 1) := by decide +kernel
theorem dX7_copy_94 : decode cX7_copy 94 = .ok (.ladd, 1) := by decide +kernel
theorem dX7_copy_95 : decode cX7_copy 95 = .ok (.aload_n 0, 1) := by decide +kernel
theorem dX7_copy_96 : decode cX7_copy 96 = .ok (.getfield 22, 3) := by decide +kernel
theorem dX7_copy_99 : decode cX7_copy 99 = .ok (.iload_n 3, 1) := by decide +kernel
theorem dX7_copy_100 : decode cX7_copy 100 = .ok (.iaload, 1) := by decide +kernel
theorem dX7_copy_101 : decode cX7_copy 101 = .ok (.i2l, 1) := by decide +kernel
theorem dX7_copy_102 : decode cX7_copy 102 = .ok (.lcmp, 1) := by decide +kernel
theorem dX7_copy_103 : decode cX7_copy 103 = .ok (.ifCond .le 7, 3) := by decide +kernel
theorem dX7_copy_106 : decode cX7_copy 106 = .ok (.ldc_w 303, 3) := by decide +kernel
theorem dX7_copy_109 : decode cX7_copy 109 = .ok (.ireturn, 1) := by decide +kernel
theorem dX7_copy_110 : decode cX7_copy 110 = .ok (.iconst 0, 1) := by decide +kernel
theorem dX7_copy_111 : decode cX7_copy 111 = .ok (.istore 6, 2) := by decide +kernel
theorem dX7_copy_113 : decode cX7_copy 113 = .ok (.iload 6, 2) := by decide +kernel
theorem dX7_copy_115 : decode cX7_copy 115 = .ok (.iload 5, 2) := by decide +kernel
theorem dX7_copy_117 : decode cX7_copy 117 = .ok (.if_icmp .ge 30, 3) := by decide +kernel
theorem dX7_copy_120 : decode cX7_copy 120 = .ok (.aload_n 0, 1) := by decide +kernel
theorem dX7_copy_121 : decode cX7_copy 121 = .ok (.getfield 61, 3) := by decide +kernel
theorem dX7_copy_124 : decode cX7_copy 124 = .ok (.iload 6, 2) := by decide +kernel
theorem dX7_copy_126 : decode cX7_copy 126 = .ok (.aload_n 0, 1) := by decide +kernel
theorem dX7_copy_127 : decode cX7_copy 127 = .ok (.getfield 25, 3) := by decide +kernel
theorem dX7_copy_130 : decode cX7_copy 130 = .ok (.bipush 24, 2) := by decide +kernel
theorem dX7_copy_132 : decode cX7_copy 132 = .ok (.iload_n 1, 1) := by decide +kernel
theorem dX7_copy_133 : decode cX7_copy 133 = .ok (.imul, 1) := by decide +kernel
theorem dX7_copy_134 : decode cX7_copy 134 = .ok (.iload_n 2, 1) := by decide +kernel
theorem dX7_copy_135 : decode cX7_copy 135 = .ok (.iadd, 1) := by decide +kernel
theorem dX7_copy_136 : decode cX7_copy 136 = .ok (.iload 6, 2) := by decide +kernel
theorem dX7_copy_138 : decode cX7_copy 138 = .ok (.iadd, 1) := by decide +kernel
theorem dX7_copy_139 : decode cX7_copy 139 = .ok (.iaload, 1) := by decide +kernel
theorem dX7_copy_140 : decode cX7_copy 140 = .ok (.iastore, 1) := by decide +kernel
theorem dX7_copy_141 : decode cX7_copy 141 = .ok (.iinc 6 1, 3) := by decide +kernel
theorem dX7_copy_144 : decode cX7_copy 144 = .ok (.goto (-31), 3) := by decide +kernel
theorem dX7_copy_147 : decode cX7_copy 147 = .ok (.iconst 0, 1) := by decide +kernel
theorem dX7_copy_148 : decode cX7_copy 148 = .ok (.istore 6, 2) := by decide +kernel
theorem dX7_copy_150 : decode cX7_copy 150 = .ok (.iload 6, 2) := by decide +kernel
theorem dX7_copy_152 : decode cX7_copy 152 = .ok (.iload 5, 2) := by decide +kernel
theorem dX7_copy_154 : decode cX7_copy 154 = .ok (.if_icmp .ge 31, 3) := by decide +kernel
theorem dX7_copy_157 : decode cX7_copy 157 = .ok (.aload_n 0, 1) := by decide +kernel
theorem dX7_copy_158 : decode cX7_copy 158 = .ok (.getfield 25, 3) := by decide +kernel
theorem dX7_copy_161 : decode cX7_copy 161 = .ok (.bipush 24, 2) := by decide +kernel
theorem dX7_copy_163 : decode cX7_copy 163 = .ok (.iload_n 3, 1) := by decide +kernel
theorem dX7_copy_164 : decode cX7_copy 164 = .ok (.imul, 1) := by decide +kernel
theorem dX7_copy_165 : decode cX7_copy 165 = .ok (.iload 4, 2) := by decide +kernel
theorem dX7_copy_167 : decode cX7_copy 167 = .ok (.iadd, 1) := by decide +kernel
theorem dX7_copy_168 : decode cX7_copy 168 = .ok (.iload 6, 2) := by decide +kernel
theorem dX7_copy_170 : decode cX7_copy 170 = .ok (.iadd, 1) := by decide +kernel
theorem dX7_copy_171 : decode cX7_copy 171 = .ok (.aload_n 0, 1) := by decide +kernel
theorem dX7_copy_172 : decode cX7_copy 172 = .ok (.getfield 61, 3) := by decide +kernel
theorem dX7_copy_175 : decode cX7_copy 175 = .ok (.iload 6, 2) := by decide +kernel
theorem dX7_copy_177 : decode cX7_copy 177 = .ok (.iaload, 1) := by decide +kernel
theorem dX7_copy_178 : decode cX7_copy 178 = .ok (.iastore, 1) := by decide +kernel
theorem dX7_copy_179 : decode cX7_copy 179 = .ok (.iinc 6 1, 3) := by decide +kernel
theorem dX7_copy_182 : decode cX7_copy 182 = .ok (.goto (-32), 3) := by decide +kernel
theorem dX7_copy_185 : decode cX7_copy 185 = .ok (.iload 5, 2) := by decide +kernel
theorem dX7_copy_187 : decode cX7_copy 187 = .ok (.ireturn, 1) := by decide +kernel
set_option maxHeartbeats 4000000 in
set_option maxRecDepth 100000 in
theorem w_X7_copy_L113 {g : sk_G} {l : Launch} {p : Program} {e : Env} {s : State} {m : MethodId} {av : Array Value} {below : List Frame} {meth : Method} {c : Code} (C : sk_C g p s m av meth c cX7_copy 7 RX7 (some .int)) (a1 : Int32) (a2 : Int32) (a3 : Int32) (a4 : Int32) (a5 : Int32) {rr : Int32} {MM : sk_M} :
    ∀ (n : Nat) (a6 : Int32) (M : sk_M) (H : Heap) (locs : List Loc) (ls : Array Slot), lv_has ls 7 [(0, .ref (sk_ad g 88)), (1, .int a1), (2, .int a2), (3, .int a3), (4, .int a4), (5, .int a5), (6, .int a6)] → sk_P g M H → va_S (sk_A g) s.heap H locs → ∀ {out : sk_M}, f_X7_copy_L113 a1 a2 a3 a4 a5 n a6 M = some out → (∀ (M1 : sk_M) (H : Heap) (locs : List Loc) (ls : Array Slot), some M1 = some out → lv_has ls 7 [(0, .ref (sk_ad g 88)), (3, .int a3), (4, .int a4), (5, .int a5)] → sk_P g M1 H → va_S (sk_A g) s.heap H locs → W p l e (sk_rm 3) s m av below meth c H locs 0 0 (MQ below (sk_QI g rr MM) av s 0 0 (sk_A g)) (F0 m 147 ls [])) → W p l e (sk_rm 3) s m av below meth c H locs 0 0 (MQ below (sk_QI g rr MM) av s 0 0 (sk_A g)) (F0 m 113 ls []) := by
  obtain ⟨hx, hb, hml, hown, hts, hK, hE, hr, hlocks⟩ := id C
  intro n
  induction n with
  | zero =>
    intro a6 M H locs ls hl hM hS out h
    cases h
  | succ n ih =>
    intro a6 M H locs ls hl hM hS out h kx
    rw [f_X7_copy_L113] at h
    refine lv_iload hx hb dX7_copy_113 (lv_at hl 6 rfl) ?_
    refine lv_iload hx hb dX7_copy_115 (lv_at hl 5 rfl) ?_
    refine lv_icmp_ge hx hb dX7_copy_117 rfl (fun hc => ?_) (fun hc => ?_)
    · have h := sk_pos h hc
      exact kx _ _ _ _ h (lv_sub hl [0, 3, 4, 5] rfl) hM hS
    · have h := sk_neg h hc
      refine lv_aload_n hx hb dX7_copy_120 rfl (lv_at hl 0 rfl) ?_
      refine sk_getR (o := 88) (ci := 7) (j := 29) (t := 106) C hM rfl rfl (by decide) rfl rfl kw_964 dX7_copy_121 ?_
      refine lv_iload hx hb dX7_copy_124 (lv_at hl 6 rfl) ?_
      refine lv_aload_n hx hb dX7_copy_126 rfl (lv_at hl 0 rfl) ?_
      refine sk_getR (o := 88) (ci := 7) (j := 6) (t := 94) C hM rfl rfl (by decide) rfl rfl kw_941 dX7_copy_127 ?_
      refine lv_bipush (v := 24) hx hb dX7_copy_130 (by decide) ?_
      refine lv_iload_n hx hb dX7_copy_132 rfl (lv_at hl 1 rfl) ?_
      refine lv_imul hx hb dX7_copy_133 ?_
      refine lv_iload_n hx hb dX7_copy_134 rfl (lv_at hl 2 rfl) ?_
      refine lv_iadd hx hb dX7_copy_135 ?_
      refine lv_iload hx hb dX7_copy_136 (lv_at hl 6 rfl) ?_
      refine lv_iadd hx hb dX7_copy_138 ?_
      obtain ⟨i_9, h⟩ := sk_chkE h
      refine sk_iald (o := 94) C hM rfl i_9 dX7_copy_139 ?_
      obtain ⟨i_10, h⟩ := sk_chkE h
      refine sk_iast (o := 106) C hM hS rfl i_10 dX7_copy_140 (fun M_11 eM_11 H locs hM hS => ?_)
      have h := sk_letU h eM_11
      refine lv_iinc (v := (a6 + 1)) (lv' := [(6, .int (a6 + 1)), (0, .ref (sk_ad g 88)), (1, .int a1), (2, .int a2), (3, .int a3), (4, .int a4), (5, .int a5)]) hx hb dX7_copy_141 hl (k := 6) rfl rfl (by decide) rfl (fun ls hl => ?_)
      refine lv_goto hx hb dX7_copy_144 rfl ?_
      exact ih (a6 + 1) M_11 _ _ _ (lv_sub hl [1, 2, 3, 4, 5, 6, 0] rfl) hM hS h kx
set_option maxHeartbeats 4000000 in
set_option maxRecDepth 100000 in
theorem w_X7_copy_L150 {g : sk_G} {l : Launch} {p : Program} {e : Env} {s : State} {m : MethodId} {av : Array Value} {below : List Frame} {meth : Method} {c : Code} (C : sk_C g p s m av meth c cX7_copy 7 RX7 (some .int)) (a3 : Int32) (a4 : Int32) (a5 : Int32) {rr : Int32} {MM : sk_M} :
    ∀ (n : Nat) (a6 : Int32) (M : sk_M) (H : Heap) (locs : List Loc) (ls : Array Slot), lv_has ls 7 [(0, .ref (sk_ad g 88)), (3, .int a3), (4, .int a4), (5, .int a5), (6, .int a6)] → sk_P g M H → va_S (sk_A g) s.heap H locs → ∀ {out : sk_M}, f_X7_copy_L150 a3 a4 a5 n a6 M = some out → (∀ (M1 : sk_M) (H : Heap) (locs : List Loc) (ls : Array Slot), some M1 = some out → lv_has ls 7 [(5, .int a5)] → sk_P g M1 H → va_S (sk_A g) s.heap H locs → W p l e (sk_rm 3) s m av below meth c H locs 0 0 (MQ below (sk_QI g rr MM) av s 0 0 (sk_A g)) (F0 m 185 ls [])) → W p l e (sk_rm 3) s m av below meth c H locs 0 0 (MQ below (sk_QI g rr MM) av s 0 0 (sk_A g)) (F0 m 150 ls []) := by
  obtain ⟨hx, hb, hml, hown, hts, hK, hE, hr, hlocks⟩ := id C
  intro n
  induction n with
  | zero =>
    intro a6 M H locs ls hl hM hS out h
    cases h
  | succ n ih =>
    intro a6 M H locs ls hl hM hS out h kx
    rw [f_X7_copy_L150] at h
    refine lv_iload hx hb dX7_copy_150 (lv_at hl 4 rfl) ?_
    refine lv_iload hx hb dX7_copy_152 (lv_at hl 3 rfl) ?_
    refine lv_icmp_ge hx hb dX7_copy_154 rfl (fun hc => ?_) (fun hc => ?_)
    · have h := sk_pos h hc
      exact kx _ _ _ _ h (lv_sub hl [3] rfl) hM hS
    · have h := sk_neg h hc
      refine lv_aload_n hx hb dX7_copy_157 rfl (lv_at hl 0 rfl) ?_
      refine sk_getR (o := 88) (ci := 7) (j := 6) (t := 94) C hM rfl rfl (by decide) rfl rfl kw_941 dX7_copy_158 ?_
      refine lv_bipush (v := 24) hx hb dX7_copy_161 (by decide) ?_
      refine lv_iload_n hx hb dX7_copy_163 rfl (lv_at hl 1 rfl) ?_
      refine lv_imul hx hb dX7_copy_164 ?_
      refine lv_iload hx hb dX7_copy_165 (lv_at hl 2 rfl) ?_
      refine lv_iadd hx hb dX7_copy_167 ?_
      refine lv_iload hx hb dX7_copy_168 (lv_at hl 4 rfl) ?_
      refine lv_iadd hx hb dX7_copy_170 ?_
      refine lv_aload_n hx hb dX7_copy_171 rfl (lv_at hl 0 rfl) ?_
      refine sk_getR (o := 88) (ci := 7) (j := 29) (t := 106) C hM rfl rfl (by decide) rfl rfl kw_964 dX7_copy_172 ?_
      refine lv_iload hx hb dX7_copy_175 (lv_at hl 4 rfl) ?_
      obtain ⟨i_13, h⟩ := sk_chkE h
      refine sk_iald (o := 106) C hM rfl i_13 dX7_copy_177 ?_
      obtain ⟨i_14, h⟩ := sk_chkE h
      refine sk_iast (o := 94) C hM hS rfl i_14 dX7_copy_178 (fun M_15 eM_15 H locs hM hS => ?_)
      have h := sk_letU h eM_15
      refine lv_iinc (v := (a6 + 1)) (lv' := [(6, .int (a6 + 1)), (0, .ref (sk_ad g 88)), (3, .int a3), (4, .int a4), (5, .int a5)]) hx hb dX7_copy_179 hl (k := 4) rfl rfl (by decide) rfl (fun ls hl => ?_)
      refine lv_goto hx hb dX7_copy_182 rfl ?_
      exact ih (a6 + 1) M_15 _ _ _ (lv_sub hl [1, 2, 3, 4, 0] rfl) hM hS h kx
set_option maxHeartbeats 4000000 in
set_option maxRecDepth 100000 in
theorem c_X7_copy (g : sk_G) (l : Launch) (a1 : Int32) (a2 : Int32) (a3 : Int32) (a4 : Int32) (a5 : Int32) (M : sk_M) {rr : Int32} {MM : sk_M} (h : f_X7_copy a1 a2 a3 a4 a5 M = some (rr, MM)) : sk_MI g l yX7_copy cX7_copy 7 (some .int) 3 [.ref (sk_ad g 88), .int a1, .int a2, .int a3, .int a4, .int a5] M rr MM := by
  refine sk_go [(0, .ref (sk_ad g 88)), (1, .int a1), (2, .int a2), (3, .int a3), (4, .int a4), (5, .int a5)] (by decide) (Nat.le_of_ble_eq_true rfl) rfl ?_
  intro p e s m av below meth c C ls hl hM hS
  obtain ⟨hx, hb, hml, hown, hts, hK, hE, hr, hlocks⟩ := id C
  rw [f_X7_copy] at h
  refine lv_iload_n hx hb dX7_copy_0 rfl (lv_at hl 1 rfl) ?_
  refine sk_contI (sk_runS (As := [.int a1]) (rest := []) C (c_X7_isSheet g l a1 M rfl) yo_X7_isSheet kw_1384 (by decide) hM hS hl.1 rfl rfl (Nat.le_of_ble_eq_true rfl) dX7_copy_1) hS (fun H locs hM hS => ?_)
  refine lv_if_eq hx hb dX7_copy_4 rfl (fun hc => ?_) (fun hc => ?_)
  · have h := sk_pos h hc
    refine lv_ldc (v := (-1000000001)) hx hb hown (hts _ kw_1044) dX7_copy_14 ?_
    exact sk_iret C hM hS (sk_e2 h) dX7_copy_16
  · have h := sk_neg h hc
    refine lv_iload_n hx hb dX7_copy_7 rfl (lv_at hl 3 rfl) ?_
    refine sk_contI (sk_runS (As := [.int a3]) (rest := []) C (c_X7_isSheet g l a3 M rfl) yo_X7_isSheet kw_1384 (by decide) hM hS hl.1 rfl rfl (Nat.le_of_ble_eq_true rfl) dX7_copy_8) hS (fun H locs hM hS => ?_)
    refine lv_if_ne hx hb dX7_copy_11 rfl (fun hc => ?_) (fun hc => ?_)
    · have h := sk_neg h hc
      refine lv_aload_n hx hb dX7_copy_17 rfl (lv_at hl 0 rfl) ?_
      refine sk_getR (o := 88) (ci := 7) (j := 4) (t := 92) C hM rfl rfl (by decide) rfl rfl kw_939 dX7_copy_18 ?_
      refine lv_iload_n hx hb dX7_copy_21 rfl (lv_at hl 1 rfl) ?_
      obtain ⟨i_3, h⟩ := sk_chkE h
      refine sk_iald (o := 92) C hM rfl i_3 dX7_copy_22 ?_
      refine lv_if_lt hx hb dX7_copy_23 rfl (fun hc => ?_) (fun hc => ?_)
      · have h := sk_pos h hc
        refine lv_ldcw (v := (-1000000011)) hx hb hown (hts _ kw_1393) dX7_copy_35 ?_
        exact sk_iret C hM hS (sk_e2 h) dX7_copy_38
      · have h := sk_neg h hc
        refine lv_aload_n hx hb dX7_copy_26 rfl (lv_at hl 0 rfl) ?_
        refine sk_getR (o := 88) (ci := 7) (j := 4) (t := 92) C hM rfl rfl (by decide) rfl rfl kw_939 dX7_copy_27 ?_
        refine lv_iload_n hx hb dX7_copy_30 rfl (lv_at hl 3 rfl) ?_
        obtain ⟨i_4, h⟩ := sk_chkE h
        refine sk_iald (o := 92) C hM rfl i_4 dX7_copy_31 ?_
        refine lv_if_ge hx hb dX7_copy_32 rfl (fun hc => ?_) (fun hc => ?_)
        · have h := sk_pos h hc
          refine lv_aload_n hx hb dX7_copy_39 rfl (lv_at hl 0 rfl) ?_
          refine sk_getR (o := 88) (ci := 7) (j := 4) (t := 92) C hM rfl rfl (by decide) rfl rfl kw_939 dX7_copy_40 ?_
          refine lv_iload_n hx hb dX7_copy_43 rfl (lv_at hl 1 rfl) ?_
          obtain ⟨i_5, h⟩ := sk_chkE h
          refine sk_iald (o := 92) C hM rfl i_5 dX7_copy_44 ?_
          refine lv_aload_n hx hb dX7_copy_45 rfl (lv_at hl 0 rfl) ?_
          refine sk_getR (o := 88) (ci := 7) (j := 4) (t := 92) C hM rfl rfl (by decide) rfl rfl kw_939 dX7_copy_46 ?_
          refine lv_iload_n hx hb dX7_copy_49 rfl (lv_at hl 3 rfl) ?_
          obtain ⟨i_6, h⟩ := sk_chkE h
          refine sk_iald (o := 92) C hM rfl i_6 dX7_copy_50 ?_
          refine lv_icmp_eq hx hb dX7_copy_51 rfl (fun hc => ?_) (fun hc => ?_)
          · have h := sk_pos h hc
            refine lv_iload_n hx hb dX7_copy_57 rfl (lv_at hl 2 rfl) ?_
            refine lv_if_lt hx hb dX7_copy_58 rfl (fun hc => ?_) (fun hc => ?_)
            · have h := sk_pos h hc
              refine lv_ldcw (v := (-1000000013)) hx hb hown (hts _ kw_1394) dX7_copy_106 ?_
              exact sk_iret C hM hS (sk_e2 h) dX7_copy_109
            · have h := sk_neg h hc
              refine lv_iload hx hb dX7_copy_61 (lv_at hl 4 rfl) ?_
              refine lv_if_lt hx hb dX7_copy_63 rfl (fun hc => ?_) (fun hc => ?_)
              · have h := sk_pos h hc
                refine lv_ldcw (v := (-1000000013)) hx hb hown (hts _ kw_1394) dX7_copy_106 ?_
                exact sk_iret C hM hS (sk_e2 h) dX7_copy_109
              · have h := sk_neg h hc
                refine lv_iload hx hb dX7_copy_66 (lv_at hl 5 rfl) ?_
                refine lv_if_lt hx hb dX7_copy_68 rfl (fun hc => ?_) (fun hc => ?_)
                · have h := sk_pos h hc
                  refine lv_ldcw (v := (-1000000013)) hx hb hown (hts _ kw_1394) dX7_copy_106 ?_
                  exact sk_iret C hM hS (sk_e2 h) dX7_copy_109
                · have h := sk_neg h hc
                  refine lv_iload_n hx hb dX7_copy_71 rfl (lv_at hl 2 rfl) ?_
                  refine lv_i2l (v := a2.toInt64) hx hb dX7_copy_72 rfl ?_
                  refine lv_iload hx hb dX7_copy_73 (lv_at hl 5 rfl) ?_
                  refine lv_i2l (v := a5.toInt64) hx hb dX7_copy_75 rfl ?_
                  refine lv_ladd hx hb dX7_copy_76 ?_
                  refine lv_aload_n hx hb dX7_copy_77 rfl (lv_at hl 0 rfl) ?_
                  refine sk_getR (o := 88) (ci := 7) (j := 5) (t := 93) C hM rfl rfl (by decide) rfl rfl kw_940 dX7_copy_78 ?_
                  refine lv_iload_n hx hb dX7_copy_81 rfl (lv_at hl 1 rfl) ?_
                  obtain ⟨i_7, h⟩ := sk_chkE h
                  refine sk_iald (o := 93) C hM rfl i_7 dX7_copy_82 ?_
                  refine lv_i2l (v := ((M 93 a1.toNatClampNeg)).toInt64) hx hb dX7_copy_83 rfl ?_
                  refine W.lcmp hx hb dX7_copy_84 ?_
                  refine lv_if_gt hx hb dX7_copy_85 rfl (fun hc => ?_) (fun hc => ?_)
                  · have h := sk_pos h hc
                    refine lv_ldcw (v := (-1000000013)) hx hb hown (hts _ kw_1394) dX7_copy_106 ?_
                    exact sk_iret C hM hS (sk_e2 h) dX7_copy_109
                  · have h := sk_neg h hc
                    refine lv_iload hx hb dX7_copy_88 (lv_at hl 4 rfl) ?_
                    refine lv_i2l (v := a4.toInt64) hx hb dX7_copy_90 rfl ?_
                    refine lv_iload hx hb dX7_copy_91 (lv_at hl 5 rfl) ?_
                    refine lv_i2l (v := a5.toInt64) hx hb dX7_copy_93 rfl ?_
                    refine lv_ladd hx hb dX7_copy_94 ?_
                    refine lv_aload_n hx hb dX7_copy_95 rfl (lv_at hl 0 rfl) ?_
                    refine sk_getR (o := 88) (ci := 7) (j := 5) (t := 93) C hM rfl rfl (by decide) rfl rfl kw_940 dX7_copy_96 ?_
                    refine lv_iload_n hx hb dX7_copy_99 rfl (lv_at hl 3 rfl) ?_
                    obtain ⟨i_8, h⟩ := sk_chkE h
                    refine sk_iald (o := 93) C hM rfl i_8 dX7_copy_100 ?_
                    refine lv_i2l (v := ((M 93 a3.toNatClampNeg)).toInt64) hx hb dX7_copy_101 rfl ?_
                    refine W.lcmp hx hb dX7_copy_102 ?_
                    refine lv_if_le hx hb dX7_copy_103 rfl (fun hc => ?_) (fun hc => ?_)
                    · have h := sk_pos h hc
                      refine lv_iconst (v := 0) hx hb dX7_copy_110 (by decide) ?_
                      refine lv_istore (lv' := [(6, .int 0), (0, .ref (sk_ad g 88)), (1, .int a1), (2, .int a2), (3, .int a3), (4, .int a4), (5, .int a5)]) hx hb dX7_copy_111 hl (by decide) rfl (fun ls hl => ?_)
                      obtain ⟨M_12, h_19, h⟩ := sk_b1E h
                      refine w_X7_copy_L113 C a1 a2 a3 a4 a5 sk_FU 0 M _ _ _ (lv_sub hl [1, 2, 3, 4, 5, 6, 0] rfl) hM hS h_19 (fun y_20 H locs ls he hl hM hS => ?_)
                      obtain rfl := Option.some.inj he
                      refine lv_iconst (v := 0) hx hb dX7_copy_147 (by decide) ?_
                      refine lv_istore (lv' := [(6, .int 0), (0, .ref (sk_ad g 88)), (3, .int a3), (4, .int a4), (5, .int a5)]) hx hb dX7_copy_148 hl (by decide) rfl (fun ls hl => ?_)
                      obtain ⟨M_16, h_17, h⟩ := sk_b1E h
                      refine w_X7_copy_L150 C a3 a4 a5 sk_FU 0 y_20 _ _ _ (lv_sub hl [1, 2, 3, 4, 0] rfl) hM hS h_17 (fun y_18 H locs ls he hl hM hS => ?_)
                      obtain rfl := Option.some.inj he
                      refine lv_iload hx hb dX7_copy_185 (lv_at hl 0 rfl) ?_
                      exact sk_iret C hM hS (sk_e2 h) dX7_copy_187
                    · have h := sk_neg h hc
                      refine lv_ldcw (v := (-1000000013)) hx hb hown (hts _ kw_1394) dX7_copy_106 ?_
                      exact sk_iret C hM hS (sk_e2 h) dX7_copy_109
          · have h := sk_neg h hc
            refine lv_ldc (v := (-1000000012)) hx hb hown (hts _ kw_1074) dX7_copy_54 ?_
            exact sk_iret C hM hS (sk_e2 h) dX7_copy_56
        · have h := sk_neg h hc
          refine lv_ldcw (v := (-1000000011)) hx hb hown (hts _ kw_1393) dX7_copy_35 ?_
          exact sk_iret C hM hS (sk_e2 h) dX7_copy_38
    · have h := sk_pos h hc
      refine lv_ldc (v := (-1000000001)) hx hb hown (hts _ kw_1044) dX7_copy_14 ?_
      exact sk_iret C hM hS (sk_e2 h) dX7_copy_16
theorem dX7_isSlot_0 : decode cX7_isSlot 0 = .ok (.iload_n 0, 1) := by decide +kernel
theorem dX7_isSlot_1 : decode cX7_isSlot 1 = .ok (.i2l, 1) := by decide +kernel
theorem dX7_isSlot_2 : decode cX7_isSlot 2 = .ok (.lconst 0, 1) := by decide +kernel
theorem dX7_isSlot_3 : decode cX7_isSlot 3 = .ok (.ldc2_w 308, 3) := by decide +kernel
theorem dX7_isSlot_6 : decode cX7_isSlot 6 = .ok (.invokestatic 71, 3) := by decide +kernel
theorem dX7_isSlot_9 : decode cX7_isSlot 9 = .ok (.ireturn, 1) := by decide +kernel
set_option maxHeartbeats 4000000 in
set_option maxRecDepth 100000 in
theorem c_X7_isSlot (g : sk_G) (l : Launch) (a0 : Int32) (M : sk_M) {rr : Int32} (h : f_X7_isSlot a0 = rr) : sk_MI g l yX7_isSlot cX7_isSlot 1 (some .boolean) 2 [.int a0] M rr M := by
  refine sk_go [(0, .int a0)] (by decide) (Nat.le_of_ble_eq_true rfl) rfl ?_
  intro p e s m av below meth c C ls hl hM hS
  obtain ⟨hx, hb, hml, hown, hts, hK, hE, hr, hlocks⟩ := id C
  rw [f_X7_isSlot] at h
  refine lv_iload_n hx hb dX7_isSlot_0 rfl (lv_at hl 0 rfl) ?_
  refine lv_i2l (v := a0.toInt64) hx hb dX7_isSlot_1 rfl ?_
  refine lv_lconst (v := 0) hx hb dX7_isSlot_2 (by decide) ?_
  refine lv_ldc2 (v := 4) hx hb hown (hts _ kw_1416) dX7_isSlot_3 ?_
  refine sk_contI (sk_runS (As := [.long (a0.toInt64), .long 0, .long 4]) (rest := []) C (c_X7_isIn g l (a0.toInt64) 0 4 M rfl) yo_X7_isIn kw_1040 (by decide) hM hS hl.1 rfl rfl (Nat.le_of_ble_eq_true rfl) dX7_isSlot_6) hS (fun H locs hM hS => ?_)
  exact sk_zret C hM hS (sk_nz (fz_X7_isIn (a0.toInt64) 0 4)) ⟨h, rfl⟩ dX7_isSlot_9
theorem dX7_lay_0 : decode cX7_lay 0 = .ok (.iload_n 2, 1) := by decide +kernel
theorem dX7_lay_1 : decode cX7_lay 1 = .ok (.ifCond .eq 33, 3) := by decide +kernel
theorem dX7_lay_4 : decode cX7_lay 4 = .ok (.iload_n 2, 1) := by decide +kernel
theorem dX7_lay_5 : decode cX7_lay 5 = .ok (.iconst 3, 1) := by decide +kernel
theorem dX7_lay_6 : decode cX7_lay 6 = .ok (.if_icmp .eq 28, 3) := by decide +kernel
theorem dX7_lay_9 : decode cX7_lay 9 = .ok (.iload_n 2, 1) := by decide +kernel
theorem dX7_lay_10 : decode cX7_lay 10 = .ok (.iconst 1, 1) := by decide +kernel
theorem dX7_lay_11 : decode cX7_lay 11 = .ok (.if_icmp .ne 11, 3) := by decide +kernel
theorem dX7_lay_14 : decode cX7_lay 14 = .ok (.aload_n 0, 1) := by decide +kernel
theorem dX7_lay_15 : decode cX7_lay 15 = .ok (.iload_n 3, 1) := by decide +kernel
theorem dX7_lay_16 : decode cX7_lay 16 = .ok (.invokevirtual 107, 3) := by decide +kernel
theorem dX7_lay_19 : decode cX7_lay 19 = .ok (.ifCond .ne 15, 3) := by decide +kernel
theorem dX7_lay_22 : decode cX7_lay 22 = .ok (.iload_n 2, 1) := by decide +kernel
theorem dX7_lay_23 : decode cX7_lay 23 = .ok (.iconst 2, 1) := by decide +kernel
theorem dX7_lay_24 : decode cX7_lay 24 = .ok (.if_icmp .ne 14, 3) := by decide +kernel
theorem dX7_lay_27 : decode cX7_lay 27 = .ok (.iload_n 3, 1) := by decide +kernel
theorem dX7_lay_28 : decode cX7_lay 28 = .ok (.invokestatic 296, 3) := by decide +kernel
theorem dX7_lay_31 : decode cX7_lay 31 = .ok (.ifCond .eq 7, 3) := by decide +kernel
theorem dX7_lay_34 : decode cX7_lay 34 = .ok (.iconst 1, 1) := by decide +kernel
theorem dX7_lay_35 : decode cX7_lay 35 = .ok (.goto 4, 3) := by decide +kernel
theorem dX7_lay_38 : decode cX7_lay 38 = .ok (.iconst 0, 1) := by decide +kernel
theorem dX7_lay_39 : decode cX7_lay 39 = .ok (.istore 4, 2) := by decide +kernel
theorem dX7_lay_41 : decode cX7_lay 41 = .ok (.iload_n 1, 1) := by decide +kernel
theorem dX7_lay_42 : decode cX7_lay 42 = .ok (.invokestatic 310, 3) := by decide +kernel
theorem dX7_lay_45 : decode cX7_lay 45 = .ok (.ifCond .eq 8, 3) := by decide +kernel
theorem dX7_lay_48 : decode cX7_lay 48 = .ok (.iload 4, 2) := by decide +kernel
theorem dX7_lay_50 : decode cX7_lay 50 = .ok (.ifCond .ne 6, 3) := by decide +kernel
theorem dX7_lay_53 : decode cX7_lay 53 = .ok (.ldc 80, 2) := by decide +kernel
theorem dX7_lay_55 : decode cX7_lay 55 = .ok (.ireturn, 1) := by decide +kernel
theorem dX7_lay_56 : decode cX7_lay 56 = .ok (.iload_n 2, 1) := by decide +kernel
theorem dX7_lay_57 : decode cX7_lay 57 = .ok (.iconst 2, 1) := by decide +kernel
theorem dX7_lay_58 : decode cX7_lay 58 = .ok (.if_icmp .ne 16, 3) := by decide +kernel
theorem dX7_lay_61 : decode cX7_lay 61 = .ok (.aload_n 0, 1) := by decide +kernel
theorem dX7_lay_62 : decode cX7_lay 62 = .ok (.getfield 19, 3) := by decide +kernel
theorem dX7_lay_65 : decode cX7_lay 65 = .ok (.iload_n 3, 1) := by decide +kernel
theorem dX7_lay_66 : decode cX7_lay 66 = .ok (.iaload, 1) := by decide +kernel
theorem dX7_lay_67 : decode cX7_lay 67 = .ok (.ifCond .ge 7, 3) := by decide +kernel
theorem dX7_lay_70 : decode cX7_lay 70 = .ok (.ldc_w 302, 3) := by decide +kernel
theorem dX7_lay_73 : decode cX7_lay 73 = .ok (.ireturn, 1) := by decide +kernel
theorem dX7_lay_74 : decode cX7_lay 74 = .ok (.aload_n 0, 1) := by decide +kernel
theorem dX7_lay_75 : decode cX7_lay 75 = .ok (.getfield 28, 3) := by decide +kernel
theorem dX7_lay_78 : decode cX7_lay 78 = .ok (.iload_n 1, 1) := by decide +kernel
theorem dX7_lay_79 : decode cX7_lay 79 = .ok (.iaload, 1) := by decide +kernel
theorem dX7_lay_80 : decode cX7_lay 80 = .ok (.istore 5, 2) := by decide +kernel
theorem dX7_lay_82 : decode cX7_lay 82 = .ok (.aload_n 0, 1) := by decide +kernel
theorem dX7_lay_83 : decode cX7_lay 83 = .ok (.getfield 28, 3) := by decide +kernel
theorem dX7_lay_86 : decode cX7_lay 86 = .ok (.iload_n 1, 1) := by decide +kernel
theorem dX7_lay_87 : decode cX7_lay 87 = .ok (.iload_n 2, 1) := by decide +kernel
theorem dX7_lay_88 : decode cX7_lay 88 = .ok (.iastore, 1) := by decide +kernel
theorem dX7_lay_89 : decode cX7_lay 89 = .ok (.aload_n 0, 1) := by decide +kernel
theorem dX7_lay_90 : decode cX7_lay 90 = .ok (.getfield 31, 3) := by decide +kernel
theorem dX7_lay_93 : decode cX7_lay 93 = .ok (.iload_n 1, 1) := by decide +kernel
theorem dX7_lay_94 : decode cX7_lay 94 = .ok (.iload_n 2, 1) := by decide +kernel
theorem dX7_lay_95 : decode cX7_lay 95 = .ok (.iconst 1, 1) := by decide +kernel
theorem dX7_lay_96 : decode cX7_lay 96 = .ok (.if_icmp .ne 12, 3) := by decide +kernel
theorem dX7_lay_99 : decode cX7_lay 99 = .ok (.aload_n 0, 1) := by decide +kernel
theorem dX7_lay_100 : decode cX7_lay 100 = .ok (.iload_n 3, 1) := by decide +kernel
theorem dX7_lay_101 : decode cX7_lay 101 = .ok (.iconst 0, 1) := by decide +kernel
theorem dX7_lay_102 : decode cX7_lay 102 = .ok (.invokevirtual 86, 3) := by decide +kernel
theorem dX7_lay_105 : decode cX7_lay 105 = .ok (.goto 4, 3) := by decide +kernel
theorem dX7_lay_108 : decode cX7_lay 108 = .ok (.iload_n 3, 1) := by decide +kernel
theorem dX7_lay_109 : decode cX7_lay 109 = .ok (.iastore, 1) := by decide +kernel
theorem dX7_lay_110 : decode cX7_lay 110 = .ok (.aload_n 0, 1) := by decide +kernel
theorem dX7_lay_111 : decode cX7_lay 111 = .ok (.getfield 34, 3) := by decide +kernel
theorem dX7_lay_114 : decode cX7_lay 114 = .ok (.iload_n 1, 1) := by decide +kernel
theorem dX7_lay_115 : decode cX7_lay 115 = .ok (.iload_n 2, 1) := by decide +kernel
theorem dX7_lay_116 : decode cX7_lay 116 = .ok (.iconst 1, 1) := by decide +kernel
theorem dX7_lay_117 : decode cX7_lay 117 = .ok (.if_icmp .ne 11, 3) := by decide +kernel
theorem dX7_lay_120 : decode cX7_lay 120 = .ok (.aload_n 0, 1) := by decide +kernel
theorem dX7_lay_121 : decode cX7_lay 121 = .ok (.iload_n 3, 1) := by decide +kernel
theorem dX7_lay_122 : decode cX7_lay 122 = .ok (.invokevirtual 113, 3) := by decide +kernel
theorem dX7_lay_125 : decode cX7_lay 125 = .ok (.goto 4, 3) := by decide +kernel
theorem dX7_lay_128 : decode cX7_lay 128 = .ok (.iconst 0, 1) := by decide +kernel
theorem dX7_lay_129 : decode cX7_lay 129 = .ok (.iastore, 1) := by decide +kernel
theorem dX7_lay_130 : decode cX7_lay 130 = .ok (.iload_n 2, 1) := by decide +kernel
theorem dX7_lay_131 : decode cX7_lay 131 = .ok (.iconst 2, 1) := by decide +kernel
theorem dX7_lay_132 : decode cX7_lay 132 = .ok (.if_icmp .ne 55, 3) := by decide +kernel
theorem dX7_lay_135 : decode cX7_lay 135 = .ok (.aload_n 0, 1) := by decide +kernel
theorem dX7_lay_136 : decode cX7_lay 136 = .ok (.getfield 37, 3) := by decide +kernel
theorem dX7_lay_139 : decode cX7_lay 139 = .ok (.iload_n 1, 1) := by decide +kernel
theorem dX7_lay_140 : decode cX7_lay 140 = .ok (.aload_n 0, 1) := by decide +kernel
theorem dX7_lay_141 : decode cX7_lay 141 = .ok (.getfield 22, 3) := by decide +kernel
theorem dX7_lay_144 : decode cX7_lay 144 = .ok (.iload_n 3, 1) := by decide +kernel
theorem dX7_lay_145 : decode cX7_lay 145 = .ok (.iaload, 1) := by decide +kernel
theorem dX7_lay_146 : decode cX7_lay 146 = .ok (.iastore, 1) := by decide +kernel
theorem dX7_lay_147 : decode cX7_lay 147 = .ok (.iconst 0, 1) := by decide +kernel
theorem dX7_lay_148 : decode cX7_lay 148 = .ok (.istore 6, 2) := by decide +kernel
theorem dX7_lay_150 : decode cX7_lay 150 = .ok (.iload 6, 2) := by decide +kernel
theorem dX7_lay_152 : decode cX7_lay 152 = .ok (.bipush 24, 2) := by decide +kernel
theorem dX7_lay_154 : decode cX7_lay 154 = .ok (.if_icmp .ge 33, 3) := by decide +kernel
theorem dX7_lay_157 : decode cX7_lay 157 = .ok (.aload_n 0, 1) := by decide +kernel
theorem dX7_lay_158 : decode cX7_lay 158 = .ok (.getfield 40, 3) := by decide +kernel
theorem dX7_lay_161 : decode cX7_lay 161 = .ok (.bipush 24, 2) := by decide +kernel
theorem dX7_lay_163 : decode cX7_lay 163 = .ok (.iload_n 1, 1) := by decide +kernel
theorem dX7_lay_164 : decode cX7_lay 164 = .ok (.imul, 1) := by decide +kernel
theorem dX7_lay_165 : decode cX7_lay 165 = .ok (.iload 6, 2) := by decide +kernel
theorem dX7_lay_167 : decode cX7_lay 167 = .ok (.iadd, 1) := by decide +kernel
theorem dX7_lay_168 : decode cX7_lay 168 = .ok (.aload_n 0, 1) := by decide +kernel
theorem dX7_lay_169 : decode cX7_lay 169 = .ok (.getfield 25, 3) := by decide +kernel
theorem dX7_lay_172 : decode cX7_lay 172 = .ok (.bipush 24, 2) := by decide +kernel
theorem dX7_lay_174 : decode cX7_lay 174 = .ok (.iload_n 3, 1) := by decide +kernel
theorem dX7_lay_175 : decode cX7_lay 175 = .ok (.imul, 1) := by decide +kernel
theorem dX7_lay_176 : decode cX7_lay 176 = .ok (.iload 6, 2) := by decide +kernel
theorem dX7_lay_178 : decode cX7_lay 178 = .ok (.iadd, 1) := by decide +kernel
theorem dX7_lay_179 : decode cX7_lay 179 = .ok (.iaload, 1) := by decide +kernel
theorem dX7_lay_180 : decode cX7_lay 180 = .ok (.iastore, 1) := by decide +kernel
theorem dX7_lay_181 : decode cX7_lay 181 = .ok (.iinc 6 1, 3) := by decide +kernel
theorem dX7_lay_184 : decode cX7_lay 184 = .ok (.goto (-34), 3) := by decide +kernel
theorem dX7_lay_187 : decode cX7_lay 187 = .ok (.iload 5, 2) := by decide +kernel
theorem dX7_lay_189 : decode cX7_lay 189 = .ok (.ireturn, 1) := by decide +kernel
set_option maxHeartbeats 4000000 in
set_option maxRecDepth 100000 in
theorem w_X7_lay_L150 {g : sk_G} {l : Launch} {p : Program} {e : Env} {s : State} {m : MethodId} {av : Array Value} {below : List Frame} {meth : Method} {c : Code} (C : sk_C g p s m av meth c cX7_lay 7 RX7 (some .int)) (a1 : Int32) (a3 : Int32) (a5 : Int32) {rr : Int32} {MM : sk_M} :
    ∀ (n : Nat) (a6 : Int32) (M : sk_M) (H : Heap) (locs : List Loc) (ls : Array Slot), lv_has ls 7 [(0, .ref (sk_ad g 88)), (1, .int a1), (3, .int a3), (5, .int a5), (6, .int a6)] → sk_P g M H → va_S (sk_A g) s.heap H locs → ∀ {out : sk_M}, f_X7_lay_L150 a1 a3 a5 n a6 M = some out → (∀ (M1 : sk_M) (H : Heap) (locs : List Loc) (ls : Array Slot), some M1 = some out → lv_has ls 7 [(5, .int a5)] → sk_P g M1 H → va_S (sk_A g) s.heap H locs → W p l e (sk_rm 3) s m av below meth c H locs 0 0 (MQ below (sk_QI g rr MM) av s 0 0 (sk_A g)) (F0 m 187 ls [])) → W p l e (sk_rm 3) s m av below meth c H locs 0 0 (MQ below (sk_QI g rr MM) av s 0 0 (sk_A g)) (F0 m 150 ls []) := by
  obtain ⟨hx, hb, hml, hown, hts, hK, hE, hr, hlocks⟩ := id C
  intro n
  induction n with
  | zero =>
    intro a6 M H locs ls hl hM hS out h
    cases h
  | succ n ih =>
    intro a6 M H locs ls hl hM hS out h kx
    rw [f_X7_lay_L150] at h
    refine lv_iload hx hb dX7_lay_150 (lv_at hl 4 rfl) ?_
    refine lv_bipush (v := 24) hx hb dX7_lay_152 (by decide) ?_
    refine lv_icmp_ge hx hb dX7_lay_154 rfl (fun hc => ?_) (fun hc => ?_)
    · have h := sk_pos h hc
      exact kx _ _ _ _ h (lv_sub hl [3] rfl) hM hS
    · have h := sk_neg h hc
      refine lv_aload_n hx hb dX7_lay_157 rfl (lv_at hl 0 rfl) ?_
      refine sk_getR (o := 88) (ci := 7) (j := 11) (t := 99) C hM rfl rfl (by decide) rfl rfl kw_946 dX7_lay_158 ?_
      refine lv_bipush (v := 24) hx hb dX7_lay_161 (by decide) ?_
      refine lv_iload_n hx hb dX7_lay_163 rfl (lv_at hl 1 rfl) ?_
      refine lv_imul hx hb dX7_lay_164 ?_
      refine lv_iload hx hb dX7_lay_165 (lv_at hl 4 rfl) ?_
      refine lv_iadd hx hb dX7_lay_167 ?_
      refine lv_aload_n hx hb dX7_lay_168 rfl (lv_at hl 0 rfl) ?_
      refine sk_getR (o := 88) (ci := 7) (j := 6) (t := 94) C hM rfl rfl (by decide) rfl rfl kw_941 dX7_lay_169 ?_
      refine lv_bipush (v := 24) hx hb dX7_lay_172 (by decide) ?_
      refine lv_iload_n hx hb dX7_lay_174 rfl (lv_at hl 2 rfl) ?_
      refine lv_imul hx hb dX7_lay_175 ?_
      refine lv_iload hx hb dX7_lay_176 (lv_at hl 4 rfl) ?_
      refine lv_iadd hx hb dX7_lay_178 ?_
      obtain ⟨i_27, h⟩ := sk_chkE h
      refine sk_iald (o := 94) C hM rfl i_27 dX7_lay_179 ?_
      obtain ⟨i_28, h⟩ := sk_chkE h
      refine sk_iast (o := 99) C hM hS rfl i_28 dX7_lay_180 (fun M_29 eM_29 H locs hM hS => ?_)
      have h := sk_letU h eM_29
      refine lv_iinc (v := (a6 + 1)) (lv' := [(6, .int (a6 + 1)), (0, .ref (sk_ad g 88)), (1, .int a1), (3, .int a3), (5, .int a5)]) hx hb dX7_lay_181 hl (k := 4) rfl rfl (by decide) rfl (fun ls hl => ?_)
      refine lv_goto hx hb dX7_lay_184 rfl ?_
      exact ih (a6 + 1) M_29 _ _ _ (lv_sub hl [1, 2, 3, 4, 0] rfl) hM hS h kx
set_option maxHeartbeats 4000000 in
set_option maxRecDepth 100000 in
theorem c_X7_lay (g : sk_G) (l : Launch) (a1 : Int32) (a2 : Int32) (a3 : Int32) (M : sk_M) {rr : Int32} {MM : sk_M} (h : f_X7_lay a1 a2 a3 M = some (rr, MM)) : sk_MI g l yX7_lay cX7_lay 7 (some .int) 3 [.ref (sk_ad g 88), .int a1, .int a2, .int a3] M rr MM := by
  refine sk_go [(0, .ref (sk_ad g 88)), (1, .int a1), (2, .int a2), (3, .int a3)] (by decide) (Nat.le_of_ble_eq_true rfl) rfl ?_
  intro p e s m av below meth c C ls hl hM hS
  obtain ⟨hx, hb, hml, hown, hts, hK, hE, hr, hlocks⟩ := id C
  rw [f_X7_lay] at h
  refine lv_iload_n hx hb dX7_lay_0 rfl (lv_at hl 2 rfl) ?_
  have J : ∀ (vv : Int32) (H : Heap) (locs : List Loc), (if a2 = 0 then 1 else (if a2 = 3 then 1 else (if a2 = 1 then (if (f_X7_isScent a3 M) = 0 then (if a2 = 2 then (if (f_X7_isSheet a3) = 0 then 0 else 1 : Int32) else 0 : Int32) else 1 : Int32) else (if a2 = 2 then (if (f_X7_isSheet a3) = 0 then 0 else 1 : Int32) else 0 : Int32) : Int32) : Int32) : Int32) = vv → sk_P g M H → va_S (sk_A g) s.heap H locs → W p l e (sk_rm 3) s m av below meth c H locs 0 0 (MQ below (sk_QI g rr MM) av s 0 0 (sk_A g)) (F0 m 39 ls [.int vv]) := by
    intro vv H locs hvv hM hS
    subst hvv
    refine lv_topi (fun x_4 ex_4 => ?_)
    have h := sk_letU h ex_4
    refine lv_istore (lv' := [(4, .int x_4), (0, .ref (sk_ad g 88)), (1, .int a1), (2, .int a2), (3, .int a3)]) hx hb dX7_lay_39 hl (by decide) rfl (fun ls hl => ?_)
    refine lv_iload_n hx hb dX7_lay_41 rfl (lv_at hl 2 rfl) ?_
    refine sk_contI (sk_runS (As := [.int a1]) (rest := []) C (c_X7_isSlot g l a1 M rfl) yo_X7_isSlot kw_1413 (by decide) hM hS hl.1 rfl rfl (Nat.le_of_ble_eq_true rfl) dX7_lay_42) hS (fun H locs hM hS => ?_)
    refine lv_if_eq hx hb dX7_lay_45 rfl (fun hc => ?_) (fun hc => ?_)
    · have h := sk_pos h hc
      refine lv_ldc (v := (-1000000001)) hx hb hown (hts _ kw_1044) dX7_lay_53 ?_
      exact sk_iret C hM hS (sk_e2 h) dX7_lay_55
    · have h := sk_neg h hc
      refine lv_iload hx hb dX7_lay_48 (lv_at hl 0 rfl) ?_
      refine lv_if_ne hx hb dX7_lay_50 rfl (fun hc => ?_) (fun hc => ?_)
      · have h := sk_neg h hc
        refine lv_iload_n hx hb dX7_lay_56 rfl (lv_at hl 3 rfl) ?_
        refine lv_iconst (v := 2) hx hb dX7_lay_57 (by decide) ?_
        obtain ⟨out_6, h_6, kf_6, kg_6⟩ := sk_s0E h
        have J_6 : ∀  (H : Heap) (locs : List Loc) (ls : Array Slot), some (Sum.inr ()) = some out_6 → lv_has ls 7 [(0, .ref (sk_ad g 88)), (1, .int a1), (2, .int a2), (3, .int a3)] → sk_P g M H → va_S (sk_A g) s.heap H locs → W p l e (sk_rm 3) s m av below meth c H locs 0 0 (MQ below (sk_QI g rr MM) av s 0 0 (sk_A g)) (F0 m 74 ls []) := by
          intro  H locs ls he hl hM hS
          have h := kg_6  (Option.some.inj he).symm
          refine lv_aload_n hx hb dX7_lay_74 rfl (lv_at hl 0 rfl) ?_
          refine sk_getR (o := 88) (ci := 7) (j := 7) (t := 95) C hM rfl rfl (by decide) rfl rfl kw_942 dX7_lay_75 ?_
          refine lv_iload_n hx hb dX7_lay_78 rfl (lv_at hl 1 rfl) ?_
          obtain ⟨i_8, h⟩ := sk_chkE h
          refine sk_iald (o := 95) C hM rfl i_8 dX7_lay_79 ?_
          refine lv_topi (fun x_9 ex_9 => ?_)
          have h := sk_letU h ex_9
          refine lv_istore (lv' := [(5, .int x_9), (0, .ref (sk_ad g 88)), (1, .int a1), (2, .int a2), (3, .int a3)]) hx hb dX7_lay_80 hl (by decide) rfl (fun ls hl => ?_)
          refine lv_aload_n hx hb dX7_lay_82 rfl (lv_at hl 1 rfl) ?_
          refine sk_getR (o := 88) (ci := 7) (j := 7) (t := 95) C hM rfl rfl (by decide) rfl rfl kw_942 dX7_lay_83 ?_
          refine lv_iload_n hx hb dX7_lay_86 rfl (lv_at hl 2 rfl) ?_
          refine lv_iload_n hx hb dX7_lay_87 rfl (lv_at hl 3 rfl) ?_
          obtain ⟨i_10, h⟩ := sk_chkE h
          refine sk_iast (o := 95) C hM hS rfl i_10 dX7_lay_88 (fun M_11 eM_11 H locs hM hS => ?_)
          have h := sk_letU h eM_11
          refine lv_aload_n hx hb dX7_lay_89 rfl (lv_at hl 1 rfl) ?_
          refine sk_getR (o := 88) (ci := 7) (j := 8) (t := 96) C hM rfl rfl (by decide) rfl rfl kw_943 dX7_lay_90 ?_
          refine lv_iload_n hx hb dX7_lay_93 rfl (lv_at hl 2 rfl) ?_
          refine lv_iload_n hx hb dX7_lay_94 rfl (lv_at hl 3 rfl) ?_
          refine lv_iconst (v := 1) hx hb dX7_lay_95 (by decide) ?_
          obtain ⟨y0_12, h_12, kg_12⟩ := sk_b1E h
          have J_12 : ∀ (x_15 : Int32) (H : Heap) (locs : List Loc) (ls : Array Slot), some x_15 = some y0_12 → lv_has ls 7 [(0, .ref (sk_ad g 88)), (1, .int a1), (2, .int a2), (3, .int a3), (5, .int x_9)] → sk_P g M_11 H → va_S (sk_A g) s.heap H locs → W p l e (sk_rm 3) s m av below meth c H locs 0 0 (MQ below (sk_QI g rr MM) av s 0 0 (sk_A g)) (F0 m 109 ls [.int x_15, .int a1, .ref (sk_ad g 96)]) := by
            intro x_15 H locs ls he hl hM hS
            obtain rfl := Option.some.inj he
            have h := kg_12
            obtain ⟨i_16, h⟩ := sk_chkE h
            refine sk_iast (o := 96) C hM hS rfl i_16 dX7_lay_109 (fun M_17 eM_17 H locs hM hS => ?_)
            have h := sk_letU h eM_17
            refine lv_aload_n hx hb dX7_lay_110 rfl (lv_at hl 0 rfl) ?_
            refine sk_getR (o := 88) (ci := 7) (j := 9) (t := 97) C hM rfl rfl (by decide) rfl rfl kw_944 dX7_lay_111 ?_
            refine lv_iload_n hx hb dX7_lay_114 rfl (lv_at hl 1 rfl) ?_
            refine lv_iload_n hx hb dX7_lay_115 rfl (lv_at hl 2 rfl) ?_
            refine lv_iconst (v := 1) hx hb dX7_lay_116 (by decide) ?_
            obtain ⟨y0_18, h_18, kg_18⟩ := sk_b1E h
            have J_18 : ∀ (x_21 : Int32) (H : Heap) (locs : List Loc) (ls : Array Slot), some x_21 = some y0_18 → lv_has ls 7 [(0, .ref (sk_ad g 88)), (1, .int a1), (2, .int a2), (3, .int a3), (5, .int x_9)] → sk_P g M_17 H → va_S (sk_A g) s.heap H locs → W p l e (sk_rm 3) s m av below meth c H locs 0 0 (MQ below (sk_QI g rr MM) av s 0 0 (sk_A g)) (F0 m 129 ls [.int x_21, .int a1, .ref (sk_ad g 97)]) := by
              intro x_21 H locs ls he hl hM hS
              obtain rfl := Option.some.inj he
              have h := kg_18
              obtain ⟨i_22, h⟩ := sk_chkE h
              refine sk_iast (o := 97) C hM hS rfl i_22 dX7_lay_129 (fun M_23 eM_23 H locs hM hS => ?_)
              have h := sk_letU h eM_23
              refine lv_iload_n hx hb dX7_lay_130 rfl (lv_at hl 2 rfl) ?_
              refine lv_iconst (v := 2) hx hb dX7_lay_131 (by decide) ?_
              refine lv_icmp_ne hx hb dX7_lay_132 rfl (fun hc => ?_) (fun hc => ?_)
              · have h := sk_neg h hc
                refine lv_iload hx hb dX7_lay_187 (lv_at hl 4 rfl) ?_
                exact sk_iret C hM hS (sk_e2 h) dX7_lay_189
              · have h := sk_pos h hc
                refine lv_aload_n hx hb dX7_lay_135 rfl (lv_at hl 0 rfl) ?_
                refine sk_getR (o := 88) (ci := 7) (j := 10) (t := 98) C hM rfl rfl (by decide) rfl rfl kw_945 dX7_lay_136 ?_
                refine lv_iload_n hx hb dX7_lay_139 rfl (lv_at hl 1 rfl) ?_
                refine lv_aload_n hx hb dX7_lay_140 rfl (lv_at hl 0 rfl) ?_
                refine sk_getR (o := 88) (ci := 7) (j := 5) (t := 93) C hM rfl rfl (by decide) rfl rfl kw_940 dX7_lay_141 ?_
                refine lv_iload_n hx hb dX7_lay_144 rfl (lv_at hl 3 rfl) ?_
                obtain ⟨i_24, h⟩ := sk_chkE h
                refine sk_iald (o := 93) C hM rfl i_24 dX7_lay_145 ?_
                obtain ⟨i_25, h⟩ := sk_chkE h
                refine sk_iast (o := 98) C hM hS rfl i_25 dX7_lay_146 (fun M_26 eM_26 H locs hM hS => ?_)
                have h := sk_letU h eM_26
                refine lv_iconst (v := 0) hx hb dX7_lay_147 (by decide) ?_
                refine lv_istore (lv' := [(6, .int 0), (0, .ref (sk_ad g 88)), (1, .int a1), (2, .int a2), (3, .int a3), (5, .int x_9)]) hx hb dX7_lay_148 hl (by decide) rfl (fun ls hl => ?_)
                obtain ⟨M_30, h_31, h⟩ := sk_b1E h
                refine w_X7_lay_L150 C a1 a3 x_9 sk_FU 0 M_26 _ _ _ (lv_sub hl [1, 2, 4, 5, 0] rfl) hM hS h_31 (fun y_32 H locs ls he hl hM hS => ?_)
                obtain rfl := Option.some.inj he
                refine lv_iload hx hb dX7_lay_187 (lv_at hl 0 rfl) ?_
                exact sk_iret C hM hS (sk_e2 h) dX7_lay_189
            have h := h_18
            refine lv_icmp_ne hx hb dX7_lay_117 rfl (fun hc => ?_) (fun hc => ?_)
            · have h := sk_neg h hc
              refine lv_iconst (v := 0) hx hb dX7_lay_128 (by decide) ?_
              exact J_18 _ _ _ _ h (lv_sub hl [0, 1, 2, 3, 4] rfl) hM hS
            · have h := sk_pos h hc
              refine lv_aload_n hx hb dX7_lay_120 rfl (lv_at hl 0 rfl) ?_
              refine lv_iload_n hx hb dX7_lay_121 rfl (lv_at hl 3 rfl) ?_
              obtain ⟨x_19, h_20, h⟩ := sk_b1E h
              refine sk_contI (sk_runV (As := [.int a3]) (rest := [.int a1, .ref (sk_ad g 97)]) C (c_X7_worth g l a3 M_17 h_20) yo_X7_worth kw_1063 (sk_recv (ci := 7) C hM rfl rfl) (by decide) hM hS hl.1 rfl rfl (Nat.le_of_ble_eq_true rfl) dX7_lay_122) hS (fun H locs hM hS => ?_)
              refine lv_goto hx hb dX7_lay_125 rfl ?_
              exact J_18 _ _ _ _ h (lv_sub hl [0, 1, 2, 3, 4] rfl) hM hS
          have h := h_12
          refine lv_icmp_ne hx hb dX7_lay_96 rfl (fun hc => ?_) (fun hc => ?_)
          · have h := sk_neg h hc
            refine lv_iload_n hx hb dX7_lay_108 rfl (lv_at hl 4 rfl) ?_
            exact J_12 _ _ _ _ h (lv_sub hl [1, 2, 3, 4, 0] rfl) hM hS
          · have h := sk_pos h hc
            refine lv_aload_n hx hb dX7_lay_99 rfl (lv_at hl 1 rfl) ?_
            refine lv_iload_n hx hb dX7_lay_100 rfl (lv_at hl 4 rfl) ?_
            refine lv_iconst (v := 0) hx hb dX7_lay_101 (by decide) ?_
            obtain ⟨x_13, h_14, h⟩ := sk_b1E h
            refine sk_contI (sk_runV (As := [.int a3, .int 0]) (rest := [.int a1, .ref (sk_ad g 96)]) C (c_X7_of g l a3 0 M_11 h_14) yo_X7_of kw_1059 (sk_recv (ci := 7) C hM rfl rfl) (by decide) hM hS hl.1 rfl rfl (Nat.le_of_ble_eq_true rfl) dX7_lay_102) hS (fun H locs hM hS => ?_)
            refine lv_goto hx hb dX7_lay_105 rfl ?_
            exact J_12 _ _ _ _ h (lv_sub hl [1, 2, 3, 4, 0] rfl) hM hS
        have h := h_6
        refine lv_icmp_ne hx hb dX7_lay_58 rfl (fun hc => ?_) (fun hc => ?_)
        · have h := sk_neg h hc
          exact J_6  _ _ _ h (lv_sub hl [1, 2, 3, 4] rfl) hM hS
        · have h := sk_pos h hc
          refine lv_aload_n hx hb dX7_lay_61 rfl (lv_at hl 1 rfl) ?_
          refine sk_getR (o := 88) (ci := 7) (j := 4) (t := 92) C hM rfl rfl (by decide) rfl rfl kw_939 dX7_lay_62 ?_
          refine lv_iload_n hx hb dX7_lay_65 rfl (lv_at hl 4 rfl) ?_
          obtain ⟨i_7, h⟩ := sk_chkE h
          refine sk_iald (o := 92) C hM rfl i_7 dX7_lay_66 ?_
          refine lv_if_ge hx hb dX7_lay_67 rfl (fun hc => ?_) (fun hc => ?_)
          · have h := sk_pos h hc
            exact J_6  _ _ _ h (lv_sub hl [1, 2, 3, 4] rfl) hM hS
          · have h := sk_neg h hc
            refine lv_ldcw (v := (-1000000011)) hx hb hown (hts _ kw_1393) dX7_lay_70 ?_
            have h := kf_6 _ (Option.some.inj h).symm
            exact sk_iret C hM hS (sk_e2 h) dX7_lay_73
      · have h := sk_pos h hc
        refine lv_ldc (v := (-1000000001)) hx hb hown (hts _ kw_1044) dX7_lay_53 ?_
        exact sk_iret C hM hS (sk_e2 h) dX7_lay_55
  refine lv_if_eq hx hb dX7_lay_1 rfl (fun hc => ?_) (fun hc => ?_)
  · have J := fun vv H locs q => J vv H locs ((if_pos hc).trans q)
    refine lv_iconst (v := 1) hx hb dX7_lay_34 (by decide) ?_
    refine lv_goto hx hb dX7_lay_35 rfl ?_
    exact J _ _ _ rfl hM hS
  · have J := fun vv H locs q => J vv H locs ((if_neg hc).trans q)
    refine lv_iload_n hx hb dX7_lay_4 rfl (lv_at hl 2 rfl) ?_
    refine lv_iconst (v := 3) hx hb dX7_lay_5 (by decide) ?_
    refine lv_icmp_eq hx hb dX7_lay_6 rfl (fun hc => ?_) (fun hc => ?_)
    · have J := fun vv H locs q => J vv H locs ((if_pos hc).trans q)
      refine lv_iconst (v := 1) hx hb dX7_lay_34 (by decide) ?_
      refine lv_goto hx hb dX7_lay_35 rfl ?_
      exact J _ _ _ rfl hM hS
    · have J := fun vv H locs q => J vv H locs ((if_neg hc).trans q)
      refine lv_iload_n hx hb dX7_lay_9 rfl (lv_at hl 2 rfl) ?_
      refine lv_iconst (v := 1) hx hb dX7_lay_10 (by decide) ?_
      refine lv_icmp_ne hx hb dX7_lay_11 rfl (fun hc => ?_) (fun hc => ?_)
      · have J := fun vv H locs q => J vv H locs ((if_neg hc).trans q)
        refine lv_iload_n hx hb dX7_lay_22 rfl (lv_at hl 2 rfl) ?_
        refine lv_iconst (v := 2) hx hb dX7_lay_23 (by decide) ?_
        refine lv_icmp_ne hx hb dX7_lay_24 rfl (fun hc => ?_) (fun hc => ?_)
        · have J := fun vv H locs q => J vv H locs ((if_neg hc).trans q)
          refine lv_iconst (v := 0) hx hb dX7_lay_38 (by decide) ?_
          exact J _ _ _ rfl hM hS
        · have J := fun vv H locs q => J vv H locs ((if_pos hc).trans q)
          refine lv_iload_n hx hb dX7_lay_27 rfl (lv_at hl 3 rfl) ?_
          refine sk_contI (sk_runS (As := [.int a3]) (rest := []) C (c_X7_isSheet g l a3 M rfl) yo_X7_isSheet kw_1384 (by decide) hM hS hl.1 rfl rfl (Nat.le_of_ble_eq_true rfl) dX7_lay_28) hS (fun H locs hM hS => ?_)
          refine lv_if_eq hx hb dX7_lay_31 rfl (fun hc => ?_) (fun hc => ?_)
          · have J := fun vv H locs q => J vv H locs ((if_pos hc).trans q)
            refine lv_iconst (v := 0) hx hb dX7_lay_38 (by decide) ?_
            exact J _ _ _ rfl hM hS
          · have J := fun vv H locs q => J vv H locs ((if_neg hc).trans q)
            refine lv_iconst (v := 1) hx hb dX7_lay_34 (by decide) ?_
            refine lv_goto hx hb dX7_lay_35 rfl ?_
            exact J _ _ _ rfl hM hS
      · have J := fun vv H locs q => J vv H locs ((if_pos hc).trans q)
        refine lv_aload_n hx hb dX7_lay_14 rfl (lv_at hl 0 rfl) ?_
        refine lv_iload_n hx hb dX7_lay_15 rfl (lv_at hl 3 rfl) ?_
        refine sk_contI (sk_runV (As := [.int a3]) (rest := []) C (c_X7_isScent g l a3 M rfl) yo_X7_isScent kw_1054 (sk_recv (ci := 7) C hM rfl rfl) (by decide) hM hS hl.1 rfl rfl (Nat.le_of_ble_eq_true rfl) dX7_lay_16) hS (fun H locs hM hS => ?_)
        refine lv_if_ne hx hb dX7_lay_19 rfl (fun hc => ?_) (fun hc => ?_)
        · have J := fun vv H locs q => J vv H locs ((if_neg hc).trans q)
          refine lv_iconst (v := 1) hx hb dX7_lay_34 (by decide) ?_
          refine lv_goto hx hb dX7_lay_35 rfl ?_
          exact J _ _ _ rfl hM hS
        · have J := fun vv H locs q => J vv H locs ((if_pos hc).trans q)
          refine lv_iload_n hx hb dX7_lay_22 rfl (lv_at hl 2 rfl) ?_
          refine lv_iconst (v := 2) hx hb dX7_lay_23 (by decide) ?_
          refine lv_icmp_ne hx hb dX7_lay_24 rfl (fun hc => ?_) (fun hc => ?_)
          · have J := fun vv H locs q => J vv H locs ((if_neg hc).trans q)
            refine lv_iconst (v := 0) hx hb dX7_lay_38 (by decide) ?_
            exact J _ _ _ rfl hM hS
          · have J := fun vv H locs q => J vv H locs ((if_pos hc).trans q)
            refine lv_iload_n hx hb dX7_lay_27 rfl (lv_at hl 3 rfl) ?_
            refine sk_contI (sk_runS (As := [.int a3]) (rest := []) C (c_X7_isSheet g l a3 M rfl) yo_X7_isSheet kw_1384 (by decide) hM hS hl.1 rfl rfl (Nat.le_of_ble_eq_true rfl) dX7_lay_28) hS (fun H locs hM hS => ?_)
            refine lv_if_eq hx hb dX7_lay_31 rfl (fun hc => ?_) (fun hc => ?_)
            · have J := fun vv H locs q => J vv H locs ((if_pos hc).trans q)
              refine lv_iconst (v := 0) hx hb dX7_lay_38 (by decide) ?_
              exact J _ _ _ rfl hM hS
            · have J := fun vv H locs q => J vv H locs ((if_neg hc).trans q)
              refine lv_iconst (v := 1) hx hb dX7_lay_34 (by decide) ?_
              refine lv_goto hx hb dX7_lay_35 rfl ?_
              exact J _ _ _ rfl hM hS
theorem dX7_ask_0 : decode cX7_ask 0 = .ok (.iload_n 1, 1) := by decide +kernel
theorem dX7_ask_1 : decode cX7_ask 1 = .ok (.invokestatic 310, 3) := by decide +kernel
theorem dX7_ask_4 : decode cX7_ask 4 = .ok (.ifCond .eq 15, 3) := by decide +kernel
theorem dX7_ask_7 : decode cX7_ask 7 = .ok (.iload_n 2, 1) := by decide +kernel
theorem dX7_ask_8 : decode cX7_ask 8 = .ok (.i2l, 1) := by decide +kernel
theorem dX7_ask_9 : decode cX7_ask 9 = .ok (.lconst 0, 1) := by decide +kernel
theorem dX7_ask_10 : decode cX7_ask 10 = .ok (.ldc2_w 76, 3) := by decide +kernel
theorem dX7_ask_13 : decode cX7_ask 13 = .ok (.invokestatic 71, 3) := by decide +kernel
theorem dX7_ask_16 : decode cX7_ask 16 = .ok (.ifCond .ne 6, 3) := by decide +kernel
theorem dX7_ask_19 : decode cX7_ask 19 = .ok (.ldc 80, 2) := by decide +kernel
theorem dX7_ask_21 : decode cX7_ask 21 = .ok (.ireturn, 1) := by decide +kernel
theorem dX7_ask_22 : decode cX7_ask 22 = .ok (.aload_n 0, 1) := by decide +kernel
theorem dX7_ask_23 : decode cX7_ask 23 = .ok (.getfield 28, 3) := by decide +kernel
theorem dX7_ask_26 : decode cX7_ask 26 = .ok (.iload_n 1, 1) := by decide +kernel
theorem dX7_ask_27 : decode cX7_ask 27 = .ok (.iaload, 1) := by decide +kernel
theorem dX7_ask_28 : decode cX7_ask 28 = .ok (.ifCond .ne 7, 3) := by decide +kernel
theorem dX7_ask_31 : decode cX7_ask 31 = .ok (.ldc_w 302, 3) := by decide +kernel
theorem dX7_ask_34 : decode cX7_ask 34 = .ok (.ireturn, 1) := by decide +kernel
theorem dX7_ask_35 : decode cX7_ask 35 = .ok (.aload_n 0, 1) := by decide +kernel
theorem dX7_ask_36 : decode cX7_ask 36 = .ok (.getfield 28, 3) := by decide +kernel
theorem dX7_ask_39 : decode cX7_ask 39 = .ok (.iload_n 1, 1) := by decide +kernel
theorem dX7_ask_40 : decode cX7_ask 40 = .ok (.iaload, 1) := by decide +kernel
theorem dX7_ask_41 : decode cX7_ask 41 = .ok (.iconst 1, 1) := by decide +kernel
theorem dX7_ask_42 : decode cX7_ask 42 = .ok (.if_icmp .ne 25, 3) := by decide +kernel
theorem dX7_ask_45 : decode cX7_ask 45 = .ok (.aload_n 0, 1) := by decide +kernel
theorem dX7_ask_46 : decode cX7_ask 46 = .ok (.getfield 31, 3) := by decide +kernel
theorem dX7_ask_49 : decode cX7_ask 49 = .ok (.iload_n 1, 1) := by decide +kernel
theorem dX7_ask_50 : decode cX7_ask 50 = .ok (.iaload, 1) := by decide +kernel
theorem dX7_ask_51 : decode cX7_ask 51 = .ok (.iload_n 2, 1) := by decide +kernel
theorem dX7_ask_52 : decode cX7_ask 52 = .ok (.invokestatic 116, 3) := by decide +kernel
theorem dX7_ask_55 : decode cX7_ask 55 = .ok (.ifCond .eq 12, 3) := by decide +kernel
theorem dX7_ask_58 : decode cX7_ask 58 = .ok (.aload_n 0, 1) := by decide +kernel
theorem dX7_ask_59 : decode cX7_ask 59 = .ok (.getfield 34, 3) := by decide +kernel
theorem dX7_ask_62 : decode cX7_ask 62 = .ok (.iload_n 1, 1) := by decide +kernel
theorem dX7_ask_63 : decode cX7_ask 63 = .ok (.iaload, 1) := by decide +kernel
theorem dX7_ask_64 : decode cX7_ask 64 = .ok (.goto 5, 3) := by decide +kernel
theorem dX7_ask_67 : decode cX7_ask 67 = .ok (.ldc 120, 2) := by decide +kernel
theorem dX7_ask_69 : decode cX7_ask 69 = .ok (.ireturn, 1) := by decide +kernel
set_option maxHeartbeats 4000000 in
set_option maxRecDepth 100000 in
theorem c_X7_ask (g : sk_G) (l : Launch) (a1 : Int32) (a2 : Int32) (M : sk_M) {rr : Int32} (h : f_X7_ask a1 a2 M = some rr) : sk_MI g l yX7_ask cX7_ask 3 (some .int) 3 [.ref (sk_ad g 88), .int a1, .int a2] M rr M := by
  refine sk_go [(0, .ref (sk_ad g 88)), (1, .int a1), (2, .int a2)] (by decide) (Nat.le_of_ble_eq_true rfl) rfl ?_
  intro p e s m av below meth c C ls hl hM hS
  obtain ⟨hx, hb, hml, hown, hts, hK, hE, hr, hlocks⟩ := id C
  rw [f_X7_ask] at h
  refine lv_iload_n hx hb dX7_ask_0 rfl (lv_at hl 1 rfl) ?_
  refine sk_contI (sk_runS (As := [.int a1]) (rest := []) C (c_X7_isSlot g l a1 M rfl) yo_X7_isSlot kw_1413 (by decide) hM hS hl.1 rfl rfl (Nat.le_of_ble_eq_true rfl) dX7_ask_1) hS (fun H locs hM hS => ?_)
  refine lv_if_eq hx hb dX7_ask_4 rfl (fun hc => ?_) (fun hc => ?_)
  · have h := sk_pos h hc
    refine lv_ldc (v := (-1000000001)) hx hb hown (hts _ kw_1044) dX7_ask_19 ?_
    exact sk_iret C hM hS ⟨Option.some.inj h, rfl⟩ dX7_ask_21
  · have h := sk_neg h hc
    refine lv_iload_n hx hb dX7_ask_7 rfl (lv_at hl 2 rfl) ?_
    refine lv_i2l (v := a2.toInt64) hx hb dX7_ask_8 rfl ?_
    refine lv_lconst (v := 0) hx hb dX7_ask_9 (by decide) ?_
    refine lv_ldc2 (v := 5) hx hb hown (hts _ kw_1039) dX7_ask_10 ?_
    refine sk_contI (sk_runS (As := [.long (a2.toInt64), .long 0, .long 5]) (rest := []) C (c_X7_isIn g l (a2.toInt64) 0 5 M rfl) yo_X7_isIn kw_1040 (by decide) hM hS hl.1 rfl rfl (Nat.le_of_ble_eq_true rfl) dX7_ask_13) hS (fun H locs hM hS => ?_)
    refine lv_if_ne hx hb dX7_ask_16 rfl (fun hc => ?_) (fun hc => ?_)
    · have h := sk_neg h hc
      refine lv_aload_n hx hb dX7_ask_22 rfl (lv_at hl 0 rfl) ?_
      refine sk_getR (o := 88) (ci := 7) (j := 7) (t := 95) C hM rfl rfl (by decide) rfl rfl kw_942 dX7_ask_23 ?_
      refine lv_iload_n hx hb dX7_ask_26 rfl (lv_at hl 1 rfl) ?_
      obtain ⟨i_3, h⟩ := sk_chkE h
      refine sk_iald (o := 95) C hM rfl i_3 dX7_ask_27 ?_
      refine lv_if_ne hx hb dX7_ask_28 rfl (fun hc => ?_) (fun hc => ?_)
      · have h := sk_neg h hc
        refine lv_aload_n hx hb dX7_ask_35 rfl (lv_at hl 0 rfl) ?_
        refine sk_getR (o := 88) (ci := 7) (j := 7) (t := 95) C hM rfl rfl (by decide) rfl rfl kw_942 dX7_ask_36 ?_
        refine lv_iload_n hx hb dX7_ask_39 rfl (lv_at hl 1 rfl) ?_
        obtain ⟨i_4, h⟩ := sk_chkE h
        refine sk_iald (o := 95) C hM rfl i_4 dX7_ask_40 ?_
        refine lv_iconst (v := 1) hx hb dX7_ask_41 (by decide) ?_
        refine lv_icmp_ne hx hb dX7_ask_42 rfl (fun hc => ?_) (fun hc => ?_)
        · have h := sk_neg h hc
          refine lv_ldc (v := (-1000000012)) hx hb hown (hts _ kw_1074) dX7_ask_67 ?_
          exact sk_iret C hM hS ⟨Option.some.inj h, rfl⟩ dX7_ask_69
        · have h := sk_pos h hc
          refine lv_aload_n hx hb dX7_ask_45 rfl (lv_at hl 0 rfl) ?_
          refine sk_getR (o := 88) (ci := 7) (j := 8) (t := 96) C hM rfl rfl (by decide) rfl rfl kw_943 dX7_ask_46 ?_
          refine lv_iload_n hx hb dX7_ask_49 rfl (lv_at hl 1 rfl) ?_
          obtain ⟨i_5, h⟩ := sk_chkE h
          refine sk_iald (o := 96) C hM rfl i_5 dX7_ask_50 ?_
          refine lv_iload_n hx hb dX7_ask_51 rfl (lv_at hl 2 rfl) ?_
          refine sk_contI (sk_runS (As := [.int (M 96 a1.toNatClampNeg), .int a2]) (rest := []) C (c_X7_isOf g l (M 96 a1.toNatClampNeg) a2 M rfl) yo_X7_isOf kw_1071 (by decide) hM hS hl.1 rfl rfl (Nat.le_of_ble_eq_true rfl) dX7_ask_52) hS (fun H locs hM hS => ?_)
          refine lv_if_eq hx hb dX7_ask_55 rfl (fun hc => ?_) (fun hc => ?_)
          · have h := sk_pos h hc
            refine lv_ldc (v := (-1000000012)) hx hb hown (hts _ kw_1074) dX7_ask_67 ?_
            exact sk_iret C hM hS ⟨Option.some.inj h, rfl⟩ dX7_ask_69
          · have h := sk_neg h hc
            refine lv_aload_n hx hb dX7_ask_58 rfl (lv_at hl 0 rfl) ?_
            refine sk_getR (o := 88) (ci := 7) (j := 9) (t := 97) C hM rfl rfl (by decide) rfl rfl kw_944 dX7_ask_59 ?_
            refine lv_iload_n hx hb dX7_ask_62 rfl (lv_at hl 1 rfl) ?_
            obtain ⟨i_7, h⟩ := sk_chkE h
            refine sk_iald (o := 97) C hM rfl i_7 dX7_ask_63 ?_
            refine lv_goto hx hb dX7_ask_64 rfl ?_
            exact sk_iret C hM hS ⟨Option.some.inj h, rfl⟩ dX7_ask_69
      · have h := sk_pos h hc
        refine lv_ldcw (v := (-1000000011)) hx hb hown (hts _ kw_1393) dX7_ask_31 ?_
        exact sk_iret C hM hS ⟨Option.some.inj h, rfl⟩ dX7_ask_34
    · have h := sk_pos h hc
      refine lv_ldc (v := (-1000000001)) hx hb hown (hts _ kw_1044) dX7_ask_19 ?_
      exact sk_iret C hM hS ⟨Option.some.inj h, rfl⟩ dX7_ask_21
theorem dX7_item_0 : decode cX7_item 0 = .ok (.iload_n 1, 1) := by decide +kernel
theorem dX7_item_1 : decode cX7_item 1 = .ok (.invokestatic 310, 3) := by decide +kernel
theorem dX7_item_4 : decode cX7_item 4 = .ok (.ifCond .ne 6, 3) := by decide +kernel
theorem dX7_item_7 : decode cX7_item 7 = .ok (.ldc 80, 2) := by decide +kernel
theorem dX7_item_9 : decode cX7_item 9 = .ok (.ireturn, 1) := by decide +kernel
theorem dX7_item_10 : decode cX7_item 10 = .ok (.aload_n 0, 1) := by decide +kernel
theorem dX7_item_11 : decode cX7_item 11 = .ok (.getfield 28, 3) := by decide +kernel
theorem dX7_item_14 : decode cX7_item 14 = .ok (.iload_n 1, 1) := by decide +kernel
theorem dX7_item_15 : decode cX7_item 15 = .ok (.iaload, 1) := by decide +kernel
theorem dX7_item_16 : decode cX7_item 16 = .ok (.iconst 2, 1) := by decide +kernel
theorem dX7_item_17 : decode cX7_item 17 = .ok (.if_icmp .eq 21, 3) := by decide +kernel
theorem dX7_item_20 : decode cX7_item 20 = .ok (.aload_n 0, 1) := by decide +kernel
theorem dX7_item_21 : decode cX7_item 21 = .ok (.getfield 28, 3) := by decide +kernel
theorem dX7_item_24 : decode cX7_item 24 = .ok (.iload_n 1, 1) := by decide +kernel
theorem dX7_item_25 : decode cX7_item 25 = .ok (.iaload, 1) := by decide +kernel
theorem dX7_item_26 : decode cX7_item 26 = .ok (.ifCond .ne 9, 3) := by decide +kernel
theorem dX7_item_29 : decode cX7_item 29 = .ok (.ldc_w 302, 3) := by decide +kernel
theorem dX7_item_32 : decode cX7_item 32 = .ok (.goto 5, 3) := by decide +kernel
theorem dX7_item_35 : decode cX7_item 35 = .ok (.ldc 120, 2) := by decide +kernel
theorem dX7_item_37 : decode cX7_item 37 = .ok (.ireturn, 1) := by decide +kernel
theorem dX7_item_38 : decode cX7_item 38 = .ok (.iload_n 2, 1) := by decide +kernel
theorem dX7_item_39 : decode cX7_item 39 = .ok (.i2l, 1) := by decide +kernel
theorem dX7_item_40 : decode cX7_item 40 = .ok (.lconst 0, 1) := by decide +kernel
theorem dX7_item_41 : decode cX7_item 41 = .ok (.aload_n 0, 1) := by decide +kernel
theorem dX7_item_42 : decode cX7_item 42 = .ok (.getfield 37, 3) := by decide +kernel
theorem dX7_item_45 : decode cX7_item 45 = .ok (.iload_n 1, 1) := by decide +kernel
theorem dX7_item_46 : decode cX7_item 46 = .ok (.iaload, 1) := by decide +kernel
theorem dX7_item_47 : decode cX7_item 47 = .ok (.iconst 1, 1) := by decide +kernel
theorem dX7_item_48 : decode cX7_item 48 = .ok (.isub, 1) := by decide +kernel
theorem dX7_item_49 : decode cX7_item 49 = .ok (.i2l, 1) := by decide +kernel
theorem dX7_item_50 : decode cX7_item 50 = .ok (.invokestatic 71, 3) := by decide +kernel
theorem dX7_item_53 : decode cX7_item 53 = .ok (.ifCond .ne 7, 3) := by decide +kernel
theorem dX7_item_56 : decode cX7_item 56 = .ok (.ldc_w 303, 3) := by decide +kernel
theorem dX7_item_59 : decode cX7_item 59 = .ok (.ireturn, 1) := by decide +kernel
theorem dX7_item_60 : decode cX7_item 60 = .ok (.aload_n 0, 1) := by decide +kernel
theorem dX7_item_61 : decode cX7_item 61 = .ok (.getfield 40, 3) := by decide +kernel
theorem dX7_item_64 : decode cX7_item 64 = .ok (.bipush 24, 2) := by decide +kernel
theorem dX7_item_66 : decode cX7_item 66 = .ok (.iload_n 1, 1) := by decide +kernel
theorem dX7_item_67 : decode cX7_item 67 = .ok (.imul, 1) := by decide +kernel
theorem dX7_item_68 : decode cX7_item 68 = .ok (.iload_n 2, 1) := by decide +kernel
theorem dX7_item_69 : decode cX7_item 69 = .ok (.iadd, 1) := by decide +kernel
theorem dX7_item_70 : decode cX7_item 70 = .ok (.iaload, 1) := by decide +kernel
theorem dX7_item_71 : decode cX7_item 71 = .ok (.istore_n 3, 1) := by decide +kernel
theorem dX7_item_72 : decode cX7_item 72 = .ok (.iload_n 3, 1) := by decide +kernel
theorem dX7_item_73 : decode cX7_item 73 = .ok (.ldc 70, 2) := by decide +kernel
theorem dX7_item_75 : decode cX7_item 75 = .ok (.if_icmp .ne 8, 3) := by decide +kernel
theorem dX7_item_78 : decode cX7_item 78 = .ok (.ldc 120, 2) := by decide +kernel
theorem dX7_item_80 : decode cX7_item 80 = .ok (.goto 4, 3) := by decide +kernel
theorem dX7_item_83 : decode cX7_item 83 = .ok (.iload_n 3, 1) := by decide +kernel
theorem dX7_item_84 : decode cX7_item 84 = .ok (.ireturn, 1) := by decide +kernel
set_option maxHeartbeats 4000000 in
set_option maxRecDepth 100000 in
theorem c_X7_item (g : sk_G) (l : Launch) (a1 : Int32) (a2 : Int32) (M : sk_M) {rr : Int32} (h : f_X7_item a1 a2 M = some rr) : sk_MI g l yX7_item cX7_item 4 (some .int) 3 [.ref (sk_ad g 88), .int a1, .int a2] M rr M := by
  refine sk_go [(0, .ref (sk_ad g 88)), (1, .int a1), (2, .int a2)] (by decide) (Nat.le_of_ble_eq_true rfl) rfl ?_
  intro p e s m av below meth c C ls hl hM hS
  obtain ⟨hx, hb, hml, hown, hts, hK, hE, hr, hlocks⟩ := id C
  rw [f_X7_item] at h
  refine lv_iload_n hx hb dX7_item_0 rfl (lv_at hl 1 rfl) ?_
  refine sk_contI (sk_runS (As := [.int a1]) (rest := []) C (c_X7_isSlot g l a1 M rfl) yo_X7_isSlot kw_1413 (by decide) hM hS hl.1 rfl rfl (Nat.le_of_ble_eq_true rfl) dX7_item_1) hS (fun H locs hM hS => ?_)
  refine lv_if_ne hx hb dX7_item_4 rfl (fun hc => ?_) (fun hc => ?_)
  · have h := sk_neg h hc
    refine lv_aload_n hx hb dX7_item_10 rfl (lv_at hl 0 rfl) ?_
    refine sk_getR (o := 88) (ci := 7) (j := 7) (t := 95) C hM rfl rfl (by decide) rfl rfl kw_942 dX7_item_11 ?_
    refine lv_iload_n hx hb dX7_item_14 rfl (lv_at hl 1 rfl) ?_
    obtain ⟨i_2, h⟩ := sk_chkE h
    refine sk_iald (o := 95) C hM rfl i_2 dX7_item_15 ?_
    refine lv_iconst (v := 2) hx hb dX7_item_16 (by decide) ?_
    refine lv_icmp_eq hx hb dX7_item_17 rfl (fun hc => ?_) (fun hc => ?_)
    · have h := sk_pos h hc
      refine lv_iload_n hx hb dX7_item_38 rfl (lv_at hl 2 rfl) ?_
      refine lv_i2l (v := a2.toInt64) hx hb dX7_item_39 rfl ?_
      refine lv_lconst (v := 0) hx hb dX7_item_40 (by decide) ?_
      refine lv_aload_n hx hb dX7_item_41 rfl (lv_at hl 0 rfl) ?_
      refine sk_getR (o := 88) (ci := 7) (j := 10) (t := 98) C hM rfl rfl (by decide) rfl rfl kw_945 dX7_item_42 ?_
      refine lv_iload_n hx hb dX7_item_45 rfl (lv_at hl 1 rfl) ?_
      obtain ⟨i_3, h⟩ := sk_chkE h
      refine sk_iald (o := 98) C hM rfl i_3 dX7_item_46 ?_
      refine lv_iconst (v := 1) hx hb dX7_item_47 (by decide) ?_
      refine lv_isub hx hb dX7_item_48 ?_
      refine lv_i2l (v := (((M 98 a1.toNatClampNeg) - 1)).toInt64) hx hb dX7_item_49 rfl ?_
      refine sk_contI (sk_runS (As := [.long (a2.toInt64), .long 0, .long ((((M 98 a1.toNatClampNeg) - 1)).toInt64)]) (rest := []) C (c_X7_isIn g l (a2.toInt64) 0 ((((M 98 a1.toNatClampNeg) - 1)).toInt64) M rfl) yo_X7_isIn kw_1040 (by decide) hM hS hl.1 rfl rfl (Nat.le_of_ble_eq_true rfl) dX7_item_50) hS (fun H locs hM hS => ?_)
      refine lv_if_ne hx hb dX7_item_53 rfl (fun hc => ?_) (fun hc => ?_)
      · have h := sk_neg h hc
        refine lv_aload_n hx hb dX7_item_60 rfl (lv_at hl 0 rfl) ?_
        refine sk_getR (o := 88) (ci := 7) (j := 11) (t := 99) C hM rfl rfl (by decide) rfl rfl kw_946 dX7_item_61 ?_
        refine lv_bipush (v := 24) hx hb dX7_item_64 (by decide) ?_
        refine lv_iload_n hx hb dX7_item_66 rfl (lv_at hl 1 rfl) ?_
        refine lv_imul hx hb dX7_item_67 ?_
        refine lv_iload_n hx hb dX7_item_68 rfl (lv_at hl 2 rfl) ?_
        refine lv_iadd hx hb dX7_item_69 ?_
        obtain ⟨i_5, h⟩ := sk_chkE h
        refine sk_iald (o := 99) C hM rfl i_5 dX7_item_70 ?_
        refine lv_topi (fun x_6 ex_6 => ?_)
        have h := sk_letU h ex_6
        refine lv_istore_n (lv' := [(3, .int x_6), (0, .ref (sk_ad g 88)), (1, .int a1), (2, .int a2)]) hx hb dX7_item_71 rfl hl (by decide) rfl (fun ls hl => ?_)
        refine lv_iload_n hx hb dX7_item_72 rfl (lv_at hl 0 rfl) ?_
        refine lv_ldc (v := (-1000000005)) hx hb hown (hts _ kw_1212) dX7_item_73 ?_
        have J : ∀ (vv : Int32) (H : Heap) (locs : List Loc), (if x_6 = (-1000000005) then (-1000000012) else x_6 : Int32) = vv → sk_P g M H → va_S (sk_A g) s.heap H locs → W p l e (sk_rm 3) s m av below meth c H locs 0 0 (MQ below (sk_QI g rr M) av s 0 0 (sk_A g)) (F0 m 84 ls [.int vv]) := by
          intro vv H locs hvv hM hS
          subst hvv
          exact sk_iret C hM hS ⟨Option.some.inj h, rfl⟩ dX7_item_84
        refine lv_icmp_ne hx hb dX7_item_75 rfl (fun hc => ?_) (fun hc => ?_)
        · have J := fun vv H locs q => J vv H locs ((if_neg hc).trans q)
          refine lv_iload_n hx hb dX7_item_83 rfl (lv_at hl 0 rfl) ?_
          exact J _ _ _ rfl hM hS
        · have J := fun vv H locs q => J vv H locs ((if_pos hc).trans q)
          refine lv_ldc (v := (-1000000012)) hx hb hown (hts _ kw_1074) dX7_item_78 ?_
          refine lv_goto hx hb dX7_item_80 rfl ?_
          exact J _ _ _ rfl hM hS
      · have h := sk_pos h hc
        refine lv_ldcw (v := (-1000000013)) hx hb hown (hts _ kw_1394) dX7_item_56 ?_
        exact sk_iret C hM hS ⟨Option.some.inj h, rfl⟩ dX7_item_59
    · have h := sk_neg h hc
      refine lv_aload_n hx hb dX7_item_20 rfl (lv_at hl 0 rfl) ?_
      refine sk_getR (o := 88) (ci := 7) (j := 7) (t := 95) C hM rfl rfl (by decide) rfl rfl kw_942 dX7_item_21 ?_
      refine lv_iload_n hx hb dX7_item_24 rfl (lv_at hl 1 rfl) ?_
      obtain ⟨i_7, h⟩ := sk_chkE h
      refine sk_iald (o := 95) C hM rfl i_7 dX7_item_25 ?_
      have J : ∀ (vv : Int32) (H : Heap) (locs : List Loc), (if (M 95 a1.toNatClampNeg) = 0 then (-1000000011) else (-1000000012) : Int32) = vv → sk_P g M H → va_S (sk_A g) s.heap H locs → W p l e (sk_rm 3) s m av below meth c H locs 0 0 (MQ below (sk_QI g rr M) av s 0 0 (sk_A g)) (F0 m 37 ls [.int vv]) := by
        intro vv H locs hvv hM hS
        subst hvv
        exact sk_iret C hM hS ⟨Option.some.inj h, rfl⟩ dX7_item_37
      refine lv_if_ne hx hb dX7_item_26 rfl (fun hc => ?_) (fun hc => ?_)
      · have J := fun vv H locs q => J vv H locs ((if_neg hc).trans q)
        refine lv_ldc (v := (-1000000012)) hx hb hown (hts _ kw_1074) dX7_item_35 ?_
        exact J _ _ _ rfl hM hS
      · have J := fun vv H locs q => J vv H locs ((if_pos hc).trans q)
        refine lv_ldcw (v := (-1000000011)) hx hb hown (hts _ kw_1393) dX7_item_29 ?_
        refine lv_goto hx hb dX7_item_32 rfl ?_
        exact J _ _ _ rfl hM hS
  · have h := sk_pos h hc
    refine lv_ldc (v := (-1000000001)) hx hb hown (hts _ kw_1044) dX7_item_7 ?_
    exact sk_iret C hM hS ⟨Option.some.inj h, rfl⟩ dX7_item_9
theorem dX7_rest_0 : decode cX7_rest 0 = .ok (.iload_n 1, 1) := by decide +kernel
theorem dX7_rest_1 : decode cX7_rest 1 = .ok (.invokestatic 310, 3) := by decide +kernel
theorem dX7_rest_4 : decode cX7_rest 4 = .ok (.ifCond .ne 6, 3) := by decide +kernel
theorem dX7_rest_7 : decode cX7_rest 7 = .ok (.ldc 80, 2) := by decide +kernel
theorem dX7_rest_9 : decode cX7_rest 9 = .ok (.ireturn, 1) := by decide +kernel
theorem dX7_rest_10 : decode cX7_rest 10 = .ok (.aload_n 0, 1) := by decide +kernel
theorem dX7_rest_11 : decode cX7_rest 11 = .ok (.getfield 28, 3) := by decide +kernel
theorem dX7_rest_14 : decode cX7_rest 14 = .ok (.iload_n 1, 1) := by decide +kernel
theorem dX7_rest_15 : decode cX7_rest 15 = .ok (.iaload, 1) := by decide +kernel
theorem dX7_rest_16 : decode cX7_rest 16 = .ok (.iconst 3, 1) := by decide +kernel
theorem dX7_rest_17 : decode cX7_rest 17 = .ok (.if_icmp .eq 21, 3) := by decide +kernel
theorem dX7_rest_20 : decode cX7_rest 20 = .ok (.aload_n 0, 1) := by decide +kernel
theorem dX7_rest_21 : decode cX7_rest 21 = .ok (.getfield 28, 3) := by decide +kernel
theorem dX7_rest_24 : decode cX7_rest 24 = .ok (.iload_n 1, 1) := by decide +kernel
theorem dX7_rest_25 : decode cX7_rest 25 = .ok (.iaload, 1) := by decide +kernel
theorem dX7_rest_26 : decode cX7_rest 26 = .ok (.ifCond .ne 9, 3) := by decide +kernel
theorem dX7_rest_29 : decode cX7_rest 29 = .ok (.ldc_w 302, 3) := by decide +kernel
theorem dX7_rest_32 : decode cX7_rest 32 = .ok (.goto 5, 3) := by decide +kernel
theorem dX7_rest_35 : decode cX7_rest 35 = .ok (.ldc 120, 2) := by decide +kernel
theorem dX7_rest_37 : decode cX7_rest 37 = .ok (.ireturn, 1) := by decide +kernel
theorem dX7_rest_38 : decode cX7_rest 38 = .ok (.iload_n 2, 1) := by decide +kernel
theorem dX7_rest_39 : decode cX7_rest 39 = .ok (.ifCond .ne 8, 3) := by decide +kernel
theorem dX7_rest_42 : decode cX7_rest 42 = .ok (.ldc 185, 2) := by decide +kernel
theorem dX7_rest_44 : decode cX7_rest 44 = .ok (.goto 11, 3) := by decide +kernel
theorem dX7_rest_47 : decode cX7_rest 47 = .ok (.aload_n 0, 1) := by decide +kernel
theorem dX7_rest_48 : decode cX7_rest 48 = .ok (.getfield 31, 3) := by decide +kernel
theorem dX7_rest_51 : decode cX7_rest 51 = .ok (.iload_n 1, 1) := by decide +kernel
theorem dX7_rest_52 : decode cX7_rest 52 = .ok (.iaload, 1) := by decide +kernel
theorem dX7_rest_53 : decode cX7_rest 53 = .ok (.iload_n 2, 1) := by decide +kernel
theorem dX7_rest_54 : decode cX7_rest 54 = .ok (.irem, 1) := by decide +kernel
theorem dX7_rest_55 : decode cX7_rest 55 = .ok (.ireturn, 1) := by decide +kernel
set_option maxHeartbeats 4000000 in
set_option maxRecDepth 100000 in
theorem c_X7_rest (g : sk_G) (l : Launch) (a1 : Int32) (a2 : Int32) (M : sk_M) {rr : Int32} (h : f_X7_rest a1 a2 M = some rr) : sk_MI g l yX7_rest cX7_rest 3 (some .int) 3 [.ref (sk_ad g 88), .int a1, .int a2] M rr M := by
  refine sk_go [(0, .ref (sk_ad g 88)), (1, .int a1), (2, .int a2)] (by decide) (Nat.le_of_ble_eq_true rfl) rfl ?_
  intro p e s m av below meth c C ls hl hM hS
  obtain ⟨hx, hb, hml, hown, hts, hK, hE, hr, hlocks⟩ := id C
  rw [f_X7_rest] at h
  refine lv_iload_n hx hb dX7_rest_0 rfl (lv_at hl 1 rfl) ?_
  refine sk_contI (sk_runS (As := [.int a1]) (rest := []) C (c_X7_isSlot g l a1 M rfl) yo_X7_isSlot kw_1413 (by decide) hM hS hl.1 rfl rfl (Nat.le_of_ble_eq_true rfl) dX7_rest_1) hS (fun H locs hM hS => ?_)
  refine lv_if_ne hx hb dX7_rest_4 rfl (fun hc => ?_) (fun hc => ?_)
  · have h := sk_neg h hc
    refine lv_aload_n hx hb dX7_rest_10 rfl (lv_at hl 0 rfl) ?_
    refine sk_getR (o := 88) (ci := 7) (j := 7) (t := 95) C hM rfl rfl (by decide) rfl rfl kw_942 dX7_rest_11 ?_
    refine lv_iload_n hx hb dX7_rest_14 rfl (lv_at hl 1 rfl) ?_
    obtain ⟨i_2, h⟩ := sk_chkE h
    refine sk_iald (o := 95) C hM rfl i_2 dX7_rest_15 ?_
    refine lv_iconst (v := 3) hx hb dX7_rest_16 (by decide) ?_
    refine lv_icmp_eq hx hb dX7_rest_17 rfl (fun hc => ?_) (fun hc => ?_)
    · have h := sk_pos h hc
      refine lv_iload_n hx hb dX7_rest_38 rfl (lv_at hl 2 rfl) ?_
      refine lv_if_ne hx hb dX7_rest_39 rfl (fun hc => ?_) (fun hc => ?_)
      · have h := sk_neg h hc
        refine lv_aload_n hx hb dX7_rest_47 rfl (lv_at hl 0 rfl) ?_
        refine sk_getR (o := 88) (ci := 7) (j := 8) (t := 96) C hM rfl rfl (by decide) rfl rfl kw_943 dX7_rest_48 ?_
        refine lv_iload_n hx hb dX7_rest_51 rfl (lv_at hl 1 rfl) ?_
        obtain ⟨i_3, h⟩ := sk_chkE h
        refine sk_iald (o := 96) C hM rfl i_3 dX7_rest_52 ?_
        refine lv_iload_n hx hb dX7_rest_53 rfl (lv_at hl 2 rfl) ?_
        obtain ⟨i_4, h⟩ := sk_chkE h
        refine lv_irem hx hb dX7_rest_54 (of_decide_eq_true i_4) ?_
        exact sk_iret C hM hS ⟨Option.some.inj h, rfl⟩ dX7_rest_55
      · have h := sk_pos h hc
        refine lv_ldc (v := (-1000000002)) hx hb hown (hts _ kw_1271) dX7_rest_42 ?_
        refine lv_goto hx hb dX7_rest_44 rfl ?_
        exact sk_iret C hM hS ⟨Option.some.inj h, rfl⟩ dX7_rest_55
    · have h := sk_neg h hc
      refine lv_aload_n hx hb dX7_rest_20 rfl (lv_at hl 0 rfl) ?_
      refine sk_getR (o := 88) (ci := 7) (j := 7) (t := 95) C hM rfl rfl (by decide) rfl rfl kw_942 dX7_rest_21 ?_
      refine lv_iload_n hx hb dX7_rest_24 rfl (lv_at hl 1 rfl) ?_
      obtain ⟨i_5, h⟩ := sk_chkE h
      refine sk_iald (o := 95) C hM rfl i_5 dX7_rest_25 ?_
      have J : ∀ (vv : Int32) (H : Heap) (locs : List Loc), (if (M 95 a1.toNatClampNeg) = 0 then (-1000000011) else (-1000000012) : Int32) = vv → sk_P g M H → va_S (sk_A g) s.heap H locs → W p l e (sk_rm 3) s m av below meth c H locs 0 0 (MQ below (sk_QI g rr M) av s 0 0 (sk_A g)) (F0 m 37 ls [.int vv]) := by
        intro vv H locs hvv hM hS
        subst hvv
        exact sk_iret C hM hS ⟨Option.some.inj h, rfl⟩ dX7_rest_37
      refine lv_if_ne hx hb dX7_rest_26 rfl (fun hc => ?_) (fun hc => ?_)
      · have J := fun vv H locs q => J vv H locs ((if_neg hc).trans q)
        refine lv_ldc (v := (-1000000012)) hx hb hown (hts _ kw_1074) dX7_rest_35 ?_
        exact J _ _ _ rfl hM hS
      · have J := fun vv H locs q => J vv H locs ((if_pos hc).trans q)
        refine lv_ldcw (v := (-1000000011)) hx hb hown (hts _ kw_1393) dX7_rest_29 ?_
        refine lv_goto hx hb dX7_rest_32 rfl ?_
        exact J _ _ _ rfl hM hS
  · have h := sk_pos h hc
    refine lv_ldc (v := (-1000000001)) hx hb hown (hts _ kw_1044) dX7_rest_7 ?_
    exact sk_iret C hM hS ⟨Option.some.inj h, rfl⟩ dX7_rest_9
theorem dX7_tell_0 : decode cX7_tell 0 = .ok (.aload_n 0, 1) := by decide +kernel
theorem dX7_tell_1 : decode cX7_tell 1 = .ok (.getfield 313, 3) := by decide +kernel
theorem dX7_tell_4 : decode cX7_tell 4 = .ok (.bipush 60, 2) := by decide +kernel
theorem dX7_tell_6 : decode cX7_tell 6 = .ok (.if_icmp .ne 6, 3) := by decide +kernel
theorem dX7_tell_9 : decode cX7_tell 9 = .ok (.ldc 81, 2) := by decide +kernel
theorem dX7_tell_11 : decode cX7_tell 11 = .ok (.ireturn, 1) := by decide +kernel
theorem dX7_tell_12 : decode cX7_tell 12 = .ok (.aload_n 0, 1) := by decide +kernel
theorem dX7_tell_13 : decode cX7_tell 13 = .ok (.getfield 64, 3) := by decide +kernel
theorem dX7_tell_16 : decode cX7_tell 16 = .ok (.aload_n 0, 1) := by decide +kernel
theorem dX7_tell_17 : decode cX7_tell 17 = .ok (.getfield 313, 3) := by decide +kernel
theorem dX7_tell_20 : decode cX7_tell 20 = .ok (.iload_n 1, 1) := by decide +kernel
theorem dX7_tell_21 : decode cX7_tell 21 = .ok (.iastore, 1) := by decide +kernel
theorem dX7_tell_22 : decode cX7_tell 22 = .ok (.aload_n 0, 1) := by decide +kernel
theorem dX7_tell_23 : decode cX7_tell 23 = .ok (.dup, 1) := by decide +kernel
theorem dX7_tell_24 : decode cX7_tell 24 = .ok (.getfield 313, 3) := by decide +kernel
theorem dX7_tell_27 : decode cX7_tell 27 = .ok (.iconst 1, 1) := by decide +kernel
theorem dX7_tell_28 : decode cX7_tell 28 = .ok (.iadd, 1) := by decide +kernel
theorem dX7_tell_29 : decode cX7_tell 29 = .ok (.putfield 313, 3) := by decide +kernel
theorem dX7_tell_32 : decode cX7_tell 32 = .ok (.aload_n 0, 1) := by decide +kernel
theorem dX7_tell_33 : decode cX7_tell 33 = .ok (.getfield 313, 3) := by decide +kernel
theorem dX7_tell_36 : decode cX7_tell 36 = .ok (.ireturn, 1) := by decide +kernel
set_option maxHeartbeats 4000000 in
set_option maxRecDepth 100000 in
theorem c_X7_tell (g : sk_G) (l : Launch) (a1 : Int32) (M : sk_M) {rr : Int32} {MM : sk_M} (h : f_X7_tell a1 M = some (rr, MM)) : sk_MI g l yX7_tell cX7_tell 2 (some .int) 1 [.ref (sk_ad g 88), .int a1] M rr MM := by
  refine sk_go [(0, .ref (sk_ad g 88)), (1, .int a1)] (by decide) (Nat.le_of_ble_eq_true rfl) rfl ?_
  intro p e s m av below meth c C ls hl hM hS
  obtain ⟨hx, hb, hml, hown, hts, hK, hE, hr, hlocks⟩ := id C
  rw [f_X7_tell] at h
  refine lv_aload_n hx hb dX7_tell_0 rfl (lv_at hl 0 rfl) ?_
  refine sk_getI (o := 88) (ci := 7) (j := 31) C hM rfl rfl (by decide) rfl kw_966 dX7_tell_1 ?_
  refine lv_bipush (v := 60) hx hb dX7_tell_4 (by decide) ?_
  refine lv_icmp_ne hx hb dX7_tell_6 rfl (fun hc => ?_) (fun hc => ?_)
  · have h := sk_neg h hc
    refine lv_aload_n hx hb dX7_tell_12 rfl (lv_at hl 0 rfl) ?_
    refine sk_getR (o := 88) (ci := 7) (j := 30) (t := 107) C hM rfl rfl (by decide) rfl rfl kw_965 dX7_tell_13 ?_
    refine lv_aload_n hx hb dX7_tell_16 rfl (lv_at hl 0 rfl) ?_
    refine sk_getI (o := 88) (ci := 7) (j := 31) C hM rfl rfl (by decide) rfl kw_966 dX7_tell_17 ?_
    refine lv_iload_n hx hb dX7_tell_20 rfl (lv_at hl 1 rfl) ?_
    obtain ⟨i_1, h⟩ := sk_chkE h
    refine sk_iast (o := 107) C hM hS rfl i_1 dX7_tell_21 (fun M_2 eM_2 H locs hM hS => ?_)
    have h := sk_letU h eM_2
    refine lv_aload_n hx hb dX7_tell_22 rfl (lv_at hl 0 rfl) ?_
    refine lv_dup hx hb dX7_tell_23 rfl ?_
    refine sk_getI (o := 88) (ci := 7) (j := 31) C hM rfl rfl (by decide) rfl kw_966 dX7_tell_24 ?_
    refine lv_iconst (v := 1) hx hb dX7_tell_27 (by decide) ?_
    refine lv_iadd hx hb dX7_tell_28 ?_
    refine sk_putI (o := 88) (ci := 7) (j := 31) C hM hS rfl rfl (by decide) rfl rfl (tyX7_ok 31 (by decide)) kw_966 dX7_tell_29 (fun M_3 eM_3 H locs hM hS => ?_)
    have h := sk_letU h eM_3
    refine lv_aload_n hx hb dX7_tell_32 rfl (lv_at hl 0 rfl) ?_
    refine sk_getI (o := 88) (ci := 7) (j := 31) C hM rfl rfl (by decide) rfl kw_966 dX7_tell_33 ?_
    exact sk_iret C hM hS (sk_e2 h) dX7_tell_36
  · have h := sk_pos h hc
    refine lv_ldc (v := (-1000000003)) hx hb hown (hts _ kw_1045) dX7_tell_9 ?_
    exact sk_iret C hM hS (sk_e2 h) dX7_tell_11
theorem dX7_setAside_0 : decode cX7_setAside 0 = .ok (.iconst 0, 1) := by decide +kernel
theorem dX7_setAside_1 : decode cX7_setAside 1 = .ok (.istore_n 3, 1) := by decide +kernel
theorem dX7_setAside_2 : decode cX7_setAside 2 = .ok (.iload_n 3, 1) := by decide +kernel
theorem dX7_setAside_3 : decode cX7_setAside 3 = .ok (.sipush 2909, 3) := by decide +kernel
theorem dX7_setAside_6 : decode cX7_setAside 6 = .ok (.if_icmp .ge 15, 3) := by decide +kernel
theorem dX7_setAside_9 : decode cX7_setAside 9 = .ok (.aload_n 2, 1) := by decide +kernel
theorem dX7_setAside_10 : decode cX7_setAside 10 = .ok (.iload_n 3, 1) := by decide +kernel
theorem dX7_setAside_11 : decode cX7_setAside 11 = .ok (.aload_n 1, 1) := by decide +kernel
theorem dX7_setAside_12 : decode cX7_setAside 12 = .ok (.iload_n 3, 1) := by decide +kernel
theorem dX7_setAside_13 : decode cX7_setAside 13 = .ok (.iaload, 1) := by decide +kernel
theorem dX7_setAside_14 : decode cX7_setAside 14 = .ok (.iastore, 1) := by decide +kernel
theorem dX7_setAside_15 : decode cX7_setAside 15 = .ok (.iinc 3 1, 3) := by decide +kernel
theorem dX7_setAside_18 : decode cX7_setAside 18 = .ok (.goto (-16), 3) := by decide +kernel
theorem dX7_setAside_21 : decode cX7_setAside 21 = .ok (.return_, 1) := by decide +kernel
set_option maxHeartbeats 4000000 in
set_option maxRecDepth 100000 in
theorem w_X7_setAside_L2 {g : sk_G} {l : Launch} {p : Program} {e : Env} {s : State} {m : MethodId} {av : Array Value} {below : List Frame} {meth : Method} {c : Code} (C : sk_C g p s m av meth c cX7_setAside 4 RX7 none) (o1 : Nat) (q1 : sk_kd o1 = (0, 3109)) (o2 : Nat) (q2 : sk_kd o2 = (0, 3109)) {MM : sk_M} :
    ∀ (n : Nat) (a3 : Int32) (M : sk_M) (H : Heap) (locs : List Loc) (ls : Array Slot), lv_has ls 4 [(1, .ref (sk_ad g o1)), (2, .ref (sk_ad g o2)), (3, .int a3)] → sk_P g M H → va_S (sk_A g) s.heap H locs → ∀ {out : sk_M}, f_X7_setAside_L2 o1 o2 n a3 M = some out → (∀ (M1 : sk_M) (H : Heap) (locs : List Loc) (ls : Array Slot), some M1 = some out → lv_has ls 4 [] → sk_P g M1 H → va_S (sk_A g) s.heap H locs → W p l e (sk_rm 1) s m av below meth c H locs 0 0 (MQ below (sk_QV g MM) av s 0 0 (sk_A g)) (F0 m 21 ls [])) → W p l e (sk_rm 1) s m av below meth c H locs 0 0 (MQ below (sk_QV g MM) av s 0 0 (sk_A g)) (F0 m 2 ls []) := by
  obtain ⟨hx, hb, hml, hown, hts, hK, hE, hr, hlocks⟩ := id C
  intro n
  induction n with
  | zero =>
    intro a3 M H locs ls hl hM hS out h
    cases h
  | succ n ih =>
    intro a3 M H locs ls hl hM hS out h kx
    rw [f_X7_setAside_L2] at h
    refine lv_iload_n hx hb dX7_setAside_2 rfl (lv_at hl 2 rfl) ?_
    refine lv_sipush (v := 2909) hx hb dX7_setAside_3 (by decide) ?_
    refine lv_icmp_ge hx hb dX7_setAside_6 rfl (fun hc => ?_) (fun hc => ?_)
    · have h := sk_pos h hc
      exact kx _ _ _ _ h (lv_sub hl [] rfl) hM hS
    · have h := sk_neg h hc
      refine lv_aload_n hx hb dX7_setAside_9 rfl (lv_at hl 1 rfl) ?_
      refine lv_iload_n hx hb dX7_setAside_10 rfl (lv_at hl 2 rfl) ?_
      refine lv_aload_n hx hb dX7_setAside_11 rfl (lv_at hl 0 rfl) ?_
      refine lv_iload_n hx hb dX7_setAside_12 rfl (lv_at hl 2 rfl) ?_
      obtain ⟨i_1, h⟩ := sk_chkE h
      refine sk_iald (o := o1) C hM q1 i_1 dX7_setAside_13 ?_
      obtain ⟨i_2, h⟩ := sk_chkE h
      refine sk_iast (o := o2) C hM hS q2 i_2 dX7_setAside_14 (fun M_3 eM_3 H locs hM hS => ?_)
      have h := sk_letU h eM_3
      refine lv_iinc (v := (a3 + 1)) (lv' := [(3, .int (a3 + 1)), (1, .ref (sk_ad g o1)), (2, .ref (sk_ad g o2))]) hx hb dX7_setAside_15 hl (k := 2) rfl rfl (by decide) rfl (fun ls hl => ?_)
      refine lv_goto hx hb dX7_setAside_18 rfl ?_
      exact ih (a3 + 1) M_3 _ _ _ (lv_sub hl [1, 2, 0] rfl) hM hS h kx
set_option maxHeartbeats 4000000 in
set_option maxRecDepth 100000 in
theorem c_X7_setAside (g : sk_G) (l : Launch) (o1 : Nat) (q1 : sk_kd o1 = (0, 3109)) (o2 : Nat) (q2 : sk_kd o2 = (0, 3109)) (M : sk_M) {MM : sk_M} (h : f_X7_setAside o1 o2 M = some MM) : sk_MV g l yX7_setAside cX7_setAside 4 none 1 [.ref (sk_ad g 88), .ref (sk_ad g o1), .ref (sk_ad g o2)] M MM := by
  refine sk_go [(0, .ref (sk_ad g 88)), (1, .ref (sk_ad g o1)), (2, .ref (sk_ad g o2))] (by decide) (Nat.le_of_ble_eq_true rfl) rfl ?_
  intro p e s m av below meth c C ls hl hM hS
  obtain ⟨hx, hb, hml, hown, hts, hK, hE, hr, hlocks⟩ := id C
  rw [f_X7_setAside] at h
  refine lv_iconst (v := 0) hx hb dX7_setAside_0 (by decide) ?_
  refine lv_istore_n (lv' := [(3, .int 0), (0, .ref (sk_ad g 88)), (1, .ref (sk_ad g o1)), (2, .ref (sk_ad g o2))]) hx hb dX7_setAside_1 rfl hl (by decide) rfl (fun ls hl => ?_)
  obtain ⟨M_4, h_5, h⟩ := sk_b1E h
  refine w_X7_setAside_L2 C o1 q1 o2 q2 sk_FU 0 M _ _ _ (lv_sub hl [2, 3, 0] rfl) hM hS h_5 (fun y_6 H locs ls he hl hM hS => ?_)
  obtain rfl := Option.some.inj he
  exact sk_vret C hM hS (Option.some.inj h) dX7_setAside_21
theorem dX7_check_0 : decode cX7_check 0 = .ok (.aload_n 0, 1) := by decide +kernel
theorem dX7_check_1 : decode cX7_check 1 = .ok (.getfield 313, 3) := by decide +kernel
theorem dX7_check_4 : decode cX7_check 4 = .ok (.istore_n 3, 1) := by decide +kernel
theorem dX7_check_5 : decode cX7_check 5 = .ok (.aload_n 0, 1) := by decide +kernel
theorem dX7_check_6 : decode cX7_check 6 = .ok (.iconst 0, 1) := by decide +kernel
theorem dX7_check_7 : decode cX7_check 7 = .ok (.putfield 313, 3) := by decide +kernel
theorem dX7_check_10 : decode cX7_check 10 = .ok (.iload_n 2, 1) := by decide +kernel
theorem dX7_check_11 : decode cX7_check 11 = .ok (.i2l, 1) := by decide +kernel
theorem dX7_check_12 : decode cX7_check 12 = .ok (.lconst 1, 1) := by decide +kernel
theorem dX7_check_13 : decode cX7_check 13 = .ok (.ldc2_w 316, 3) := by decide +kernel
theorem dX7_check_16 : decode cX7_check 16 = .ok (.invokestatic 71, 3) := by decide +kernel
theorem dX7_check_19 : decode cX7_check 19 = .ok (.ifCond .eq 15, 3) := by decide +kernel
theorem dX7_check_22 : decode cX7_check 22 = .ok (.iload_n 1, 1) := by decide +kernel
theorem dX7_check_23 : decode cX7_check 23 = .ok (.i2l, 1) := by decide +kernel
theorem dX7_check_24 : decode cX7_check 24 = .ok (.lconst 0, 1) := by decide +kernel
theorem dX7_check_25 : decode cX7_check 25 = .ok (.ldc2_w 76, 3) := by decide +kernel
theorem dX7_check_28 : decode cX7_check 28 = .ok (.invokestatic 71, 3) := by decide +kernel
theorem dX7_check_31 : decode cX7_check 31 = .ok (.ifCond .ne 6, 3) := by decide +kernel
theorem dX7_check_34 : decode cX7_check 34 = .ok (.ldc 80, 2) := by decide +kernel
theorem dX7_check_36 : decode cX7_check 36 = .ok (.ireturn, 1) := by decide +kernel
theorem dX7_check_37 : decode cX7_check 37 = .ok (.aload_n 0, 1) := by decide +kernel
theorem dX7_check_38 : decode cX7_check 38 = .ok (.getfield 318, 3) := by decide +kernel
theorem dX7_check_41 : decode cX7_check 41 = .ok (.ifCond .eq 13, 3) := by decide +kernel
theorem dX7_check_44 : decode cX7_check 44 = .ok (.iload_n 1, 1) := by decide +kernel
theorem dX7_check_45 : decode cX7_check 45 = .ok (.aload_n 0, 1) := by decide +kernel
theorem dX7_check_46 : decode cX7_check 46 = .ok (.getfield 13, 3) := by decide +kernel
theorem dX7_check_49 : decode cX7_check 49 = .ok (.iconst 1, 1) := by decide +kernel
theorem dX7_check_50 : decode cX7_check 50 = .ok (.iaload, 1) := by decide +kernel
theorem dX7_check_51 : decode cX7_check 51 = .ok (.if_icmp .lt 6, 3) := by decide +kernel
theorem dX7_check_54 : decode cX7_check 54 = .ok (.ldc 185, 2) := by decide +kernel
theorem dX7_check_56 : decode cX7_check 56 = .ok (.ireturn, 1) := by decide +kernel
theorem dX7_check_57 : decode cX7_check 57 = .ok (.aload_n 0, 1) := by decide +kernel
theorem dX7_check_58 : decode cX7_check 58 = .ok (.aload_n 0, 1) := by decide +kernel
theorem dX7_check_59 : decode cX7_check 59 = .ok (.getfield 7, 3) := by decide +kernel
theorem dX7_check_62 : decode cX7_check 62 = .ok (.aload_n 0, 1) := by decide +kernel
theorem dX7_check_63 : decode cX7_check 63 = .ok (.getfield 16, 3) := by decide +kernel
theorem dX7_check_66 : decode cX7_check 66 = .ok (.invokevirtual 322, 3) := by decide +kernel
theorem dX7_check_69 : decode cX7_check 69 = .ok (.aload_n 0, 1) := by decide +kernel
theorem dX7_check_70 : decode cX7_check 70 = .ok (.aload_n 0, 1) := by decide +kernel
theorem dX7_check_71 : decode cX7_check 71 = .ok (.getfield 13, 3) := by decide +kernel
theorem dX7_check_74 : decode cX7_check 74 = .ok (.aload_n 0, 1) := by decide +kernel
theorem dX7_check_75 : decode cX7_check 75 = .ok (.getfield 7, 3) := by decide +kernel
theorem dX7_check_78 : decode cX7_check 78 = .ok (.invokevirtual 322, 3) := by decide +kernel
theorem dX7_check_81 : decode cX7_check 81 = .ok (.iconst 0, 1) := by decide +kernel
theorem dX7_check_82 : decode cX7_check 82 = .ok (.istore 4, 2) := by decide +kernel
theorem dX7_check_84 : decode cX7_check 84 = .ok (.iconst 0, 1) := by decide +kernel
theorem dX7_check_85 : decode cX7_check 85 = .ok (.istore 5, 2) := by decide +kernel
theorem dX7_check_87 : decode cX7_check 87 = .ok (.iload 5, 2) := by decide +kernel
theorem dX7_check_89 : decode cX7_check 89 = .ok (.iload_n 2, 1) := by decide +kernel
theorem dX7_check_90 : decode cX7_check 90 = .ok (.if_icmp .ge 54, 3) := by decide +kernel
theorem dX7_check_93 : decode cX7_check 93 = .ok (.aload_n 0, 1) := by decide +kernel
theorem dX7_check_94 : decode cX7_check 94 = .ok (.getfield 7, 3) := by decide +kernel
theorem dX7_check_97 : decode cX7_check 97 = .ok (.iconst 4, 1) := by decide +kernel
theorem dX7_check_98 : decode cX7_check 98 = .ok (.iaload, 1) := by decide +kernel
theorem dX7_check_99 : decode cX7_check 99 = .ok (.sipush 9999, 3) := by decide +kernel
theorem dX7_check_102 : decode cX7_check 102 = .ok (.if_icmp .ge 42, 3) := by decide +kernel
theorem dX7_check_105 : decode cX7_check 105 = .ok (.aload_n 0, 1) := by decide +kernel
theorem dX7_check_106 : decode cX7_check 106 = .ok (.invokevirtual 148, 3) := by decide +kernel
theorem dX7_check_109 : decode cX7_check 109 = .ok (.aload_n 0, 1) := by decide +kernel
theorem dX7_check_110 : decode cX7_check 110 = .ok (.getfield 67, 3) := by decide +kernel
theorem dX7_check_113 : decode cX7_check 113 = .ok (.iload 4, 2) := by decide +kernel
theorem dX7_check_115 : decode cX7_check 115 = .ok (.aload_n 0, 1) := by decide +kernel
theorem dX7_check_116 : decode cX7_check 116 = .ok (.iload_n 1, 1) := by decide +kernel
theorem dX7_check_117 : decode cX7_check 117 = .ok (.invokevirtual 189, 3) := by decide +kernel
theorem dX7_check_120 : decode cX7_check 120 = .ok (.iastore, 1) := by decide +kernel
theorem dX7_check_121 : decode cX7_check 121 = .ok (.aload_n 0, 1) := by decide +kernel
theorem dX7_check_122 : decode cX7_check 122 = .ok (.getfield 67, 3) := by decide +kernel
theorem dX7_check_125 : decode cX7_check 125 = .ok (.iload 4, 2) := by decide +kernel
theorem dX7_check_127 : decode cX7_check 127 = .ok (.iconst 1, 1) := by decide +kernel
theorem dX7_check_128 : decode cX7_check 128 = .ok (.iadd, 1) := by decide +kernel
theorem dX7_check_129 : decode cX7_check 129 = .ok (.aload_n 0, 1) := by decide +kernel
theorem dX7_check_130 : decode cX7_check 130 = .ok (.iload_n 1, 1) := by decide +kernel
theorem dX7_check_131 : decode cX7_check 131 = .ok (.invokevirtual 186, 3) := by decide +kernel
theorem dX7_check_134 : decode cX7_check 134 = .ok (.iastore, 1) := by decide +kernel
theorem dX7_check_135 : decode cX7_check 135 = .ok (.iinc 4 2, 3) := by decide +kernel
theorem dX7_check_138 : decode cX7_check 138 = .ok (.iinc 5 1, 3) := by decide +kernel
theorem dX7_check_141 : decode cX7_check 141 = .ok (.goto (-54), 3) := by decide +kernel
theorem dX7_check_144 : decode cX7_check 144 = .ok (.aload_n 0, 1) := by decide +kernel
theorem dX7_check_145 : decode cX7_check 145 = .ok (.aload_n 0, 1) := by decide +kernel
theorem dX7_check_146 : decode cX7_check 146 = .ok (.getfield 16, 3) := by decide +kernel
theorem dX7_check_149 : decode cX7_check 149 = .ok (.aload_n 0, 1) := by decide +kernel
theorem dX7_check_150 : decode cX7_check 150 = .ok (.getfield 7, 3) := by decide +kernel
theorem dX7_check_153 : decode cX7_check 153 = .ok (.invokevirtual 322, 3) := by decide +kernel
theorem dX7_check_156 : decode cX7_check 156 = .ok (.iconst 0, 1) := by decide +kernel
theorem dX7_check_157 : decode cX7_check 157 = .ok (.istore 5, 2) := by decide +kernel
theorem dX7_check_159 : decode cX7_check 159 = .ok (.iload 5, 2) := by decide +kernel
theorem dX7_check_161 : decode cX7_check 161 = .ok (.iload_n 3, 1) := by decide +kernel
theorem dX7_check_162 : decode cX7_check 162 = .ok (.if_icmp .ge 33, 3) := by decide +kernel
theorem dX7_check_165 : decode cX7_check 165 = .ok (.iload 5, 2) := by decide +kernel
theorem dX7_check_167 : decode cX7_check 167 = .ok (.iload 4, 2) := by decide +kernel
theorem dX7_check_169 : decode cX7_check 169 = .ok (.if_icmp .ge 26, 3) := by decide +kernel
theorem dX7_check_172 : decode cX7_check 172 = .ok (.aload_n 0, 1) := by decide +kernel
theorem dX7_check_173 : decode cX7_check 173 = .ok (.getfield 64, 3) := by decide +kernel
theorem dX7_check_176 : decode cX7_check 176 = .ok (.iload 5, 2) := by decide +kernel
theorem dX7_check_178 : decode cX7_check 178 = .ok (.iaload, 1) := by decide +kernel
theorem dX7_check_179 : decode cX7_check 179 = .ok (.aload_n 0, 1) := by decide +kernel
theorem dX7_check_180 : decode cX7_check 180 = .ok (.getfield 67, 3) := by decide +kernel
theorem dX7_check_183 : decode cX7_check 183 = .ok (.iload 5, 2) := by decide +kernel
theorem dX7_check_185 : decode cX7_check 185 = .ok (.iaload, 1) := by decide +kernel
theorem dX7_check_186 : decode cX7_check 186 = .ok (.if_icmp .ne 9, 3) := by decide +kernel
theorem dX7_check_189 : decode cX7_check 189 = .ok (.iinc 5 1, 3) := by decide +kernel
theorem dX7_check_192 : decode cX7_check 192 = .ok (.goto (-33), 3) := by decide +kernel
theorem dX7_check_195 : decode cX7_check 195 = .ok (.iload 5, 2) := by decide +kernel
theorem dX7_check_197 : decode cX7_check 197 = .ok (.iload_n 3, 1) := by decide +kernel
theorem dX7_check_198 : decode cX7_check 198 = .ok (.if_icmp .ne 14, 3) := by decide +kernel
theorem dX7_check_201 : decode cX7_check 201 = .ok (.iload 5, 2) := by decide +kernel
theorem dX7_check_203 : decode cX7_check 203 = .ok (.iload 4, 2) := by decide +kernel
theorem dX7_check_205 : decode cX7_check 205 = .ok (.if_icmp .ne 7, 3) := by decide +kernel
theorem dX7_check_208 : decode cX7_check 208 = .ok (.iconst 0, 1) := by decide +kernel
theorem dX7_check_209 : decode cX7_check 209 = .ok (.goto 7, 3) := by decide +kernel
theorem dX7_check_212 : decode cX7_check 212 = .ok (.iconst 1, 1) := by decide +kernel
theorem dX7_check_213 : decode cX7_check 213 = .ok (.iload 5, 2) := by decide +kernel
theorem dX7_check_215 : decode cX7_check 215 = .ok (.iadd, 1) := by decide +kernel
theorem dX7_check_216 : decode cX7_check 216 = .ok (.ireturn, 1) := by decide +kernel
set_option maxHeartbeats 4000000 in
set_option maxRecDepth 100000 in
theorem w_X7_check_L87 {g : sk_G} {l : Launch} {p : Program} {e : Env} {s : State} {m : MethodId} {av : Array Value} {below : List Frame} {meth : Method} {c : Code} (C : sk_C g p s m av meth c cX7_check 6 RX7 (some .int)) (a1 : Int32) (a2 : Int32) (a3 : Int32) {rr : Int32} {MM : sk_M} :
    ∀ (n : Nat) (a4 : Int32) (a5 : Int32) (M : sk_M) (H : Heap) (locs : List Loc) (ls : Array Slot), lv_has ls 6 [(0, .ref (sk_ad g 88)), (1, .int a1), (2, .int a2), (3, .int a3), (4, .int a4), (5, .int a5)] → sk_P g M H → va_S (sk_A g) s.heap H locs → ∀ {out : Int32 × sk_M}, f_X7_check_L87 a1 a2 a3 n a4 a5 M = some out → (∀ (x4 : Int32) (M1 : sk_M) (H : Heap) (locs : List Loc) (ls : Array Slot), some (x4, M1) = some out → lv_has ls 6 [(0, .ref (sk_ad g 88)), (3, .int a3), (4, .int x4)] → sk_P g M1 H → va_S (sk_A g) s.heap H locs → W p l e (sk_rm 6) s m av below meth c H locs 0 0 (MQ below (sk_QI g rr MM) av s 0 0 (sk_A g)) (F0 m 144 ls [])) → W p l e (sk_rm 6) s m av below meth c H locs 0 0 (MQ below (sk_QI g rr MM) av s 0 0 (sk_A g)) (F0 m 87 ls []) := by
  obtain ⟨hx, hb, hml, hown, hts, hK, hE, hr, hlocks⟩ := id C
  intro n
  induction n with
  | zero =>
    intro a4 a5 M H locs ls hl hM hS out h
    cases h
  | succ n ih =>
    intro a4 a5 M H locs ls hl hM hS out h kx
    rw [f_X7_check_L87] at h
    refine lv_iload hx hb dX7_check_87 (lv_at hl 5 rfl) ?_
    refine lv_iload_n hx hb dX7_check_89 rfl (lv_at hl 2 rfl) ?_
    refine lv_icmp_ge hx hb dX7_check_90 rfl (fun hc => ?_) (fun hc => ?_)
    · have h := sk_pos h hc
      exact kx _ _ _ _ _ h (lv_sub hl [0, 3, 4] rfl) hM hS
    · have h := sk_neg h hc
      refine lv_aload_n hx hb dX7_check_93 rfl (lv_at hl 0 rfl) ?_
      refine sk_getR (o := 88) (ci := 7) (j := 0) (t := 89) C hM rfl rfl (by decide) rfl rfl kw_935 dX7_check_94 ?_
      refine lv_iconst (v := 4) hx hb dX7_check_97 (by decide) ?_
      refine sk_iald (o := 89) C hM rfl (by decide) dX7_check_98 ?_
      refine W.eq (g2 := F0 m 99 ls [.int (M 89 4)]) rfl ?_
      refine lv_sipush (v := 9999) hx hb dX7_check_99 (by decide) ?_
      refine lv_icmp_ge hx hb dX7_check_102 rfl (fun hc => ?_) (fun hc => ?_)
      · have h := sk_pos h hc
        exact kx _ _ _ _ _ h (lv_sub hl [0, 3, 4] rfl) hM hS
      · have h := sk_neg h hc
        refine lv_aload_n hx hb dX7_check_105 rfl (lv_at hl 0 rfl) ?_
        obtain ⟨M_9, h_10, h⟩ := sk_b1E h
        refine sk_contV (sk_runV (As := []) (rest := []) C (c_X7_goesOn g l  M h_10) yo_X7_goesOn kw_1189 (sk_recv (ci := 7) C hM rfl rfl) (by decide) hM hS hl.1 rfl rfl (Nat.le_of_ble_eq_true rfl) dX7_check_106) hS (fun H locs hM hS => ?_)
        refine lv_aload_n hx hb dX7_check_109 rfl (lv_at hl 0 rfl) ?_
        refine sk_getR (o := 88) (ci := 7) (j := 32) (t := 108) C hM rfl rfl (by decide) rfl rfl kw_967 dX7_check_110 ?_
        refine lv_iload hx hb dX7_check_113 (lv_at hl 4 rfl) ?_
        refine lv_aload_n hx hb dX7_check_115 rfl (lv_at hl 0 rfl) ?_
        refine lv_iload_n hx hb dX7_check_116 rfl (lv_at hl 1 rfl) ?_
        obtain ⟨x_11, h_12, h⟩ := sk_b1E h
        refine sk_contI (sk_runV (As := [.int a1]) (rest := [.int a4, .ref (sk_ad g 108)]) C (c_X7_saidOr g l a1 M_9 h_12) yo_X7_saidOr kw_1284 (sk_recv (ci := 7) C hM rfl rfl) (by decide) hM hS hl.1 rfl rfl (Nat.le_of_ble_eq_true rfl) dX7_check_117) hS (fun H locs hM hS => ?_)
        obtain ⟨i_13, h⟩ := sk_chkE h
        refine sk_iast (o := 108) C hM hS rfl i_13 dX7_check_120 (fun M_14 eM_14 H locs hM hS => ?_)
        have h := sk_letU h eM_14
        refine lv_aload_n hx hb dX7_check_121 rfl (lv_at hl 0 rfl) ?_
        refine sk_getR (o := 88) (ci := 7) (j := 32) (t := 108) C hM rfl rfl (by decide) rfl rfl kw_967 dX7_check_122 ?_
        refine lv_iload hx hb dX7_check_125 (lv_at hl 4 rfl) ?_
        refine lv_iconst (v := 1) hx hb dX7_check_127 (by decide) ?_
        refine lv_iadd hx hb dX7_check_128 ?_
        refine lv_aload_n hx hb dX7_check_129 rfl (lv_at hl 0 rfl) ?_
        refine lv_iload_n hx hb dX7_check_130 rfl (lv_at hl 1 rfl) ?_
        obtain ⟨x_15, h_16, h⟩ := sk_b1E h
        refine sk_contI (sk_runV (As := [.int a1]) (rest := [.int (a4 + 1), .ref (sk_ad g 108)]) C (c_X7_allOn g l a1 M_14 h_16) yo_X7_allOn kw_1276 (sk_recv (ci := 7) C hM rfl rfl) (by decide) hM hS hl.1 rfl rfl (Nat.le_of_ble_eq_true rfl) dX7_check_131) hS (fun H locs hM hS => ?_)
        obtain ⟨i_17, h⟩ := sk_chkE h
        refine sk_iast (o := 108) C hM hS rfl i_17 dX7_check_134 (fun M_18 eM_18 H locs hM hS => ?_)
        have h := sk_letU h eM_18
        refine lv_iinc (v := (a4 + 2)) (lv' := [(4, .int (a4 + 2)), (0, .ref (sk_ad g 88)), (1, .int a1), (2, .int a2), (3, .int a3), (5, .int a5)]) hx hb dX7_check_135 hl (k := 4) rfl rfl (by decide) rfl (fun ls hl => ?_)
        refine lv_iinc (v := (a5 + 1)) (lv' := [(5, .int (a5 + 1)), (4, .int (a4 + 2)), (0, .ref (sk_ad g 88)), (1, .int a1), (2, .int a2), (3, .int a3)]) hx hb dX7_check_138 hl (k := 5) rfl rfl (by decide) rfl (fun ls hl => ?_)
        refine lv_goto hx hb dX7_check_141 rfl ?_
        exact ih (a4 + 2) (a5 + 1) M_18 _ _ _ (lv_sub hl [2, 3, 4, 5, 1, 0] rfl) hM hS h kx
set_option maxHeartbeats 4000000 in
set_option maxRecDepth 100000 in
theorem w_X7_check_L159 {g : sk_G} {l : Launch} {p : Program} {e : Env} {s : State} {m : MethodId} {av : Array Value} {below : List Frame} {meth : Method} {c : Code} (C : sk_C g p s m av meth c cX7_check 6 RX7 (some .int)) (a3 : Int32) (a4 : Int32) (M : sk_M) {rr : Int32} {MM : sk_M} :
    ∀ (n : Nat) (a5 : Int32) (H : Heap) (locs : List Loc) (ls : Array Slot), lv_has ls 6 [(0, .ref (sk_ad g 88)), (3, .int a3), (4, .int a4), (5, .int a5)] → sk_P g M H → va_S (sk_A g) s.heap H locs → ∀ {out : Int32}, f_X7_check_L159 a3 a4 M n a5 = some out → (∀ (x5 : Int32) (H : Heap) (locs : List Loc) (ls : Array Slot), some x5 = some out → lv_has ls 6 [(3, .int a3), (4, .int a4), (5, .int x5)] → sk_P g M H → va_S (sk_A g) s.heap H locs → W p l e (sk_rm 6) s m av below meth c H locs 0 0 (MQ below (sk_QI g rr MM) av s 0 0 (sk_A g)) (F0 m 195 ls [])) → W p l e (sk_rm 6) s m av below meth c H locs 0 0 (MQ below (sk_QI g rr MM) av s 0 0 (sk_A g)) (F0 m 159 ls []) := by
  obtain ⟨hx, hb, hml, hown, hts, hK, hE, hr, hlocks⟩ := id C
  intro n
  induction n with
  | zero =>
    intro a5 H locs ls hl hM hS out h
    cases h
  | succ n ih =>
    intro a5 H locs ls hl hM hS out h kx
    rw [f_X7_check_L159] at h
    refine lv_iload hx hb dX7_check_159 (lv_at hl 3 rfl) ?_
    refine lv_iload_n hx hb dX7_check_161 rfl (lv_at hl 1 rfl) ?_
    refine lv_icmp_ge hx hb dX7_check_162 rfl (fun hc => ?_) (fun hc => ?_)
    · have h := sk_pos h hc
      exact kx _ _ _ _ h (lv_sub hl [1, 2, 3] rfl) hM hS
    · have h := sk_neg h hc
      refine lv_iload hx hb dX7_check_165 (lv_at hl 3 rfl) ?_
      refine lv_iload hx hb dX7_check_167 (lv_at hl 2 rfl) ?_
      refine lv_icmp_ge hx hb dX7_check_169 rfl (fun hc => ?_) (fun hc => ?_)
      · have h := sk_pos h hc
        exact kx _ _ _ _ h (lv_sub hl [1, 2, 3] rfl) hM hS
      · have h := sk_neg h hc
        refine lv_aload_n hx hb dX7_check_172 rfl (lv_at hl 0 rfl) ?_
        refine sk_getR (o := 88) (ci := 7) (j := 30) (t := 107) C hM rfl rfl (by decide) rfl rfl kw_965 dX7_check_173 ?_
        refine lv_iload hx hb dX7_check_176 (lv_at hl 3 rfl) ?_
        obtain ⟨i_23, h⟩ := sk_chkE h
        refine sk_iald (o := 107) C hM rfl i_23 dX7_check_178 ?_
        refine lv_aload_n hx hb dX7_check_179 rfl (lv_at hl 0 rfl) ?_
        refine sk_getR (o := 88) (ci := 7) (j := 32) (t := 108) C hM rfl rfl (by decide) rfl rfl kw_967 dX7_check_180 ?_
        refine lv_iload hx hb dX7_check_183 (lv_at hl 3 rfl) ?_
        obtain ⟨i_24, h⟩ := sk_chkE h
        refine sk_iald (o := 108) C hM rfl i_24 dX7_check_185 ?_
        refine lv_icmp_ne hx hb dX7_check_186 rfl (fun hc => ?_) (fun hc => ?_)
        · have h := sk_neg h hc
          exact kx _ _ _ _ h (lv_sub hl [1, 2, 3] rfl) hM hS
        · have h := sk_pos h hc
          refine lv_iinc (v := (a5 + 1)) (lv' := [(5, .int (a5 + 1)), (0, .ref (sk_ad g 88)), (3, .int a3), (4, .int a4)]) hx hb dX7_check_189 hl (k := 3) rfl rfl (by decide) rfl (fun ls hl => ?_)
          refine lv_goto hx hb dX7_check_192 rfl ?_
          exact ih (a5 + 1) _ _ _ (lv_sub hl [1, 2, 3, 0] rfl) hM hS h kx
set_option maxHeartbeats 4000000 in
set_option maxRecDepth 100000 in
theorem c_X7_check (g : sk_G) (l : Launch) (a1 : Int32) (a2 : Int32) (M : sk_M) {rr : Int32} {MM : sk_M} (h : f_X7_check a1 a2 M = some (rr, MM)) : sk_MI g l yX7_check cX7_check 6 (some .int) 6 [.ref (sk_ad g 88), .int a1, .int a2] M rr MM := by
  refine sk_go [(0, .ref (sk_ad g 88)), (1, .int a1), (2, .int a2)] (by decide) (Nat.le_of_ble_eq_true rfl) rfl ?_
  intro p e s m av below meth c C ls hl hM hS
  obtain ⟨hx, hb, hml, hown, hts, hK, hE, hr, hlocks⟩ := id C
  rw [f_X7_check] at h
  refine lv_aload_n hx hb dX7_check_0 rfl (lv_at hl 0 rfl) ?_
  refine sk_getI (o := 88) (ci := 7) (j := 31) C hM rfl rfl (by decide) rfl kw_966 dX7_check_1 ?_
  refine lv_topi (fun x_1 ex_1 => ?_)
  have h := sk_letU h ex_1
  refine lv_istore_n (lv' := [(3, .int x_1), (0, .ref (sk_ad g 88)), (1, .int a1), (2, .int a2)]) hx hb dX7_check_4 rfl hl (by decide) rfl (fun ls hl => ?_)
  refine lv_aload_n hx hb dX7_check_5 rfl (lv_at hl 1 rfl) ?_
  refine lv_iconst (v := 0) hx hb dX7_check_6 (by decide) ?_
  refine sk_putI (o := 88) (ci := 7) (j := 31) C hM hS rfl rfl (by decide) rfl rfl (tyX7_ok 31 (by decide)) kw_966 dX7_check_7 (fun M_2 eM_2 H locs hM hS => ?_)
  have h := sk_letU h eM_2
  refine lv_iload_n hx hb dX7_check_10 rfl (lv_at hl 3 rfl) ?_
  refine lv_i2l (v := a2.toInt64) hx hb dX7_check_11 rfl ?_
  refine lv_lconst (v := 1) hx hb dX7_check_12 (by decide) ?_
  refine lv_ldc2 (v := 30) hx hb hown (hts _ kw_1437) dX7_check_13 ?_
  refine sk_contI (sk_runS (As := [.long (a2.toInt64), .long 1, .long 30]) (rest := []) C (c_X7_isIn g l (a2.toInt64) 1 30 M_2 rfl) yo_X7_isIn kw_1040 (by decide) hM hS hl.1 rfl rfl (Nat.le_of_ble_eq_true rfl) dX7_check_16) hS (fun H locs hM hS => ?_)
  refine lv_if_eq hx hb dX7_check_19 rfl (fun hc => ?_) (fun hc => ?_)
  · have h := sk_pos h hc
    refine lv_ldc (v := (-1000000001)) hx hb hown (hts _ kw_1044) dX7_check_34 ?_
    exact sk_iret C hM hS (sk_e2 h) dX7_check_36
  · have h := sk_neg h hc
    refine lv_iload_n hx hb dX7_check_22 rfl (lv_at hl 2 rfl) ?_
    refine lv_i2l (v := a1.toInt64) hx hb dX7_check_23 rfl ?_
    refine lv_lconst (v := 0) hx hb dX7_check_24 (by decide) ?_
    refine lv_ldc2 (v := 5) hx hb hown (hts _ kw_1039) dX7_check_25 ?_
    refine sk_contI (sk_runS (As := [.long (a1.toInt64), .long 0, .long 5]) (rest := []) C (c_X7_isIn g l (a1.toInt64) 0 5 M_2 rfl) yo_X7_isIn kw_1040 (by decide) hM hS hl.1 rfl rfl (Nat.le_of_ble_eq_true rfl) dX7_check_28) hS (fun H locs hM hS => ?_)
    refine lv_if_ne hx hb dX7_check_31 rfl (fun hc => ?_) (fun hc => ?_)
    · have h := sk_neg h hc
      refine lv_aload_n hx hb dX7_check_37 rfl (lv_at hl 1 rfl) ?_
      refine sk_getI (o := 88) (ci := 7) (j := 3) C hM rfl rfl (by decide) rfl kw_938 dX7_check_38 ?_
      refine lv_if_eq hx hb dX7_check_41 rfl (fun hc => ?_) (fun hc => ?_)
      · have h := sk_pos h hc
        refine lv_ldc (v := (-1000000002)) hx hb hown (hts _ kw_1271) dX7_check_54 ?_
        exact sk_iret C hM hS (sk_e2 h) dX7_check_56
      · have h := sk_neg h hc
        refine lv_iload_n hx hb dX7_check_44 rfl (lv_at hl 2 rfl) ?_
        refine lv_aload_n hx hb dX7_check_45 rfl (lv_at hl 1 rfl) ?_
        refine sk_getR (o := 88) (ci := 7) (j := 1) (t := 90) C hM rfl rfl (by decide) rfl rfl kw_936 dX7_check_46 ?_
        refine lv_iconst (v := 1) hx hb dX7_check_49 (by decide) ?_
        refine sk_iald (o := 90) C hM rfl (by decide) dX7_check_50 ?_
        refine W.eq (g2 := F0 m 51 ls [.int (M_2 90 1), .int a1]) rfl ?_
        refine lv_icmp_lt hx hb dX7_check_51 rfl (fun hc => ?_) (fun hc => ?_)
        · have h := sk_pos h hc
          refine lv_aload_n hx hb dX7_check_57 rfl (lv_at hl 1 rfl) ?_
          refine lv_aload_n hx hb dX7_check_58 rfl (lv_at hl 1 rfl) ?_
          refine sk_getR (o := 88) (ci := 7) (j := 0) (t := 89) C hM rfl rfl (by decide) rfl rfl kw_935 dX7_check_59 ?_
          refine lv_aload_n hx hb dX7_check_62 rfl (lv_at hl 1 rfl) ?_
          refine sk_getR (o := 88) (ci := 7) (j := 2) (t := 91) C hM rfl rfl (by decide) rfl rfl kw_937 dX7_check_63 ?_
          obtain ⟨M_5, h_6, h⟩ := sk_b1E h
          refine sk_contV (sk_runV (As := [.ref (sk_ad g 89), .ref (sk_ad g 91)]) (rest := []) C (c_X7_setAside g l 89 rfl 91 rfl M_2 h_6) yo_X7_setAside kw_1438 (sk_recv (ci := 7) C hM rfl rfl) (by decide) hM hS hl.1 rfl rfl (Nat.le_of_ble_eq_true rfl) dX7_check_66) hS (fun H locs hM hS => ?_)
          refine lv_aload_n hx hb dX7_check_69 rfl (lv_at hl 1 rfl) ?_
          refine lv_aload_n hx hb dX7_check_70 rfl (lv_at hl 1 rfl) ?_
          refine sk_getR (o := 88) (ci := 7) (j := 1) (t := 90) C hM rfl rfl (by decide) rfl rfl kw_936 dX7_check_71 ?_
          refine lv_aload_n hx hb dX7_check_74 rfl (lv_at hl 1 rfl) ?_
          refine sk_getR (o := 88) (ci := 7) (j := 0) (t := 89) C hM rfl rfl (by decide) rfl rfl kw_935 dX7_check_75 ?_
          obtain ⟨M_7, h_8, h⟩ := sk_b1E h
          refine sk_contV (sk_runV (As := [.ref (sk_ad g 90), .ref (sk_ad g 89)]) (rest := []) C (c_X7_setAside g l 90 rfl 89 rfl M_5 h_8) yo_X7_setAside kw_1438 (sk_recv (ci := 7) C hM rfl rfl) (by decide) hM hS hl.1 rfl rfl (Nat.le_of_ble_eq_true rfl) dX7_check_78) hS (fun H locs hM hS => ?_)
          refine lv_iconst (v := 0) hx hb dX7_check_81 (by decide) ?_
          refine lv_istore (lv' := [(4, .int 0), (3, .int x_1), (0, .ref (sk_ad g 88)), (1, .int a1), (2, .int a2)]) hx hb dX7_check_82 hl (by decide) rfl (fun ls hl => ?_)
          refine lv_iconst (v := 0) hx hb dX7_check_84 (by decide) ?_
          refine lv_istore (lv' := [(5, .int 0), (4, .int 0), (3, .int x_1), (0, .ref (sk_ad g 88)), (1, .int a1), (2, .int a2)]) hx hb dX7_check_85 hl (by decide) rfl (fun ls hl => ?_)
          obtain ⟨x_19, M_20, h_28, h⟩ := sk_b2E h
          refine w_X7_check_L87 C a1 a2 x_1 sk_FU 0 0 M_7 _ _ _ (lv_sub hl [3, 4, 5, 2, 1, 0] rfl) hM hS h_28 (fun y_29 y_30 H locs ls he hl hM hS => ?_)
          obtain ⟨rfl, rfl⟩ := sk_e2 he
          refine lv_aload_n hx hb dX7_check_144 rfl (lv_at hl 0 rfl) ?_
          refine lv_aload_n hx hb dX7_check_145 rfl (lv_at hl 0 rfl) ?_
          refine sk_getR (o := 88) (ci := 7) (j := 2) (t := 91) C hM rfl rfl (by decide) rfl rfl kw_937 dX7_check_146 ?_
          refine lv_aload_n hx hb dX7_check_149 rfl (lv_at hl 0 rfl) ?_
          refine sk_getR (o := 88) (ci := 7) (j := 0) (t := 89) C hM rfl rfl (by decide) rfl rfl kw_935 dX7_check_150 ?_
          obtain ⟨M_21, h_22, h⟩ := sk_b1E h
          refine sk_contV (sk_runV (As := [.ref (sk_ad g 91), .ref (sk_ad g 89)]) (rest := []) C (c_X7_setAside g l 91 rfl 89 rfl y_30 h_22) yo_X7_setAside kw_1438 (sk_recv (ci := 7) C hM rfl rfl) (by decide) hM hS hl.1 rfl rfl (Nat.le_of_ble_eq_true rfl) dX7_check_153) hS (fun H locs hM hS => ?_)
          refine lv_iconst (v := 0) hx hb dX7_check_156 (by decide) ?_
          refine lv_istore (lv' := [(5, .int 0), (0, .ref (sk_ad g 88)), (3, .int x_1), (4, .int y_29)]) hx hb dX7_check_157 hl (by decide) rfl (fun ls hl => ?_)
          obtain ⟨x_25, h_26, h⟩ := sk_b1E h
          refine w_X7_check_L159 C x_1 y_29 M_21 sk_FU 0 _ _ _ (lv_sub hl [1, 2, 3, 0] rfl) hM hS h_26 (fun y_27 H locs ls he hl hM hS => ?_)
          obtain rfl := Option.some.inj he
          refine lv_iload hx hb dX7_check_195 (lv_at hl 2 rfl) ?_
          refine lv_iload_n hx hb dX7_check_197 rfl (lv_at hl 0 rfl) ?_
          have J : ∀ (vv : Int32) (H : Heap) (locs : List Loc), (if y_27 = x_1 then (if y_27 = y_29 then 0 else (1 + y_27) : Int32) else (1 + y_27) : Int32) = vv → sk_P g M_21 H → va_S (sk_A g) s.heap H locs → W p l e (sk_rm 6) s m av below meth c H locs 0 0 (MQ below (sk_QI g rr MM) av s 0 0 (sk_A g)) (F0 m 216 ls [.int vv]) := by
            intro vv H locs hvv hM hS
            subst hvv
            exact sk_iret C hM hS (sk_e2 h) dX7_check_216
          refine lv_icmp_ne hx hb dX7_check_198 rfl (fun hc => ?_) (fun hc => ?_)
          · have J := fun vv H locs q => J vv H locs ((if_neg hc).trans q)
            refine lv_iconst (v := 1) hx hb dX7_check_212 (by decide) ?_
            refine lv_iload hx hb dX7_check_213 (lv_at hl 2 rfl) ?_
            refine lv_iadd hx hb dX7_check_215 ?_
            exact J _ _ _ rfl hM hS
          · have J := fun vv H locs q => J vv H locs ((if_pos hc).trans q)
            refine lv_iload hx hb dX7_check_201 (lv_at hl 2 rfl) ?_
            refine lv_iload hx hb dX7_check_203 (lv_at hl 1 rfl) ?_
            refine lv_icmp_ne hx hb dX7_check_205 rfl (fun hc => ?_) (fun hc => ?_)
            · have J := fun vv H locs q => J vv H locs ((if_neg hc).trans q)
              refine lv_iconst (v := 1) hx hb dX7_check_212 (by decide) ?_
              refine lv_iload hx hb dX7_check_213 (lv_at hl 2 rfl) ?_
              refine lv_iadd hx hb dX7_check_215 ?_
              exact J _ _ _ rfl hM hS
            · have J := fun vv H locs q => J vv H locs ((if_pos hc).trans q)
              refine lv_iconst (v := 0) hx hb dX7_check_208 (by decide) ?_
              refine lv_goto hx hb dX7_check_209 rfl ?_
              exact J _ _ _ rfl hM hS
        · have h := sk_neg h hc
          refine lv_ldc (v := (-1000000002)) hx hb hown (hts _ kw_1271) dX7_check_54 ?_
          exact sk_iret C hM hS (sk_e2 h) dX7_check_56
    · have h := sk_pos h hc
      refine lv_ldc (v := (-1000000001)) hx hb hown (hts _ kw_1044) dX7_check_34 ?_
      exact sk_iret C hM hS (sk_e2 h) dX7_check_36
theorem dX7_keep_0 : decode cX7_keep 0 = .ok (.aload_n 0, 1) := by decide +kernel
theorem dX7_keep_1 : decode cX7_keep 1 = .ok (.iconst 1, 1) := by decide +kernel
theorem dX7_keep_2 : decode cX7_keep 2 = .ok (.putfield 318, 3) := by decide +kernel
theorem dX7_keep_5 : decode cX7_keep 5 = .ok (.aload_n 0, 1) := by decide +kernel
theorem dX7_keep_6 : decode cX7_keep 6 = .ok (.aload_n 0, 1) := by decide +kernel
theorem dX7_keep_7 : decode cX7_keep 7 = .ok (.getfield 7, 3) := by decide +kernel
theorem dX7_keep_10 : decode cX7_keep 10 = .ok (.aload_n 0, 1) := by decide +kernel
theorem dX7_keep_11 : decode cX7_keep 11 = .ok (.getfield 13, 3) := by decide +kernel
theorem dX7_keep_14 : decode cX7_keep 14 = .ok (.invokevirtual 322, 3) := by decide +kernel
theorem dX7_keep_17 : decode cX7_keep 17 = .ok (.aload_n 0, 1) := by decide +kernel
theorem dX7_keep_18 : decode cX7_keep 18 = .ok (.getfield 7, 3) := by decide +kernel
theorem dX7_keep_21 : decode cX7_keep 21 = .ok (.iconst 1, 1) := by decide +kernel
theorem dX7_keep_22 : decode cX7_keep 22 = .ok (.iaload, 1) := by decide +kernel
theorem dX7_keep_23 : decode cX7_keep 23 = .ok (.ireturn, 1) := by decide +kernel
set_option maxHeartbeats 4000000 in
set_option maxRecDepth 100000 in
theorem c_X7_keep (g : sk_G) (l : Launch)  (M : sk_M) {rr : Int32} {MM : sk_M} (h : f_X7_keep M = some (rr, MM)) : sk_MI g l yX7_keep cX7_keep 1 (some .int) 2 [.ref (sk_ad g 88)] M rr MM := by
  refine sk_go [(0, .ref (sk_ad g 88))] (by decide) (Nat.le_of_ble_eq_true rfl) rfl ?_
  intro p e s m av below meth c C ls hl hM hS
  obtain ⟨hx, hb, hml, hown, hts, hK, hE, hr, hlocks⟩ := id C
  rw [f_X7_keep] at h
  refine lv_aload_n hx hb dX7_keep_0 rfl (lv_at hl 0 rfl) ?_
  refine lv_iconst (v := 1) hx hb dX7_keep_1 (by decide) ?_
  refine sk_put (o := 88) (ci := 7) (j := 3) C hM hS rfl rfl (by decide) rfl rfl (tyX7_ok 3 (by decide)) (by decide) (by decide) kw_938 dX7_keep_2 (fun M_1 eM_1 H locs hM hS => ?_)
  have h := sk_letU h eM_1
  refine lv_aload_n hx hb dX7_keep_5 rfl (lv_at hl 0 rfl) ?_
  refine lv_aload_n hx hb dX7_keep_6 rfl (lv_at hl 0 rfl) ?_
  refine sk_getR (o := 88) (ci := 7) (j := 0) (t := 89) C hM rfl rfl (by decide) rfl rfl kw_935 dX7_keep_7 ?_
  refine lv_aload_n hx hb dX7_keep_10 rfl (lv_at hl 0 rfl) ?_
  refine sk_getR (o := 88) (ci := 7) (j := 1) (t := 90) C hM rfl rfl (by decide) rfl rfl kw_936 dX7_keep_11 ?_
  obtain ⟨M_2, h_3, h⟩ := sk_b1E h
  refine sk_contV (sk_runV (As := [.ref (sk_ad g 89), .ref (sk_ad g 90)]) (rest := []) C (c_X7_setAside g l 89 rfl 90 rfl M_1 h_3) yo_X7_setAside kw_1438 (sk_recv (ci := 7) C hM rfl rfl) (by decide) hM hS hl.1 rfl rfl (Nat.le_of_ble_eq_true rfl) dX7_keep_14) hS (fun H locs hM hS => ?_)
  refine lv_aload_n hx hb dX7_keep_17 rfl (lv_at hl 0 rfl) ?_
  refine sk_getR (o := 88) (ci := 7) (j := 0) (t := 89) C hM rfl rfl (by decide) rfl rfl kw_935 dX7_keep_18 ?_
  refine lv_iconst (v := 1) hx hb dX7_keep_21 (by decide) ?_
  refine sk_iald (o := 89) C hM rfl (by decide) dX7_keep_22 ?_
  refine W.eq (g2 := F0 m 23 ls [.int (M_2 89 1)]) rfl ?_
  exact sk_iret C hM hS (sk_e2 h) dX7_keep_23
theorem dX7_back_0 : decode cX7_back 0 = .ok (.aload_n 0, 1) := by decide +kernel
theorem dX7_back_1 : decode cX7_back 1 = .ok (.getfield 318, 3) := by decide +kernel
theorem dX7_back_4 : decode cX7_back 4 = .ok (.ifCond .ne 6, 3) := by decide +kernel
theorem dX7_back_7 : decode cX7_back 7 = .ok (.ldc 185, 2) := by decide +kernel
theorem dX7_back_9 : decode cX7_back 9 = .ok (.ireturn, 1) := by decide +kernel
theorem dX7_back_10 : decode cX7_back 10 = .ok (.aload_n 0, 1) := by decide +kernel
theorem dX7_back_11 : decode cX7_back 11 = .ok (.aload_n 0, 1) := by decide +kernel
theorem dX7_back_12 : decode cX7_back 12 = .ok (.getfield 13, 3) := by decide +kernel
theorem dX7_back_15 : decode cX7_back 15 = .ok (.aload_n 0, 1) := by decide +kernel
theorem dX7_back_16 : decode cX7_back 16 = .ok (.getfield 7, 3) := by decide +kernel
theorem dX7_back_19 : decode cX7_back 19 = .ok (.invokevirtual 322, 3) := by decide +kernel
theorem dX7_back_22 : decode cX7_back 22 = .ok (.aload_n 0, 1) := by decide +kernel
theorem dX7_back_23 : decode cX7_back 23 = .ok (.getfield 7, 3) := by decide +kernel
theorem dX7_back_26 : decode cX7_back 26 = .ok (.iconst 1, 1) := by decide +kernel
theorem dX7_back_27 : decode cX7_back 27 = .ok (.iaload, 1) := by decide +kernel
theorem dX7_back_28 : decode cX7_back 28 = .ok (.ireturn, 1) := by decide +kernel
set_option maxHeartbeats 4000000 in
set_option maxRecDepth 100000 in
theorem c_X7_back (g : sk_G) (l : Launch)  (M : sk_M) {rr : Int32} {MM : sk_M} (h : f_X7_back M = some (rr, MM)) : sk_MI g l yX7_back cX7_back 1 (some .int) 2 [.ref (sk_ad g 88)] M rr MM := by
  refine sk_go [(0, .ref (sk_ad g 88))] (by decide) (Nat.le_of_ble_eq_true rfl) rfl ?_
  intro p e s m av below meth c C ls hl hM hS
  obtain ⟨hx, hb, hml, hown, hts, hK, hE, hr, hlocks⟩ := id C
  rw [f_X7_back] at h
  refine lv_aload_n hx hb dX7_back_0 rfl (lv_at hl 0 rfl) ?_
  refine sk_getI (o := 88) (ci := 7) (j := 3) C hM rfl rfl (by decide) rfl kw_938 dX7_back_1 ?_
  refine lv_if_ne hx hb dX7_back_4 rfl (fun hc => ?_) (fun hc => ?_)
  · have h := sk_neg h hc
    refine lv_aload_n hx hb dX7_back_10 rfl (lv_at hl 0 rfl) ?_
    refine lv_aload_n hx hb dX7_back_11 rfl (lv_at hl 0 rfl) ?_
    refine sk_getR (o := 88) (ci := 7) (j := 1) (t := 90) C hM rfl rfl (by decide) rfl rfl kw_936 dX7_back_12 ?_
    refine lv_aload_n hx hb dX7_back_15 rfl (lv_at hl 0 rfl) ?_
    refine sk_getR (o := 88) (ci := 7) (j := 0) (t := 89) C hM rfl rfl (by decide) rfl rfl kw_935 dX7_back_16 ?_
    obtain ⟨M_1, h_2, h⟩ := sk_b1E h
    refine sk_contV (sk_runV (As := [.ref (sk_ad g 90), .ref (sk_ad g 89)]) (rest := []) C (c_X7_setAside g l 90 rfl 89 rfl M h_2) yo_X7_setAside kw_1438 (sk_recv (ci := 7) C hM rfl rfl) (by decide) hM hS hl.1 rfl rfl (Nat.le_of_ble_eq_true rfl) dX7_back_19) hS (fun H locs hM hS => ?_)
    refine lv_aload_n hx hb dX7_back_22 rfl (lv_at hl 0 rfl) ?_
    refine sk_getR (o := 88) (ci := 7) (j := 0) (t := 89) C hM rfl rfl (by decide) rfl rfl kw_935 dX7_back_23 ?_
    refine lv_iconst (v := 1) hx hb dX7_back_26 (by decide) ?_
    refine sk_iald (o := 89) C hM rfl (by decide) dX7_back_27 ?_
    refine W.eq (g2 := F0 m 28 ls [.int (M_1 89 1)]) rfl ?_
    exact sk_iret C hM hS (sk_e2 h) dX7_back_28
  · have h := sk_pos h hc
    refine lv_ldc (v := (-1000000002)) hx hb hown (hts _ kw_1271) dX7_back_7 ?_
    exact sk_iret C hM hS (sk_e2 h) dX7_back_9
theorem dX7_allStrengths_0 : decode cX7_allStrengths 0 = .ok (.iconst 0, 1) := by decide +kernel
theorem dX7_allStrengths_1 : decode cX7_allStrengths 1 = .ok (.istore_n 1, 1) := by decide +kernel
theorem dX7_allStrengths_2 : decode cX7_allStrengths 2 = .ok (.iconst 0, 1) := by decide +kernel
theorem dX7_allStrengths_3 : decode cX7_allStrengths 3 = .ok (.istore_n 2, 1) := by decide +kernel
theorem dX7_allStrengths_4 : decode cX7_allStrengths 4 = .ok (.iload_n 2, 1) := by decide +kernel
theorem dX7_allStrengths_5 : decode cX7_allStrengths 5 = .ok (.aload_n 0, 1) := by decide +kernel
theorem dX7_allStrengths_6 : decode cX7_allStrengths 6 = .ok (.getfield 7, 3) := by decide +kernel
theorem dX7_allStrengths_9 : decode cX7_allStrengths 9 = .ok (.iconst 1, 1) := by decide +kernel
theorem dX7_allStrengths_10 : decode cX7_allStrengths 10 = .ok (.iaload, 1) := by decide +kernel
theorem dX7_allStrengths_11 : decode cX7_allStrengths 11 = .ok (.if_icmp .ge 17, 3) := by decide +kernel
theorem dX7_allStrengths_14 : decode cX7_allStrengths 14 = .ok (.iload_n 1, 1) := by decide +kernel
theorem dX7_allStrengths_15 : decode cX7_allStrengths 15 = .ok (.aload_n 0, 1) := by decide +kernel
theorem dX7_allStrengths_16 : decode cX7_allStrengths 16 = .ok (.iload_n 2, 1) := by decide +kernel
theorem dX7_allStrengths_17 : decode cX7_allStrengths 17 = .ok (.invokevirtual 186, 3) := by decide +kernel
theorem dX7_allStrengths_20 : decode cX7_allStrengths 20 = .ok (.iadd, 1) := by decide +kernel
theorem dX7_allStrengths_21 : decode cX7_allStrengths 21 = .ok (.istore_n 1, 1) := by decide +kernel
theorem dX7_allStrengths_22 : decode cX7_allStrengths 22 = .ok (.iinc 2 1, 3) := by decide +kernel
theorem dX7_allStrengths_25 : decode cX7_allStrengths 25 = .ok (.goto (-21), 3) := by decide +kernel
theorem dX7_allStrengths_28 : decode cX7_allStrengths 28 = .ok (.iload_n 1, 1) := by decide +kernel
theorem dX7_allStrengths_29 : decode cX7_allStrengths 29 = .ok (.ireturn, 1) := by decide +kernel
set_option maxHeartbeats 4000000 in
set_option maxRecDepth 100000 in
theorem w_X7_allStrengths_L4 {g : sk_G} {l : Launch} {p : Program} {e : Env} {s : State} {m : MethodId} {av : Array Value} {below : List Frame} {meth : Method} {c : Code} (C : sk_C g p s m av meth c cX7_allStrengths 3 RX7 (some .int)) (M : sk_M) {rr : Int32} :
    ∀ (n : Nat) (a1 : Int32) (a2 : Int32) (H : Heap) (locs : List Loc) (ls : Array Slot), lv_has ls 3 [(0, .ref (sk_ad g 88)), (1, .int a1), (2, .int a2)] → sk_P g M H → va_S (sk_A g) s.heap H locs → ∀ {out : Int32}, f_X7_allStrengths_L4 M n a1 a2 = some out → (∀ (x1 : Int32) (H : Heap) (locs : List Loc) (ls : Array Slot), some x1 = some out → lv_has ls 3 [(1, .int x1)] → sk_P g M H → va_S (sk_A g) s.heap H locs → W p l e (sk_rm 3) s m av below meth c H locs 0 0 (MQ below (sk_QI g rr M) av s 0 0 (sk_A g)) (F0 m 28 ls [])) → W p l e (sk_rm 3) s m av below meth c H locs 0 0 (MQ below (sk_QI g rr M) av s 0 0 (sk_A g)) (F0 m 4 ls []) := by
  obtain ⟨hx, hb, hml, hown, hts, hK, hE, hr, hlocks⟩ := id C
  intro n
  induction n with
  | zero =>
    intro a1 a2 H locs ls hl hM hS out h
    cases h
  | succ n ih =>
    intro a1 a2 H locs ls hl hM hS out h kx
    rw [f_X7_allStrengths_L4] at h
    refine lv_iload_n hx hb dX7_allStrengths_4 rfl (lv_at hl 2 rfl) ?_
    refine lv_aload_n hx hb dX7_allStrengths_5 rfl (lv_at hl 0 rfl) ?_
    refine sk_getR (o := 88) (ci := 7) (j := 0) (t := 89) C hM rfl rfl (by decide) rfl rfl kw_935 dX7_allStrengths_6 ?_
    refine lv_iconst (v := 1) hx hb dX7_allStrengths_9 (by decide) ?_
    refine sk_iald (o := 89) C hM rfl (by decide) dX7_allStrengths_10 ?_
    refine W.eq (g2 := F0 m 11 ls [.int (M 89 1), .int a2]) rfl ?_
    refine lv_icmp_ge hx hb dX7_allStrengths_11 rfl (fun hc => ?_) (fun hc => ?_)
    · have h := sk_pos h hc
      exact kx _ _ _ _ h (lv_sub hl [1] rfl) hM hS
    · have h := sk_neg h hc
      refine lv_iload_n hx hb dX7_allStrengths_14 rfl (lv_at hl 1 rfl) ?_
      refine lv_aload_n hx hb dX7_allStrengths_15 rfl (lv_at hl 0 rfl) ?_
      refine lv_iload_n hx hb dX7_allStrengths_16 rfl (lv_at hl 2 rfl) ?_
      obtain ⟨x_1, h_2, h⟩ := sk_b1E h
      refine sk_contI (sk_runV (As := [.int a2]) (rest := [.int a1]) C (c_X7_allOn g l a2 M h_2) yo_X7_allOn kw_1276 (sk_recv (ci := 7) C hM rfl rfl) (by decide) hM hS hl.1 rfl rfl (Nat.le_of_ble_eq_true rfl) dX7_allStrengths_17) hS (fun H locs hM hS => ?_)
      refine lv_iadd hx hb dX7_allStrengths_20 ?_
      refine lv_topi (fun x_3 ex_3 => ?_)
      have h := sk_letU h ex_3
      refine lv_istore_n (lv' := [(1, .int x_3), (0, .ref (sk_ad g 88)), (2, .int a2)]) hx hb dX7_allStrengths_21 rfl hl (by decide) rfl (fun ls hl => ?_)
      refine lv_iinc (v := (a2 + 1)) (lv' := [(2, .int (a2 + 1)), (1, .int x_3), (0, .ref (sk_ad g 88))]) hx hb dX7_allStrengths_22 hl (k := 2) rfl rfl (by decide) rfl (fun ls hl => ?_)
      refine lv_goto hx hb dX7_allStrengths_25 rfl ?_
      exact ih x_3 (a2 + 1) _ _ _ (lv_sub hl [2, 1, 0] rfl) hM hS h kx
set_option maxHeartbeats 4000000 in
set_option maxRecDepth 100000 in
theorem c_X7_allStrengths (g : sk_G) (l : Launch)  (M : sk_M) {rr : Int32} (h : f_X7_allStrengths M = some rr) : sk_MI g l yX7_allStrengths cX7_allStrengths 3 (some .int) 3 [.ref (sk_ad g 88)] M rr M := by
  refine sk_go [(0, .ref (sk_ad g 88))] (by decide) (Nat.le_of_ble_eq_true rfl) rfl ?_
  intro p e s m av below meth c C ls hl hM hS
  obtain ⟨hx, hb, hml, hown, hts, hK, hE, hr, hlocks⟩ := id C
  rw [f_X7_allStrengths] at h
  refine lv_iconst (v := 0) hx hb dX7_allStrengths_0 (by decide) ?_
  refine lv_istore_n (lv' := [(1, .int 0), (0, .ref (sk_ad g 88))]) hx hb dX7_allStrengths_1 rfl hl (by decide) rfl (fun ls hl => ?_)
  refine lv_iconst (v := 0) hx hb dX7_allStrengths_2 (by decide) ?_
  refine lv_istore_n (lv' := [(2, .int 0), (1, .int 0), (0, .ref (sk_ad g 88))]) hx hb dX7_allStrengths_3 rfl hl (by decide) rfl (fun ls hl => ?_)
  obtain ⟨x_4, h_5, h⟩ := sk_b1E h
  refine w_X7_allStrengths_L4 C M sk_FU 0 0 _ _ _ (lv_sub hl [2, 1, 0] rfl) hM hS h_5 (fun y_6 H locs ls he hl hM hS => ?_)
  obtain rfl := Option.some.inj he
  refine lv_iload_n hx hb dX7_allStrengths_28 rfl (lv_at hl 0 rfl) ?_
  exact sk_iret C hM hS ⟨Option.some.inj h, rfl⟩ dX7_allStrengths_29
theorem dX7_count_0 : decode cX7_count 0 = .ok (.iload_n 1, 1) := by decide +kernel
theorem dX7_count_1 : decode cX7_count 1 = .ok (.tableswitch 108 0 8 #[51, 58, 65, 72, 79, 84, 91, 96, 101], 51) := by decide +kernel
theorem dX7_count_52 : decode cX7_count 52 = .ok (.aload_n 0, 1) := by decide +kernel
theorem dX7_count_53 : decode cX7_count 53 = .ok (.getfield 7, 3) := by decide +kernel
theorem dX7_count_56 : decode cX7_count 56 = .ok (.iconst 0, 1) := by decide +kernel
theorem dX7_count_57 : decode cX7_count 57 = .ok (.iaload, 1) := by decide +kernel
theorem dX7_count_58 : decode cX7_count 58 = .ok (.ireturn, 1) := by decide +kernel
theorem dX7_count_59 : decode cX7_count 59 = .ok (.aload_n 0, 1) := by decide +kernel
theorem dX7_count_60 : decode cX7_count 60 = .ok (.getfield 7, 3) := by decide +kernel
theorem dX7_count_63 : decode cX7_count 63 = .ok (.iconst 1, 1) := by decide +kernel
theorem dX7_count_64 : decode cX7_count 64 = .ok (.iaload, 1) := by decide +kernel
theorem dX7_count_65 : decode cX7_count 65 = .ok (.ireturn, 1) := by decide +kernel
theorem dX7_count_66 : decode cX7_count 66 = .ok (.aload_n 0, 1) := by decide +kernel
theorem dX7_count_67 : decode cX7_count 67 = .ok (.getfield 7, 3) := by decide +kernel
theorem dX7_count_70 : decode cX7_count 70 = .ok (.iconst 2, 1) := by decide +kernel
theorem dX7_count_71 : decode cX7_count 71 = .ok (.iaload, 1) := by decide +kernel
theorem dX7_count_72 : decode cX7_count 72 = .ok (.ireturn, 1) := by decide +kernel
theorem dX7_count_73 : decode cX7_count 73 = .ok (.aload_n 0, 1) := by decide +kernel
theorem dX7_count_74 : decode cX7_count 74 = .ok (.getfield 7, 3) := by decide +kernel
theorem dX7_count_77 : decode cX7_count 77 = .ok (.iconst 4, 1) := by decide +kernel
theorem dX7_count_78 : decode cX7_count 78 = .ok (.iaload, 1) := by decide +kernel
theorem dX7_count_79 : decode cX7_count 79 = .ok (.ireturn, 1) := by decide +kernel
theorem dX7_count_80 : decode cX7_count 80 = .ok (.aload_n 0, 1) := by decide +kernel
theorem dX7_count_81 : decode cX7_count 81 = .ok (.invokevirtual 326, 3) := by decide +kernel
theorem dX7_count_84 : decode cX7_count 84 = .ok (.ireturn, 1) := by decide +kernel
theorem dX7_count_85 : decode cX7_count 85 = .ok (.aload_n 0, 1) := by decide +kernel
theorem dX7_count_86 : decode cX7_count 86 = .ok (.getfield 7, 3) := by decide +kernel
theorem dX7_count_89 : decode cX7_count 89 = .ok (.iconst 3, 1) := by decide +kernel
theorem dX7_count_90 : decode cX7_count 90 = .ok (.iaload, 1) := by decide +kernel
theorem dX7_count_91 : decode cX7_count 91 = .ok (.ireturn, 1) := by decide +kernel
theorem dX7_count_92 : decode cX7_count 92 = .ok (.aload_n 0, 1) := by decide +kernel
theorem dX7_count_93 : decode cX7_count 93 = .ok (.getfield 313, 3) := by decide +kernel
theorem dX7_count_96 : decode cX7_count 96 = .ok (.ireturn, 1) := by decide +kernel
theorem dX7_count_97 : decode cX7_count 97 = .ok (.aload_n 0, 1) := by decide +kernel
theorem dX7_count_98 : decode cX7_count 98 = .ok (.getfield 192, 3) := by decide +kernel
theorem dX7_count_101 : decode cX7_count 101 = .ok (.ireturn, 1) := by decide +kernel
theorem dX7_count_102 : decode cX7_count 102 = .ok (.aload_n 0, 1) := by decide +kernel
theorem dX7_count_103 : decode cX7_count 103 = .ok (.getfield 7, 3) := by decide +kernel
theorem dX7_count_106 : decode cX7_count 106 = .ok (.iconst 5, 1) := by decide +kernel
theorem dX7_count_107 : decode cX7_count 107 = .ok (.iaload, 1) := by decide +kernel
theorem dX7_count_108 : decode cX7_count 108 = .ok (.ireturn, 1) := by decide +kernel
theorem dX7_count_109 : decode cX7_count 109 = .ok (.ldc 80, 2) := by decide +kernel
theorem dX7_count_111 : decode cX7_count 111 = .ok (.ireturn, 1) := by decide +kernel
set_option maxHeartbeats 4000000 in
set_option maxRecDepth 100000 in
theorem c_X7_count (g : sk_G) (l : Launch) (a1 : Int32) (M : sk_M) {rr : Int32} (h : f_X7_count a1 M = some rr) : sk_MI g l yX7_count cX7_count 2 (some .int) 4 [.ref (sk_ad g 88), .int a1] M rr M := by
  refine sk_go [(0, .ref (sk_ad g 88)), (1, .int a1)] (by decide) (Nat.le_of_ble_eq_true rfl) rfl ?_
  intro p e s m av below meth c C ls hl hM hS
  obtain ⟨hx, hb, hml, hown, hts, hK, hE, hr, hlocks⟩ := id C
  rw [f_X7_count] at h
  refine lv_iload_n hx hb dX7_count_0 rfl (lv_at hl 1 rfl) ?_
  by_cases hk_1 : a1 = 0
  · refine lv_tableIn (off := 51) hx hb dX7_count_1 (by rw [hk_1]; decide) (by rw [hk_1]; decide) (by rw [hk_1]; rfl) rfl ?_
    have h := sk_pos h hk_1
    refine lv_aload_n hx hb dX7_count_52 rfl (lv_at hl 0 rfl) ?_
    refine sk_getR (o := 88) (ci := 7) (j := 0) (t := 89) C hM rfl rfl (by decide) rfl rfl kw_935 dX7_count_53 ?_
    refine lv_iconst (v := 0) hx hb dX7_count_56 (by decide) ?_
    refine sk_iald (o := 89) C hM rfl (by decide) dX7_count_57 ?_
    refine W.eq (g2 := F0 m 58 ls [.int (M 89 0)]) rfl ?_
    exact sk_iret C hM hS ⟨Option.some.inj h, rfl⟩ dX7_count_58
  have h := sk_neg h hk_1
  by_cases hk_2 : a1 = 1
  · refine lv_tableIn (off := 58) hx hb dX7_count_1 (by rw [hk_2]; decide) (by rw [hk_2]; decide) (by rw [hk_2]; rfl) rfl ?_
    have h := sk_pos h hk_2
    refine lv_aload_n hx hb dX7_count_59 rfl (lv_at hl 0 rfl) ?_
    refine sk_getR (o := 88) (ci := 7) (j := 0) (t := 89) C hM rfl rfl (by decide) rfl rfl kw_935 dX7_count_60 ?_
    refine lv_iconst (v := 1) hx hb dX7_count_63 (by decide) ?_
    refine sk_iald (o := 89) C hM rfl (by decide) dX7_count_64 ?_
    refine W.eq (g2 := F0 m 65 ls [.int (M 89 1)]) rfl ?_
    exact sk_iret C hM hS ⟨Option.some.inj h, rfl⟩ dX7_count_65
  have h := sk_neg h hk_2
  by_cases hk_3 : a1 = 2
  · refine lv_tableIn (off := 65) hx hb dX7_count_1 (by rw [hk_3]; decide) (by rw [hk_3]; decide) (by rw [hk_3]; rfl) rfl ?_
    have h := sk_pos h hk_3
    refine lv_aload_n hx hb dX7_count_66 rfl (lv_at hl 0 rfl) ?_
    refine sk_getR (o := 88) (ci := 7) (j := 0) (t := 89) C hM rfl rfl (by decide) rfl rfl kw_935 dX7_count_67 ?_
    refine lv_iconst (v := 2) hx hb dX7_count_70 (by decide) ?_
    refine sk_iald (o := 89) C hM rfl (by decide) dX7_count_71 ?_
    refine W.eq (g2 := F0 m 72 ls [.int (M 89 2)]) rfl ?_
    exact sk_iret C hM hS ⟨Option.some.inj h, rfl⟩ dX7_count_72
  have h := sk_neg h hk_3
  by_cases hk_4 : a1 = 3
  · refine lv_tableIn (off := 72) hx hb dX7_count_1 (by rw [hk_4]; decide) (by rw [hk_4]; decide) (by rw [hk_4]; rfl) rfl ?_
    have h := sk_pos h hk_4
    refine lv_aload_n hx hb dX7_count_73 rfl (lv_at hl 0 rfl) ?_
    refine sk_getR (o := 88) (ci := 7) (j := 0) (t := 89) C hM rfl rfl (by decide) rfl rfl kw_935 dX7_count_74 ?_
    refine lv_iconst (v := 4) hx hb dX7_count_77 (by decide) ?_
    refine sk_iald (o := 89) C hM rfl (by decide) dX7_count_78 ?_
    refine W.eq (g2 := F0 m 79 ls [.int (M 89 4)]) rfl ?_
    exact sk_iret C hM hS ⟨Option.some.inj h, rfl⟩ dX7_count_79
  have h := sk_neg h hk_4
  by_cases hk_7 : a1 = 4
  · refine lv_tableIn (off := 79) hx hb dX7_count_1 (by rw [hk_7]; decide) (by rw [hk_7]; decide) (by rw [hk_7]; rfl) rfl ?_
    have h := sk_pos h hk_7
    refine lv_aload_n hx hb dX7_count_80 rfl (lv_at hl 0 rfl) ?_
    obtain ⟨x_5, h_6, h⟩ := sk_b1E h
    refine sk_contI (sk_runV (As := []) (rest := []) C (c_X7_allStrengths g l  M h_6) yo_X7_allStrengths kw_1454 (sk_recv (ci := 7) C hM rfl rfl) (by decide) hM hS hl.1 rfl rfl (Nat.le_of_ble_eq_true rfl) dX7_count_81) hS (fun H locs hM hS => ?_)
    exact sk_iret C hM hS ⟨Option.some.inj h, rfl⟩ dX7_count_84
  have h := sk_neg h hk_7
  by_cases hk_8 : a1 = 5
  · refine lv_tableIn (off := 84) hx hb dX7_count_1 (by rw [hk_8]; decide) (by rw [hk_8]; decide) (by rw [hk_8]; rfl) rfl ?_
    have h := sk_pos h hk_8
    refine lv_aload_n hx hb dX7_count_85 rfl (lv_at hl 0 rfl) ?_
    refine sk_getR (o := 88) (ci := 7) (j := 0) (t := 89) C hM rfl rfl (by decide) rfl rfl kw_935 dX7_count_86 ?_
    refine lv_iconst (v := 3) hx hb dX7_count_89 (by decide) ?_
    refine sk_iald (o := 89) C hM rfl (by decide) dX7_count_90 ?_
    refine W.eq (g2 := F0 m 91 ls [.int (M 89 3)]) rfl ?_
    exact sk_iret C hM hS ⟨Option.some.inj h, rfl⟩ dX7_count_91
  have h := sk_neg h hk_8
  by_cases hk_9 : a1 = 6
  · refine lv_tableIn (off := 91) hx hb dX7_count_1 (by rw [hk_9]; decide) (by rw [hk_9]; decide) (by rw [hk_9]; rfl) rfl ?_
    have h := sk_pos h hk_9
    refine lv_aload_n hx hb dX7_count_92 rfl (lv_at hl 0 rfl) ?_
    refine sk_getI (o := 88) (ci := 7) (j := 31) C hM rfl rfl (by decide) rfl kw_966 dX7_count_93 ?_
    exact sk_iret C hM hS ⟨Option.some.inj h, rfl⟩ dX7_count_96
  have h := sk_neg h hk_9
  by_cases hk_10 : a1 = 7
  · refine lv_tableIn (off := 96) hx hb dX7_count_1 (by rw [hk_10]; decide) (by rw [hk_10]; decide) (by rw [hk_10]; rfl) rfl ?_
    have h := sk_pos h hk_10
    refine lv_aload_n hx hb dX7_count_97 rfl (lv_at hl 0 rfl) ?_
    refine sk_getI (o := 88) (ci := 7) (j := 15) C hM rfl rfl (by decide) rfl kw_950 dX7_count_98 ?_
    exact sk_iret C hM hS ⟨Option.some.inj h, rfl⟩ dX7_count_101
  have h := sk_neg h hk_10
  by_cases hk_11 : a1 = 8
  · refine lv_tableIn (off := 101) hx hb dX7_count_1 (by rw [hk_11]; decide) (by rw [hk_11]; decide) (by rw [hk_11]; rfl) rfl ?_
    have h := sk_pos h hk_11
    refine lv_aload_n hx hb dX7_count_102 rfl (lv_at hl 0 rfl) ?_
    refine sk_getR (o := 88) (ci := 7) (j := 0) (t := 89) C hM rfl rfl (by decide) rfl rfl kw_935 dX7_count_103 ?_
    refine lv_iconst (v := 5) hx hb dX7_count_106 (by decide) ?_
    refine sk_iald (o := 89) C hM rfl (by decide) dX7_count_107 ?_
    refine W.eq (g2 := F0 m 108 ls [.int (M 89 5)]) rfl ?_
    exact sk_iret C hM hS ⟨Option.some.inj h, rfl⟩ dX7_count_108
  have h := sk_neg h hk_11
  refine lv_tableOut hx hb dX7_count_1 (by have zhk_1 := sk_tn hk_1 (z := 0) rfl; have zhk_2 := sk_tn hk_2 (z := 1) rfl; have zhk_3 := sk_tn hk_3 (z := 2) rfl; have zhk_4 := sk_tn hk_4 (z := 3) rfl; have zhk_7 := sk_tn hk_7 (z := 4) rfl; have zhk_8 := sk_tn hk_8 (z := 5) rfl; have zhk_9 := sk_tn hk_9 (z := 6) rfl; have zhk_10 := sk_tn hk_10 (z := 7) rfl; have zhk_11 := sk_tn hk_11 (z := 8) rfl; omega) rfl ?_
  refine lv_ldc (v := (-1000000001)) hx hb hown (hts _ kw_1044) dX7_count_109 ?_
  exact sk_iret C hM hS ⟨Option.some.inj h, rfl⟩ dX7_count_111
