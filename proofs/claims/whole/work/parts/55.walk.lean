theorem dX7_lie_0 : decode cX7_lie 0 = .ok (.aload_n 0, 1) := by decide +kernel
theorem dX7_lie_1 : decode cX7_lie 1 = .ok (.iload_n 1, 1) := by decide +kernel
theorem dX7_lie_2 : decode cX7_lie 2 = .ok (.invokevirtual 138, 3) := by decide +kernel
theorem dX7_lie_5 : decode cX7_lie 5 = .ok (.ifCond .ne 6, 3) := by decide +kernel
theorem dX7_lie_8 : decode cX7_lie 8 = .ok (.ldc 80, 2) := by decide +kernel
theorem dX7_lie_10 : decode cX7_lie 10 = .ok (.ireturn, 1) := by decide +kernel
theorem dX7_lie_11 : decode cX7_lie 11 = .ok (.aload_n 0, 1) := by decide +kernel
theorem dX7_lie_12 : decode cX7_lie 12 = .ok (.iconst 2, 1) := by decide +kernel
theorem dX7_lie_13 : decode cX7_lie 13 = .ok (.invokevirtual 90, 3) := by decide +kernel
theorem dX7_lie_16 : decode cX7_lie 16 = .ok (.istore_n 2, 1) := by decide +kernel
theorem dX7_lie_17 : decode cX7_lie 17 = .ok (.iload_n 2, 1) := by decide +kernel
theorem dX7_lie_18 : decode cX7_lie 18 = .ok (.ifCond .ge 5, 3) := by decide +kernel
theorem dX7_lie_21 : decode cX7_lie 21 = .ok (.iconst 0, 1) := by decide +kernel
theorem dX7_lie_22 : decode cX7_lie 22 = .ok (.ireturn, 1) := by decide +kernel
theorem dX7_lie_23 : decode cX7_lie 23 = .ok (.aload_n 0, 1) := by decide +kernel
theorem dX7_lie_24 : decode cX7_lie 24 = .ok (.getfield 52, 3) := by decide +kernel
theorem dX7_lie_27 : decode cX7_lie 27 = .ok (.bipush 100, 2) := by decide +kernel
theorem dX7_lie_29 : decode cX7_lie 29 = .ok (.aload_n 0, 1) := by decide +kernel
theorem dX7_lie_30 : decode cX7_lie 30 = .ok (.getfield 7, 3) := by decide +kernel
theorem dX7_lie_33 : decode cX7_lie 33 = .ok (.iconst 4, 1) := by decide +kernel
theorem dX7_lie_34 : decode cX7_lie 34 = .ok (.iaload, 1) := by decide +kernel
theorem dX7_lie_35 : decode cX7_lie 35 = .ok (.iastore, 1) := by decide +kernel
theorem dX7_lie_36 : decode cX7_lie 36 = .ok (.aload_n 0, 1) := by decide +kernel
theorem dX7_lie_37 : decode cX7_lie 37 = .ok (.getfield 52, 3) := by decide +kernel
theorem dX7_lie_40 : decode cX7_lie 40 = .ok (.bipush 110, 2) := by decide +kernel
theorem dX7_lie_42 : decode cX7_lie 42 = .ok (.aload_n 0, 1) := by decide +kernel
theorem dX7_lie_43 : decode cX7_lie 43 = .ok (.iload_n 1, 1) := by decide +kernel
theorem dX7_lie_44 : decode cX7_lie 44 = .ok (.invokevirtual 189, 3) := by decide +kernel
theorem dX7_lie_47 : decode cX7_lie 47 = .ok (.iastore, 1) := by decide +kernel
theorem dX7_lie_48 : decode cX7_lie 48 = .ok (.aload_n 0, 1) := by decide +kernel
theorem dX7_lie_49 : decode cX7_lie 49 = .ok (.iload_n 2, 1) := by decide +kernel
theorem dX7_lie_50 : decode cX7_lie 50 = .ok (.invokevirtual 94, 3) := by decide +kernel
theorem dX7_lie_53 : decode cX7_lie 53 = .ok (.ireturn, 1) := by decide +kernel
set_option maxHeartbeats 4000000 in
set_option maxRecDepth 100000 in
theorem c_X7_lie (g : sk_G) (l : Launch) (a1 : Int32) (M : sk_M) {rr : Int32} {MM : sk_M} (h : f_X7_lie a1 M = some (rr, MM)) : sk_MI g l yX7_lie cX7_lie 3 (some .int) 5 [.ref (sk_ad g 88), .int a1] M rr MM := by
  refine sk_go [(0, .ref (sk_ad g 88)), (1, .int a1)] (by decide) (Nat.le_of_ble_eq_true rfl) rfl ?_
  intro p e s m av below meth c C ls hl hM hS
  obtain ⟨hx, hb, hml, hown, hts, hK, hE, hr, hlocks⟩ := id C
  rw [f_X7_lie] at h
  refine lv_aload_n hx hb dX7_lie_0 rfl (lv_at hl 0 rfl) ?_
  refine lv_iload_n hx hb dX7_lie_1 rfl (lv_at hl 1 rfl) ?_
  refine sk_contI (sk_runV (As := [.int a1]) (rest := []) C (c_X7_isCloth g l a1 M rfl) yo_X7_isCloth kw_1133 (sk_recv (ci := 7) C hM rfl rfl) (by decide) hM hS hl.1 rfl rfl (Nat.le_of_ble_eq_true rfl) dX7_lie_2) hS (fun H locs hM hS => ?_)
  refine lv_if_ne hx hb dX7_lie_5 rfl (fun hc => ?_) (fun hc => ?_)
  · have h := sk_neg h hc
    refine lv_aload_n hx hb dX7_lie_11 rfl (lv_at hl 0 rfl) ?_
    refine lv_iconst (v := 2) hx hb dX7_lie_12 (by decide) ?_
    obtain ⟨x_2, h_3, h⟩ := sk_b1E h
    refine sk_contI (sk_runV (As := [.int 2]) (rest := []) C (c_X7_counts g l 2 M h_3) yo_X7_counts kw_1153 (sk_recv (ci := 7) C hM rfl rfl) (by decide) hM hS hl.1 rfl rfl (Nat.le_of_ble_eq_true rfl) dX7_lie_13) hS (fun H locs hM hS => ?_)
    refine lv_istore_n (lv' := [(2, .int x_2), (0, .ref (sk_ad g 88)), (1, .int a1)]) hx hb dX7_lie_16 rfl hl (by decide) rfl (fun ls hl => ?_)
    refine lv_iload_n hx hb dX7_lie_17 rfl (lv_at hl 0 rfl) ?_
    refine lv_if_ge hx hb dX7_lie_18 rfl (fun hc => ?_) (fun hc => ?_)
    · have h := sk_pos h hc
      refine lv_aload_n hx hb dX7_lie_23 rfl (lv_at hl 1 rfl) ?_
      refine sk_getR (o := 88) (ci := 7) (j := 26) (t := 103) C hM rfl rfl (by decide) rfl rfl kw_961 dX7_lie_24 ?_
      refine lv_bipush (v := 100) hx hb dX7_lie_27 (by decide) ?_
      refine lv_aload_n hx hb dX7_lie_29 rfl (lv_at hl 1 rfl) ?_
      refine sk_getR (o := 88) (ci := 7) (j := 0) (t := 89) C hM rfl rfl (by decide) rfl rfl kw_935 dX7_lie_30 ?_
      refine lv_iconst (v := 4) hx hb dX7_lie_33 (by decide) ?_
      refine sk_iald (o := 89) C hM rfl (by decide) dX7_lie_34 ?_
      refine W.eq (g2 := F0 m 35 ls [.int (M 89 4), .int 100, .ref (sk_ad g 103)]) rfl ?_
      refine sk_iast (o := 103) C hM hS rfl (by decide) dX7_lie_35 (fun M_4 eM_4 H locs hM hS => ?_)
      have h := sk_letU h eM_4
      refine lv_aload_n hx hb dX7_lie_36 rfl (lv_at hl 1 rfl) ?_
      refine sk_getR (o := 88) (ci := 7) (j := 26) (t := 103) C hM rfl rfl (by decide) rfl rfl kw_961 dX7_lie_37 ?_
      refine lv_bipush (v := 110) hx hb dX7_lie_40 (by decide) ?_
      refine lv_aload_n hx hb dX7_lie_42 rfl (lv_at hl 1 rfl) ?_
      refine lv_iload_n hx hb dX7_lie_43 rfl (lv_at hl 2 rfl) ?_
      obtain ⟨x_5, h_6, h⟩ := sk_b1E h
      refine sk_contI (sk_runV (As := [.int a1]) (rest := [.int 110, .ref (sk_ad g 103)]) C (c_X7_saidOr g l a1 M_4 h_6) yo_X7_saidOr kw_1284 (sk_recv (ci := 7) C hM rfl rfl) (by decide) hM hS hl.1 rfl rfl (Nat.le_of_ble_eq_true rfl) dX7_lie_44) hS (fun H locs hM hS => ?_)
      refine sk_iast (o := 103) C hM hS rfl (by decide) dX7_lie_47 (fun M_7 eM_7 H locs hM hS => ?_)
      have h := sk_letU h eM_7
      refine lv_aload_n hx hb dX7_lie_48 rfl (lv_at hl 1 rfl) ?_
      refine lv_iload_n hx hb dX7_lie_49 rfl (lv_at hl 0 rfl) ?_
      obtain ⟨x_8, M_9, h_10, h⟩ := sk_b2E h
      refine sk_contI (sk_runV (As := [.int x_2]) (rest := []) C (c_X7_worked g l x_2 M_7 h_10) yo_X7_worked kw_1161 (sk_recv (ci := 7) C hM rfl rfl) (by decide) hM hS hl.1 rfl rfl (Nat.le_of_ble_eq_true rfl) dX7_lie_50) hS (fun H locs hM hS => ?_)
      exact sk_iret C hM hS (sk_e2 h) dX7_lie_53
    · have h := sk_neg h hc
      refine lv_iconst (v := 0) hx hb dX7_lie_21 (by decide) ?_
      exact sk_iret C hM hS (sk_e2 h) dX7_lie_22
  · have h := sk_pos h hc
    refine lv_ldc (v := (-1000000001)) hx hb hown (hts _ kw_1044) dX7_lie_8 ?_
    exact sk_iret C hM hS (sk_e2 h) dX7_lie_10
theorem dX7_feed_0 : decode cX7_feed 0 = .ok (.aload_n 0, 1) := by decide +kernel
theorem dX7_feed_1 : decode cX7_feed 1 = .ok (.getfield 192, 3) := by decide +kernel
theorem dX7_feed_4 : decode cX7_feed 4 = .ok (.bipush 12, 2) := by decide +kernel
theorem dX7_feed_6 : decode cX7_feed 6 = .ok (.iadd, 1) := by decide +kernel
theorem dX7_feed_7 : decode cX7_feed 7 = .ok (.bipush 96, 2) := by decide +kernel
theorem dX7_feed_9 : decode cX7_feed 9 = .ok (.if_icmp .le 6, 3) := by decide +kernel
theorem dX7_feed_12 : decode cX7_feed 12 = .ok (.ldc 81, 2) := by decide +kernel
theorem dX7_feed_14 : decode cX7_feed 14 = .ok (.ireturn, 1) := by decide +kernel
theorem dX7_feed_15 : decode cX7_feed 15 = .ok (.iconst 0, 1) := by decide +kernel
theorem dX7_feed_16 : decode cX7_feed 16 = .ok (.istore 4, 2) := by decide +kernel
theorem dX7_feed_18 : decode cX7_feed 18 = .ok (.iload 4, 2) := by decide +kernel
theorem dX7_feed_20 : decode cX7_feed 20 = .ok (.bipush 12, 2) := by decide +kernel
theorem dX7_feed_22 : decode cX7_feed 22 = .ok (.if_icmp .ge 69, 3) := by decide +kernel
theorem dX7_feed_25 : decode cX7_feed 25 = .ok (.iload 4, 2) := by decide +kernel
theorem dX7_feed_27 : decode cX7_feed 27 = .ok (.iconst 4, 1) := by decide +kernel
theorem dX7_feed_28 : decode cX7_feed 28 = .ok (.if_icmp .ge 7, 3) := by decide +kernel
theorem dX7_feed_31 : decode cX7_feed 31 = .ok (.iload_n 1, 1) := by decide +kernel
theorem dX7_feed_32 : decode cX7_feed 32 = .ok (.goto 15, 3) := by decide +kernel
theorem dX7_feed_35 : decode cX7_feed 35 = .ok (.iload 4, 2) := by decide +kernel
theorem dX7_feed_37 : decode cX7_feed 37 = .ok (.bipush 8, 2) := by decide +kernel
theorem dX7_feed_39 : decode cX7_feed 39 = .ok (.if_icmp .ge 7, 3) := by decide +kernel
theorem dX7_feed_42 : decode cX7_feed 42 = .ok (.iload_n 2, 1) := by decide +kernel
theorem dX7_feed_43 : decode cX7_feed 43 = .ok (.goto 4, 3) := by decide +kernel
theorem dX7_feed_46 : decode cX7_feed 46 = .ok (.iload_n 3, 1) := by decide +kernel
theorem dX7_feed_47 : decode cX7_feed 47 = .ok (.istore 5, 2) := by decide +kernel
theorem dX7_feed_49 : decode cX7_feed 49 = .ok (.aload_n 0, 1) := by decide +kernel
theorem dX7_feed_50 : decode cX7_feed 50 = .ok (.getfield 49, 3) := by decide +kernel
theorem dX7_feed_53 : decode cX7_feed 53 = .ok (.aload_n 0, 1) := by decide +kernel
theorem dX7_feed_54 : decode cX7_feed 54 = .ok (.getfield 192, 3) := by decide +kernel
theorem dX7_feed_57 : decode cX7_feed 57 = .ok (.iload 5, 2) := by decide +kernel
theorem dX7_feed_59 : decode cX7_feed 59 = .ok (.bipush 24, 2) := by decide +kernel
theorem dX7_feed_61 : decode cX7_feed 61 = .ok (.bipush 8, 2) := by decide +kernel
theorem dX7_feed_63 : decode cX7_feed 63 = .ok (.iload 4, 2) := by decide +kernel
theorem dX7_feed_65 : decode cX7_feed 65 = .ok (.iconst 4, 1) := by decide +kernel
theorem dX7_feed_66 : decode cX7_feed 66 = .ok (.irem, 1) := by decide +kernel
theorem dX7_feed_67 : decode cX7_feed 67 = .ok (.imul, 1) := by decide +kernel
theorem dX7_feed_68 : decode cX7_feed 68 = .ok (.isub, 1) := by decide +kernel
theorem dX7_feed_69 : decode cX7_feed 69 = .ok (.ishr, 1) := by decide +kernel
theorem dX7_feed_70 : decode cX7_feed 70 = .ok (.sipush 255, 3) := by decide +kernel
theorem dX7_feed_73 : decode cX7_feed 73 = .ok (.iand, 1) := by decide +kernel
theorem dX7_feed_74 : decode cX7_feed 74 = .ok (.iastore, 1) := by decide +kernel
theorem dX7_feed_75 : decode cX7_feed 75 = .ok (.aload_n 0, 1) := by decide +kernel
theorem dX7_feed_76 : decode cX7_feed 76 = .ok (.dup, 1) := by decide +kernel
theorem dX7_feed_77 : decode cX7_feed 77 = .ok (.getfield 192, 3) := by decide +kernel
theorem dX7_feed_80 : decode cX7_feed 80 = .ok (.iconst 1, 1) := by decide +kernel
theorem dX7_feed_81 : decode cX7_feed 81 = .ok (.iadd, 1) := by decide +kernel
theorem dX7_feed_82 : decode cX7_feed 82 = .ok (.putfield 192, 3) := by decide +kernel
theorem dX7_feed_85 : decode cX7_feed 85 = .ok (.iinc 4 1, 3) := by decide +kernel
theorem dX7_feed_88 : decode cX7_feed 88 = .ok (.goto (-70), 3) := by decide +kernel
theorem dX7_feed_91 : decode cX7_feed 91 = .ok (.aload_n 0, 1) := by decide +kernel
theorem dX7_feed_92 : decode cX7_feed 92 = .ok (.getfield 192, 3) := by decide +kernel
theorem dX7_feed_95 : decode cX7_feed 95 = .ok (.ireturn, 1) := by decide +kernel
set_option maxHeartbeats 4000000 in
set_option maxRecDepth 100000 in
theorem w_X7_feed_L18 {g : sk_G} {l : Launch} {p : Program} {e : Env} {s : State} {m : MethodId} {av : Array Value} {below : List Frame} {meth : Method} {c : Code} (C : sk_C g p s m av meth c cX7_feed 6 RX7 (some .int)) (a1 : Int32) (a2 : Int32) (a3 : Int32) {rr : Int32} {MM : sk_M} :
    ∀ (n : Nat) (a4 : Int32) (M : sk_M) (H : Heap) (locs : List Loc) (ls : Array Slot), lv_has ls 6 [(0, .ref (sk_ad g 88)), (1, .int a1), (2, .int a2), (3, .int a3), (4, .int a4)] → sk_P g M H → va_S (sk_A g) s.heap H locs → ∀ {out : sk_M}, f_X7_feed_L18 a1 a2 a3 n a4 M = some out → (∀ (M1 : sk_M) (H : Heap) (locs : List Loc) (ls : Array Slot), some M1 = some out → lv_has ls 6 [(0, .ref (sk_ad g 88))] → sk_P g M1 H → va_S (sk_A g) s.heap H locs → W p l e (sk_rm 1) s m av below meth c H locs 0 0 (MQ below (sk_QI g rr MM) av s 0 0 (sk_A g)) (F0 m 91 ls [])) → W p l e (sk_rm 1) s m av below meth c H locs 0 0 (MQ below (sk_QI g rr MM) av s 0 0 (sk_A g)) (F0 m 18 ls []) := by
  obtain ⟨hx, hb, hml, hown, hts, hK, hE, hr, hlocks⟩ := id C
  intro n
  induction n with
  | zero =>
    intro a4 M H locs ls hl hM hS out h
    cases h
  | succ n ih =>
    intro a4 M H locs ls hl hM hS out h kx
    rw [f_X7_feed_L18] at h
    refine lv_iload hx hb dX7_feed_18 (lv_at hl 4 rfl) ?_
    refine lv_bipush (v := 12) hx hb dX7_feed_20 (by decide) ?_
    refine lv_icmp_ge hx hb dX7_feed_22 rfl (fun hc => ?_) (fun hc => ?_)
    · have h := sk_pos h hc
      exact kx _ _ _ _ h (lv_sub hl [0] rfl) hM hS
    · have h := sk_neg h hc
      refine lv_iload hx hb dX7_feed_25 (lv_at hl 4 rfl) ?_
      refine lv_iconst (v := 4) hx hb dX7_feed_27 (by decide) ?_
      have J : ∀ (vv : Int32) (H : Heap) (locs : List Loc), (if 4 ≤ a4 then (if 8 ≤ a4 then a3 else a2 : Int32) else a1 : Int32) = vv → sk_P g M H → va_S (sk_A g) s.heap H locs → W p l e (sk_rm 1) s m av below meth c H locs 0 0 (MQ below (sk_QI g rr MM) av s 0 0 (sk_A g)) (F0 m 47 ls [.int vv]) := by
        intro vv H locs hvv hM hS
        subst hvv
        refine lv_topi (fun x_1 ex_1 => ?_)
        have h := sk_letU h ex_1
        refine lv_istore (lv' := [(5, .int x_1), (0, .ref (sk_ad g 88)), (1, .int a1), (2, .int a2), (3, .int a3), (4, .int a4)]) hx hb dX7_feed_47 hl (by decide) rfl (fun ls hl => ?_)
        refine lv_aload_n hx hb dX7_feed_49 rfl (lv_at hl 1 rfl) ?_
        refine sk_getR (o := 88) (ci := 7) (j := 14) (t := 102) C hM rfl rfl (by decide) rfl rfl kw_949 dX7_feed_50 ?_
        refine lv_aload_n hx hb dX7_feed_53 rfl (lv_at hl 1 rfl) ?_
        refine sk_getI (o := 88) (ci := 7) (j := 15) C hM rfl rfl (by decide) rfl kw_950 dX7_feed_54 ?_
        refine lv_iload hx hb dX7_feed_57 (lv_at hl 0 rfl) ?_
        refine lv_bipush (v := 24) hx hb dX7_feed_59 (by decide) ?_
        refine lv_bipush (v := 8) hx hb dX7_feed_61 (by decide) ?_
        refine lv_iload hx hb dX7_feed_63 (lv_at hl 5 rfl) ?_
        refine lv_iconst (v := 4) hx hb dX7_feed_65 (by decide) ?_
        refine lv_irem hx hb dX7_feed_66 (by decide) ?_
        refine lv_imul hx hb dX7_feed_67 ?_
        refine lv_isub hx hb dX7_feed_68 ?_
        refine lv_ishr hx hb dX7_feed_69 ?_
        refine lv_sipush (v := 255) hx hb dX7_feed_70 (by decide) ?_
        refine lv_iand hx hb dX7_feed_73 ?_
        obtain ⟨i_2, h⟩ := sk_chkE h
        refine sk_iast (o := 102) C hM hS rfl i_2 dX7_feed_74 (fun M_3 eM_3 H locs hM hS => ?_)
        have h := sk_letU h eM_3
        refine lv_aload_n hx hb dX7_feed_75 rfl (lv_at hl 1 rfl) ?_
        refine lv_dup hx hb dX7_feed_76 rfl ?_
        refine sk_getI (o := 88) (ci := 7) (j := 15) C hM rfl rfl (by decide) rfl kw_950 dX7_feed_77 ?_
        refine lv_iconst (v := 1) hx hb dX7_feed_80 (by decide) ?_
        refine lv_iadd hx hb dX7_feed_81 ?_
        refine sk_putI (o := 88) (ci := 7) (j := 15) C hM hS rfl rfl (by decide) rfl rfl (tyX7_ok 15 (by decide)) kw_950 dX7_feed_82 (fun M_4 eM_4 H locs hM hS => ?_)
        have h := sk_letU h eM_4
        refine lv_iinc (v := (a4 + 1)) (lv' := [(4, .int (a4 + 1)), (5, .int x_1), (0, .ref (sk_ad g 88)), (1, .int a1), (2, .int a2), (3, .int a3)]) hx hb dX7_feed_85 hl (k := 5) rfl rfl (by decide) rfl (fun ls hl => ?_)
        refine lv_goto hx hb dX7_feed_88 rfl ?_
        exact ih (a4 + 1) M_4 _ _ _ (lv_sub hl [2, 3, 4, 5, 0] rfl) hM hS h kx
      refine lv_icmp_ge hx hb dX7_feed_28 rfl (fun hc => ?_) (fun hc => ?_)
      · have J := fun vv H locs q => J vv H locs ((if_pos hc).trans q)
        refine lv_iload hx hb dX7_feed_35 (lv_at hl 4 rfl) ?_
        refine lv_bipush (v := 8) hx hb dX7_feed_37 (by decide) ?_
        refine lv_icmp_ge hx hb dX7_feed_39 rfl (fun hc => ?_) (fun hc => ?_)
        · have J := fun vv H locs q => J vv H locs ((if_pos hc).trans q)
          refine lv_iload_n hx hb dX7_feed_46 rfl (lv_at hl 3 rfl) ?_
          exact J _ _ _ rfl hM hS
        · have J := fun vv H locs q => J vv H locs ((if_neg hc).trans q)
          refine lv_iload_n hx hb dX7_feed_42 rfl (lv_at hl 2 rfl) ?_
          refine lv_goto hx hb dX7_feed_43 rfl ?_
          exact J _ _ _ rfl hM hS
      · have J := fun vv H locs q => J vv H locs ((if_neg hc).trans q)
        refine lv_iload_n hx hb dX7_feed_31 rfl (lv_at hl 1 rfl) ?_
        refine lv_goto hx hb dX7_feed_32 rfl ?_
        exact J _ _ _ rfl hM hS
set_option maxHeartbeats 4000000 in
set_option maxRecDepth 100000 in
theorem c_X7_feed (g : sk_G) (l : Launch) (a1 : Int32) (a2 : Int32) (a3 : Int32) (M : sk_M) {rr : Int32} {MM : sk_M} (h : f_X7_feed a1 a2 a3 M = some (rr, MM)) : sk_MI g l yX7_feed cX7_feed 6 (some .int) 1 [.ref (sk_ad g 88), .int a1, .int a2, .int a3] M rr MM := by
  refine sk_go [(0, .ref (sk_ad g 88)), (1, .int a1), (2, .int a2), (3, .int a3)] (by decide) (Nat.le_of_ble_eq_true rfl) rfl ?_
  intro p e s m av below meth c C ls hl hM hS
  obtain ⟨hx, hb, hml, hown, hts, hK, hE, hr, hlocks⟩ := id C
  rw [f_X7_feed] at h
  refine lv_aload_n hx hb dX7_feed_0 rfl (lv_at hl 0 rfl) ?_
  refine sk_getI (o := 88) (ci := 7) (j := 15) C hM rfl rfl (by decide) rfl kw_950 dX7_feed_1 ?_
  refine lv_bipush (v := 12) hx hb dX7_feed_4 (by decide) ?_
  refine lv_iadd hx hb dX7_feed_6 ?_
  refine lv_bipush (v := 96) hx hb dX7_feed_7 (by decide) ?_
  refine lv_icmp_le hx hb dX7_feed_9 rfl (fun hc => ?_) (fun hc => ?_)
  · have h := sk_pos h hc
    refine lv_iconst (v := 0) hx hb dX7_feed_15 (by decide) ?_
    refine lv_istore (lv' := [(4, .int 0), (0, .ref (sk_ad g 88)), (1, .int a1), (2, .int a2), (3, .int a3)]) hx hb dX7_feed_16 hl (by decide) rfl (fun ls hl => ?_)
    obtain ⟨M_5, h_6, h⟩ := sk_b1E h
    refine w_X7_feed_L18 C a1 a2 a3 sk_FU 0 M _ _ _ (lv_sub hl [1, 2, 3, 4, 0] rfl) hM hS h_6 (fun y_7 H locs ls he hl hM hS => ?_)
    obtain rfl := Option.some.inj he
    refine lv_aload_n hx hb dX7_feed_91 rfl (lv_at hl 0 rfl) ?_
    refine sk_getI (o := 88) (ci := 7) (j := 15) C hM rfl rfl (by decide) rfl kw_950 dX7_feed_92 ?_
    exact sk_iret C hM hS (sk_e2 h) dX7_feed_95
  · have h := sk_neg h hc
    refine lv_ldc (v := (-1000000003)) hx hb hown (hts _ kw_1045) dX7_feed_12 ?_
    exact sk_iret C hM hS (sk_e2 h) dX7_feed_14
theorem dX7_trim_0 : decode cX7_trim 0 = .ok (.iload_n 1, 1) := by decide +kernel
theorem dX7_trim_1 : decode cX7_trim 1 = .ok (.i2l, 1) := by decide +kernel
theorem dX7_trim_2 : decode cX7_trim 2 = .ok (.lconst 0, 1) := by decide +kernel
theorem dX7_trim_3 : decode cX7_trim 3 = .ok (.aload_n 0, 1) := by decide +kernel
theorem dX7_trim_4 : decode cX7_trim 4 = .ok (.getfield 192, 3) := by decide +kernel
theorem dX7_trim_7 : decode cX7_trim 7 = .ok (.i2l, 1) := by decide +kernel
theorem dX7_trim_8 : decode cX7_trim 8 = .ok (.invokestatic 71, 3) := by decide +kernel
theorem dX7_trim_11 : decode cX7_trim 11 = .ok (.ifCond .ne 6, 3) := by decide +kernel
theorem dX7_trim_14 : decode cX7_trim 14 = .ok (.ldc 80, 2) := by decide +kernel
theorem dX7_trim_16 : decode cX7_trim 16 = .ok (.ireturn, 1) := by decide +kernel
theorem dX7_trim_17 : decode cX7_trim 17 = .ok (.aload_n 0, 1) := by decide +kernel
theorem dX7_trim_18 : decode cX7_trim 18 = .ok (.iload_n 1, 1) := by decide +kernel
theorem dX7_trim_19 : decode cX7_trim 19 = .ok (.putfield 192, 3) := by decide +kernel
theorem dX7_trim_22 : decode cX7_trim 22 = .ok (.iload_n 1, 1) := by decide +kernel
theorem dX7_trim_23 : decode cX7_trim 23 = .ok (.ireturn, 1) := by decide +kernel
set_option maxHeartbeats 4000000 in
set_option maxRecDepth 100000 in
theorem c_X7_trim (g : sk_G) (l : Launch) (a1 : Int32) (M : sk_M) {rr : Int32} {MM : sk_M} (h : f_X7_trim a1 M = some (rr, MM)) : sk_MI g l yX7_trim cX7_trim 2 (some .int) 2 [.ref (sk_ad g 88), .int a1] M rr MM := by
  refine sk_go [(0, .ref (sk_ad g 88)), (1, .int a1)] (by decide) (Nat.le_of_ble_eq_true rfl) rfl ?_
  intro p e s m av below meth c C ls hl hM hS
  obtain ⟨hx, hb, hml, hown, hts, hK, hE, hr, hlocks⟩ := id C
  rw [f_X7_trim] at h
  refine lv_iload_n hx hb dX7_trim_0 rfl (lv_at hl 1 rfl) ?_
  refine lv_i2l (v := a1.toInt64) hx hb dX7_trim_1 rfl ?_
  refine lv_lconst (v := 0) hx hb dX7_trim_2 (by decide) ?_
  refine lv_aload_n hx hb dX7_trim_3 rfl (lv_at hl 0 rfl) ?_
  refine sk_getI (o := 88) (ci := 7) (j := 15) C hM rfl rfl (by decide) rfl kw_950 dX7_trim_4 ?_
  refine lv_i2l (v := ((M 88 15)).toInt64) hx hb dX7_trim_7 rfl ?_
  refine sk_contI (sk_runS (As := [.long (a1.toInt64), .long 0, .long (((M 88 15)).toInt64)]) (rest := []) C (c_X7_isIn g l (a1.toInt64) 0 (((M 88 15)).toInt64) M rfl) yo_X7_isIn kw_1040 (by decide) hM hS hl.1 rfl rfl (Nat.le_of_ble_eq_true rfl) dX7_trim_8) hS (fun H locs hM hS => ?_)
  refine lv_if_ne hx hb dX7_trim_11 rfl (fun hc => ?_) (fun hc => ?_)
  · have h := sk_neg h hc
    refine lv_aload_n hx hb dX7_trim_17 rfl (lv_at hl 0 rfl) ?_
    refine lv_iload_n hx hb dX7_trim_18 rfl (lv_at hl 1 rfl) ?_
    refine sk_putI (o := 88) (ci := 7) (j := 15) C hM hS rfl rfl (by decide) rfl rfl (tyX7_ok 15 (by decide)) kw_950 dX7_trim_19 (fun M_2 eM_2 H locs hM hS => ?_)
    have h := sk_letU h eM_2
    refine lv_iload_n hx hb dX7_trim_22 rfl (lv_at hl 1 rfl) ?_
    exact sk_iret C hM hS (sk_e2 h) dX7_trim_23
  · have h := sk_pos h hc
    refine lv_ldc (v := (-1000000001)) hx hb hown (hts _ kw_1044) dX7_trim_14 ?_
    exact sk_iret C hM hS (sk_e2 h) dX7_trim_16
theorem dX7_isLetter_0 : decode cX7_isLetter 0 = .ok (.iload_n 1, 1) := by decide +kernel
theorem dX7_isLetter_1 : decode cX7_isLetter 1 = .ok (.aload_n 0, 1) := by decide +kernel
theorem dX7_isLetter_2 : decode cX7_isLetter 2 = .ok (.getfield 192, 3) := by decide +kernel
theorem dX7_isLetter_5 : decode cX7_isLetter 5 = .ok (.if_icmp .ge 26, 3) := by decide +kernel
theorem dX7_isLetter_8 : decode cX7_isLetter 8 = .ok (.aload_n 0, 1) := by decide +kernel
theorem dX7_isLetter_9 : decode cX7_isLetter 9 = .ok (.getfield 49, 3) := by decide +kernel
theorem dX7_isLetter_12 : decode cX7_isLetter 12 = .ok (.iload_n 1, 1) := by decide +kernel
theorem dX7_isLetter_13 : decode cX7_isLetter 13 = .ok (.iaload, 1) := by decide +kernel
theorem dX7_isLetter_14 : decode cX7_isLetter 14 = .ok (.i2l, 1) := by decide +kernel
theorem dX7_isLetter_15 : decode cX7_isLetter 15 = .ok (.ldc2_w 196, 3) := by decide +kernel
theorem dX7_isLetter_18 : decode cX7_isLetter 18 = .ok (.ldc2_w 198, 3) := by decide +kernel
theorem dX7_isLetter_21 : decode cX7_isLetter 21 = .ok (.invokestatic 71, 3) := by decide +kernel
theorem dX7_isLetter_24 : decode cX7_isLetter 24 = .ok (.ifCond .eq 7, 3) := by decide +kernel
theorem dX7_isLetter_27 : decode cX7_isLetter 27 = .ok (.iconst 1, 1) := by decide +kernel
theorem dX7_isLetter_28 : decode cX7_isLetter 28 = .ok (.goto 4, 3) := by decide +kernel
theorem dX7_isLetter_31 : decode cX7_isLetter 31 = .ok (.iconst 0, 1) := by decide +kernel
theorem dX7_isLetter_32 : decode cX7_isLetter 32 = .ok (.ireturn, 1) := by decide +kernel
set_option maxHeartbeats 4000000 in
set_option maxRecDepth 100000 in
theorem c_X7_isLetter (g : sk_G) (l : Launch) (a1 : Int32) (M : sk_M) {rr : Int32} (h : f_X7_isLetter a1 M = some rr) : sk_MI g l yX7_isLetter cX7_isLetter 2 (some .boolean) 2 [.ref (sk_ad g 88), .int a1] M rr M := by
  refine sk_go [(0, .ref (sk_ad g 88)), (1, .int a1)] (by decide) (Nat.le_of_ble_eq_true rfl) rfl ?_
  intro p e s m av below meth c C ls hl hM hS
  obtain ⟨hx, hb, hml, hown, hts, hK, hE, hr, hlocks⟩ := id C
  rw [f_X7_isLetter] at h
  refine lv_iload_n hx hb dX7_isLetter_0 rfl (lv_at hl 1 rfl) ?_
  refine lv_aload_n hx hb dX7_isLetter_1 rfl (lv_at hl 0 rfl) ?_
  refine sk_getI (o := 88) (ci := 7) (j := 15) C hM rfl rfl (by decide) rfl kw_950 dX7_isLetter_2 ?_
  refine lv_icmp_ge hx hb dX7_isLetter_5 rfl (fun hc => ?_) (fun hc => ?_)
  · have h := sk_pos h hc
    refine lv_iconst (v := 0) hx hb dX7_isLetter_31 (by decide) ?_
    exact sk_zret C hM hS (sk_nz (Or.inl rfl)) ⟨Option.some.inj h, rfl⟩ dX7_isLetter_32
  · have h := sk_neg h hc
    refine lv_aload_n hx hb dX7_isLetter_8 rfl (lv_at hl 0 rfl) ?_
    refine sk_getR (o := 88) (ci := 7) (j := 14) (t := 102) C hM rfl rfl (by decide) rfl rfl kw_949 dX7_isLetter_9 ?_
    refine lv_iload_n hx hb dX7_isLetter_12 rfl (lv_at hl 1 rfl) ?_
    obtain ⟨i_1, h⟩ := sk_chkE h
    refine sk_iald (o := 102) C hM rfl i_1 dX7_isLetter_13 ?_
    refine lv_i2l (v := ((M 102 a1.toNatClampNeg)).toInt64) hx hb dX7_isLetter_14 rfl ?_
    refine lv_ldc2 (v := 97) hx hb hown (hts _ kw_1312) dX7_isLetter_15 ?_
    refine lv_ldc2 (v := 122) hx hb hown (hts _ kw_1313) dX7_isLetter_18 ?_
    refine sk_contI (sk_runS (As := [.long (((M 102 a1.toNatClampNeg)).toInt64), .long 97, .long 122]) (rest := []) C (c_X7_isIn g l (((M 102 a1.toNatClampNeg)).toInt64) 97 122 M rfl) yo_X7_isIn kw_1040 (by decide) hM hS hl.1 rfl rfl (Nat.le_of_ble_eq_true rfl) dX7_isLetter_21) hS (fun H locs hM hS => ?_)
    have J : ∀ (vv : Int32) (H : Heap) (locs : List Loc), (if (f_X7_isIn (((M 102 a1.toNatClampNeg)).toInt64) 97 122) = 0 then 0 else 1 : Int32) = vv → sk_P g M H → va_S (sk_A g) s.heap H locs → W p l e (sk_rm 2) s m av below meth c H locs 0 0 (MQ below (sk_QI g rr M) av s 0 0 (sk_A g)) (F0 m 32 ls [.int vv]) := by
      intro vv H locs hvv hM hS
      subst hvv
      exact sk_zret C hM hS (sk_nz (sk_zi (Or.inl rfl) (Or.inr rfl))) ⟨Option.some.inj h, rfl⟩ dX7_isLetter_32
    refine lv_if_eq hx hb dX7_isLetter_24 rfl (fun hc => ?_) (fun hc => ?_)
    · have J := fun vv H locs q => J vv H locs ((if_pos hc).trans q)
      refine lv_iconst (v := 0) hx hb dX7_isLetter_31 (by decide) ?_
      exact J _ _ _ rfl hM hS
    · have J := fun vv H locs q => J vv H locs ((if_neg hc).trans q)
      refine lv_iconst (v := 1) hx hb dX7_isLetter_27 (by decide) ?_
      refine lv_goto hx hb dX7_isLetter_28 rfl ?_
      exact J _ _ _ rfl hM hS
theorem dX7_isDigit_0 : decode cX7_isDigit 0 = .ok (.iload_n 1, 1) := by decide +kernel
theorem dX7_isDigit_1 : decode cX7_isDigit 1 = .ok (.aload_n 0, 1) := by decide +kernel
theorem dX7_isDigit_2 : decode cX7_isDigit 2 = .ok (.getfield 192, 3) := by decide +kernel
theorem dX7_isDigit_5 : decode cX7_isDigit 5 = .ok (.if_icmp .ge 26, 3) := by decide +kernel
theorem dX7_isDigit_8 : decode cX7_isDigit 8 = .ok (.aload_n 0, 1) := by decide +kernel
theorem dX7_isDigit_9 : decode cX7_isDigit 9 = .ok (.getfield 49, 3) := by decide +kernel
theorem dX7_isDigit_12 : decode cX7_isDigit 12 = .ok (.iload_n 1, 1) := by decide +kernel
theorem dX7_isDigit_13 : decode cX7_isDigit 13 = .ok (.iaload, 1) := by decide +kernel
theorem dX7_isDigit_14 : decode cX7_isDigit 14 = .ok (.i2l, 1) := by decide +kernel
theorem dX7_isDigit_15 : decode cX7_isDigit 15 = .ok (.ldc2_w 200, 3) := by decide +kernel
theorem dX7_isDigit_18 : decode cX7_isDigit 18 = .ok (.ldc2_w 202, 3) := by decide +kernel
theorem dX7_isDigit_21 : decode cX7_isDigit 21 = .ok (.invokestatic 71, 3) := by decide +kernel
theorem dX7_isDigit_24 : decode cX7_isDigit 24 = .ok (.ifCond .eq 7, 3) := by decide +kernel
theorem dX7_isDigit_27 : decode cX7_isDigit 27 = .ok (.iconst 1, 1) := by decide +kernel
theorem dX7_isDigit_28 : decode cX7_isDigit 28 = .ok (.goto 4, 3) := by decide +kernel
theorem dX7_isDigit_31 : decode cX7_isDigit 31 = .ok (.iconst 0, 1) := by decide +kernel
theorem dX7_isDigit_32 : decode cX7_isDigit 32 = .ok (.ireturn, 1) := by decide +kernel
set_option maxHeartbeats 4000000 in
set_option maxRecDepth 100000 in
theorem c_X7_isDigit (g : sk_G) (l : Launch) (a1 : Int32) (M : sk_M) {rr : Int32} (h : f_X7_isDigit a1 M = some rr) : sk_MI g l yX7_isDigit cX7_isDigit 2 (some .boolean) 2 [.ref (sk_ad g 88), .int a1] M rr M := by
  refine sk_go [(0, .ref (sk_ad g 88)), (1, .int a1)] (by decide) (Nat.le_of_ble_eq_true rfl) rfl ?_
  intro p e s m av below meth c C ls hl hM hS
  obtain ⟨hx, hb, hml, hown, hts, hK, hE, hr, hlocks⟩ := id C
  rw [f_X7_isDigit] at h
  refine lv_iload_n hx hb dX7_isDigit_0 rfl (lv_at hl 1 rfl) ?_
  refine lv_aload_n hx hb dX7_isDigit_1 rfl (lv_at hl 0 rfl) ?_
  refine sk_getI (o := 88) (ci := 7) (j := 15) C hM rfl rfl (by decide) rfl kw_950 dX7_isDigit_2 ?_
  refine lv_icmp_ge hx hb dX7_isDigit_5 rfl (fun hc => ?_) (fun hc => ?_)
  · have h := sk_pos h hc
    refine lv_iconst (v := 0) hx hb dX7_isDigit_31 (by decide) ?_
    exact sk_zret C hM hS (sk_nz (Or.inl rfl)) ⟨Option.some.inj h, rfl⟩ dX7_isDigit_32
  · have h := sk_neg h hc
    refine lv_aload_n hx hb dX7_isDigit_8 rfl (lv_at hl 0 rfl) ?_
    refine sk_getR (o := 88) (ci := 7) (j := 14) (t := 102) C hM rfl rfl (by decide) rfl rfl kw_949 dX7_isDigit_9 ?_
    refine lv_iload_n hx hb dX7_isDigit_12 rfl (lv_at hl 1 rfl) ?_
    obtain ⟨i_1, h⟩ := sk_chkE h
    refine sk_iald (o := 102) C hM rfl i_1 dX7_isDigit_13 ?_
    refine lv_i2l (v := ((M 102 a1.toNatClampNeg)).toInt64) hx hb dX7_isDigit_14 rfl ?_
    refine lv_ldc2 (v := 48) hx hb hown (hts _ kw_1318) dX7_isDigit_15 ?_
    refine lv_ldc2 (v := 57) hx hb hown (hts _ kw_1319) dX7_isDigit_18 ?_
    refine sk_contI (sk_runS (As := [.long (((M 102 a1.toNatClampNeg)).toInt64), .long 48, .long 57]) (rest := []) C (c_X7_isIn g l (((M 102 a1.toNatClampNeg)).toInt64) 48 57 M rfl) yo_X7_isIn kw_1040 (by decide) hM hS hl.1 rfl rfl (Nat.le_of_ble_eq_true rfl) dX7_isDigit_21) hS (fun H locs hM hS => ?_)
    have J : ∀ (vv : Int32) (H : Heap) (locs : List Loc), (if (f_X7_isIn (((M 102 a1.toNatClampNeg)).toInt64) 48 57) = 0 then 0 else 1 : Int32) = vv → sk_P g M H → va_S (sk_A g) s.heap H locs → W p l e (sk_rm 2) s m av below meth c H locs 0 0 (MQ below (sk_QI g rr M) av s 0 0 (sk_A g)) (F0 m 32 ls [.int vv]) := by
      intro vv H locs hvv hM hS
      subst hvv
      exact sk_zret C hM hS (sk_nz (sk_zi (Or.inl rfl) (Or.inr rfl))) ⟨Option.some.inj h, rfl⟩ dX7_isDigit_32
    refine lv_if_eq hx hb dX7_isDigit_24 rfl (fun hc => ?_) (fun hc => ?_)
    · have J := fun vv H locs q => J vv H locs ((if_pos hc).trans q)
      refine lv_iconst (v := 0) hx hb dX7_isDigit_31 (by decide) ?_
      exact J _ _ _ rfl hM hS
    · have J := fun vv H locs q => J vv H locs ((if_neg hc).trans q)
      refine lv_iconst (v := 1) hx hb dX7_isDigit_27 (by decide) ?_
      refine lv_goto hx hb dX7_isDigit_28 rfl ?_
      exact J _ _ _ rfl hM hS
theorem dX7_nextToken_0 : decode cX7_nextToken 0 = .ok (.aload_n 0, 1) := by decide +kernel
theorem dX7_nextToken_1 : decode cX7_nextToken 1 = .ok (.getfield 204, 3) := by decide +kernel
theorem dX7_nextToken_4 : decode cX7_nextToken 4 = .ok (.ifCond .le 23, 3) := by decide +kernel
theorem dX7_nextToken_7 : decode cX7_nextToken 7 = .ok (.aload_n 0, 1) := by decide +kernel
theorem dX7_nextToken_8 : decode cX7_nextToken 8 = .ok (.getfield 207, 3) := by decide +kernel
theorem dX7_nextToken_11 : decode cX7_nextToken 11 = .ok (.iconst 1, 1) := by decide +kernel
theorem dX7_nextToken_12 : decode cX7_nextToken 12 = .ok (.if_icmp .eq 11, 3) := by decide +kernel
theorem dX7_nextToken_15 : decode cX7_nextToken 15 = .ok (.aload_n 0, 1) := by decide +kernel
theorem dX7_nextToken_16 : decode cX7_nextToken 16 = .ok (.getfield 207, 3) := by decide +kernel
theorem dX7_nextToken_19 : decode cX7_nextToken 19 = .ok (.iconst 2, 1) := by decide +kernel
theorem dX7_nextToken_20 : decode cX7_nextToken 20 = .ok (.if_icmp .ne 7, 3) := by decide +kernel
theorem dX7_nextToken_23 : decode cX7_nextToken 23 = .ok (.iconst 1, 1) := by decide +kernel
theorem dX7_nextToken_24 : decode cX7_nextToken 24 = .ok (.goto 4, 3) := by decide +kernel
theorem dX7_nextToken_27 : decode cX7_nextToken 27 = .ok (.iconst 0, 1) := by decide +kernel
theorem dX7_nextToken_28 : decode cX7_nextToken 28 = .ok (.istore_n 1, 1) := by decide +kernel
theorem dX7_nextToken_29 : decode cX7_nextToken 29 = .ok (.aload_n 0, 1) := by decide +kernel
theorem dX7_nextToken_30 : decode cX7_nextToken 30 = .ok (.getfield 204, 3) := by decide +kernel
theorem dX7_nextToken_33 : decode cX7_nextToken 33 = .ok (.istore_n 2, 1) := by decide +kernel
theorem dX7_nextToken_34 : decode cX7_nextToken 34 = .ok (.aload_n 0, 1) := by decide +kernel
theorem dX7_nextToken_35 : decode cX7_nextToken 35 = .ok (.getfield 204, 3) := by decide +kernel
theorem dX7_nextToken_38 : decode cX7_nextToken 38 = .ok (.aload_n 0, 1) := by decide +kernel
theorem dX7_nextToken_39 : decode cX7_nextToken 39 = .ok (.getfield 192, 3) := by decide +kernel
theorem dX7_nextToken_42 : decode cX7_nextToken 42 = .ok (.if_icmp .ge 30, 3) := by decide +kernel
theorem dX7_nextToken_45 : decode cX7_nextToken 45 = .ok (.aload_n 0, 1) := by decide +kernel
theorem dX7_nextToken_46 : decode cX7_nextToken 46 = .ok (.getfield 49, 3) := by decide +kernel
theorem dX7_nextToken_49 : decode cX7_nextToken 49 = .ok (.aload_n 0, 1) := by decide +kernel
theorem dX7_nextToken_50 : decode cX7_nextToken 50 = .ok (.getfield 204, 3) := by decide +kernel
theorem dX7_nextToken_53 : decode cX7_nextToken 53 = .ok (.iaload, 1) := by decide +kernel
theorem dX7_nextToken_54 : decode cX7_nextToken 54 = .ok (.bipush 32, 2) := by decide +kernel
theorem dX7_nextToken_56 : decode cX7_nextToken 56 = .ok (.if_icmp .ne 16, 3) := by decide +kernel
theorem dX7_nextToken_59 : decode cX7_nextToken 59 = .ok (.aload_n 0, 1) := by decide +kernel
theorem dX7_nextToken_60 : decode cX7_nextToken 60 = .ok (.dup, 1) := by decide +kernel
theorem dX7_nextToken_61 : decode cX7_nextToken 61 = .ok (.getfield 204, 3) := by decide +kernel
theorem dX7_nextToken_64 : decode cX7_nextToken 64 = .ok (.iconst 1, 1) := by decide +kernel
theorem dX7_nextToken_65 : decode cX7_nextToken 65 = .ok (.iadd, 1) := by decide +kernel
theorem dX7_nextToken_66 : decode cX7_nextToken 66 = .ok (.putfield 204, 3) := by decide +kernel
theorem dX7_nextToken_69 : decode cX7_nextToken 69 = .ok (.goto (-35), 3) := by decide +kernel
theorem dX7_nextToken_72 : decode cX7_nextToken 72 = .ok (.iload_n 1, 1) := by decide +kernel
theorem dX7_nextToken_73 : decode cX7_nextToken 73 = .ok (.ifCond .eq 15, 3) := by decide +kernel
theorem dX7_nextToken_76 : decode cX7_nextToken 76 = .ok (.iload_n 2, 1) := by decide +kernel
theorem dX7_nextToken_77 : decode cX7_nextToken 77 = .ok (.aload_n 0, 1) := by decide +kernel
theorem dX7_nextToken_78 : decode cX7_nextToken 78 = .ok (.getfield 204, 3) := by decide +kernel
theorem dX7_nextToken_81 : decode cX7_nextToken 81 = .ok (.if_icmp .ne 7, 3) := by decide +kernel
theorem dX7_nextToken_84 : decode cX7_nextToken 84 = .ok (.iconst 1, 1) := by decide +kernel
theorem dX7_nextToken_85 : decode cX7_nextToken 85 = .ok (.goto 4, 3) := by decide +kernel
theorem dX7_nextToken_88 : decode cX7_nextToken 88 = .ok (.iconst 0, 1) := by decide +kernel
theorem dX7_nextToken_89 : decode cX7_nextToken 89 = .ok (.istore_n 1, 1) := by decide +kernel
theorem dX7_nextToken_90 : decode cX7_nextToken 90 = .ok (.aload_n 0, 1) := by decide +kernel
theorem dX7_nextToken_91 : decode cX7_nextToken 91 = .ok (.aload_n 0, 1) := by decide +kernel
theorem dX7_nextToken_92 : decode cX7_nextToken 92 = .ok (.getfield 204, 3) := by decide +kernel
theorem dX7_nextToken_95 : decode cX7_nextToken 95 = .ok (.putfield 210, 3) := by decide +kernel
theorem dX7_nextToken_98 : decode cX7_nextToken 98 = .ok (.aload_n 0, 1) := by decide +kernel
theorem dX7_nextToken_99 : decode cX7_nextToken 99 = .ok (.getfield 210, 3) := by decide +kernel
theorem dX7_nextToken_102 : decode cX7_nextToken 102 = .ok (.aload_n 0, 1) := by decide +kernel
theorem dX7_nextToken_103 : decode cX7_nextToken 103 = .ok (.getfield 192, 3) := by decide +kernel
theorem dX7_nextToken_106 : decode cX7_nextToken 106 = .ok (.if_icmp .ne 11, 3) := by decide +kernel
theorem dX7_nextToken_109 : decode cX7_nextToken 109 = .ok (.aload_n 0, 1) := by decide +kernel
theorem dX7_nextToken_110 : decode cX7_nextToken 110 = .ok (.iconst 0, 1) := by decide +kernel
theorem dX7_nextToken_111 : decode cX7_nextToken 111 = .ok (.putfield 207, 3) := by decide +kernel
theorem dX7_nextToken_114 : decode cX7_nextToken 114 = .ok (.goto 225, 3) := by decide +kernel
theorem dX7_nextToken_117 : decode cX7_nextToken 117 = .ok (.aload_n 0, 1) := by decide +kernel
theorem dX7_nextToken_118 : decode cX7_nextToken 118 = .ok (.aload_n 0, 1) := by decide +kernel
theorem dX7_nextToken_119 : decode cX7_nextToken 119 = .ok (.getfield 210, 3) := by decide +kernel
theorem dX7_nextToken_122 : decode cX7_nextToken 122 = .ok (.invokevirtual 213, 3) := by decide +kernel
theorem dX7_nextToken_125 : decode cX7_nextToken 125 = .ok (.ifCond .eq 73, 3) := by decide +kernel
theorem dX7_nextToken_128 : decode cX7_nextToken 128 = .ok (.aload_n 0, 1) := by decide +kernel
theorem dX7_nextToken_129 : decode cX7_nextToken 129 = .ok (.aload_n 0, 1) := by decide +kernel
theorem dX7_nextToken_130 : decode cX7_nextToken 130 = .ok (.getfield 204, 3) := by decide +kernel
theorem dX7_nextToken_133 : decode cX7_nextToken 133 = .ok (.invokevirtual 213, 3) := by decide +kernel
theorem dX7_nextToken_136 : decode cX7_nextToken 136 = .ok (.ifCond .eq 16, 3) := by decide +kernel
theorem dX7_nextToken_139 : decode cX7_nextToken 139 = .ok (.aload_n 0, 1) := by decide +kernel
theorem dX7_nextToken_140 : decode cX7_nextToken 140 = .ok (.dup, 1) := by decide +kernel
theorem dX7_nextToken_141 : decode cX7_nextToken 141 = .ok (.getfield 204, 3) := by decide +kernel
theorem dX7_nextToken_144 : decode cX7_nextToken 144 = .ok (.iconst 1, 1) := by decide +kernel
theorem dX7_nextToken_145 : decode cX7_nextToken 145 = .ok (.iadd, 1) := by decide +kernel
theorem dX7_nextToken_146 : decode cX7_nextToken 146 = .ok (.putfield 204, 3) := by decide +kernel
theorem dX7_nextToken_149 : decode cX7_nextToken 149 = .ok (.goto (-21), 3) := by decide +kernel
theorem dX7_nextToken_152 : decode cX7_nextToken 152 = .ok (.aload_n 0, 1) := by decide +kernel
theorem dX7_nextToken_153 : decode cX7_nextToken 153 = .ok (.iload_n 1, 1) := by decide +kernel
theorem dX7_nextToken_154 : decode cX7_nextToken 154 = .ok (.ifCond .eq 7, 3) := by decide +kernel
theorem dX7_nextToken_157 : decode cX7_nextToken 157 = .ok (.iconst 4, 1) := by decide +kernel
theorem dX7_nextToken_158 : decode cX7_nextToken 158 = .ok (.goto 4, 3) := by decide +kernel
theorem dX7_nextToken_161 : decode cX7_nextToken 161 = .ok (.iconst 1, 1) := by decide +kernel
theorem dX7_nextToken_162 : decode cX7_nextToken 162 = .ok (.putfield 207, 3) := by decide +kernel
theorem dX7_nextToken_165 : decode cX7_nextToken 165 = .ok (.aload_n 0, 1) := by decide +kernel
theorem dX7_nextToken_166 : decode cX7_nextToken 166 = .ok (.aload_n 0, 1) := by decide +kernel
theorem dX7_nextToken_167 : decode cX7_nextToken 167 = .ok (.getfield 204, 3) := by decide +kernel
theorem dX7_nextToken_170 : decode cX7_nextToken 170 = .ok (.aload_n 0, 1) := by decide +kernel
theorem dX7_nextToken_171 : decode cX7_nextToken 171 = .ok (.getfield 210, 3) := by decide +kernel
theorem dX7_nextToken_174 : decode cX7_nextToken 174 = .ok (.isub, 1) := by decide +kernel
theorem dX7_nextToken_175 : decode cX7_nextToken 175 = .ok (.iconst 1, 1) := by decide +kernel
theorem dX7_nextToken_176 : decode cX7_nextToken 176 = .ok (.if_icmp .ne 15, 3) := by decide +kernel
theorem dX7_nextToken_179 : decode cX7_nextToken 179 = .ok (.aload_n 0, 1) := by decide +kernel
theorem dX7_nextToken_180 : decode cX7_nextToken 180 = .ok (.getfield 49, 3) := by decide +kernel
theorem dX7_nextToken_183 : decode cX7_nextToken 183 = .ok (.aload_n 0, 1) := by decide +kernel
theorem dX7_nextToken_184 : decode cX7_nextToken 184 = .ok (.getfield 210, 3) := by decide +kernel
theorem dX7_nextToken_187 : decode cX7_nextToken 187 = .ok (.iaload, 1) := by decide +kernel
theorem dX7_nextToken_188 : decode cX7_nextToken 188 = .ok (.goto 4, 3) := by decide +kernel
theorem dX7_nextToken_191 : decode cX7_nextToken 191 = .ok (.iconst 0, 1) := by decide +kernel
theorem dX7_nextToken_192 : decode cX7_nextToken 192 = .ok (.putfield 216, 3) := by decide +kernel
theorem dX7_nextToken_195 : decode cX7_nextToken 195 = .ok (.goto 144, 3) := by decide +kernel
theorem dX7_nextToken_198 : decode cX7_nextToken 198 = .ok (.aload_n 0, 1) := by decide +kernel
theorem dX7_nextToken_199 : decode cX7_nextToken 199 = .ok (.aload_n 0, 1) := by decide +kernel
theorem dX7_nextToken_200 : decode cX7_nextToken 200 = .ok (.getfield 210, 3) := by decide +kernel
theorem dX7_nextToken_203 : decode cX7_nextToken 203 = .ok (.invokevirtual 219, 3) := by decide +kernel
theorem dX7_nextToken_206 : decode cX7_nextToken 206 = .ok (.ifCond .eq 105, 3) := by decide +kernel
theorem dX7_nextToken_209 : decode cX7_nextToken 209 = .ok (.aload_n 0, 1) := by decide +kernel
theorem dX7_nextToken_210 : decode cX7_nextToken 210 = .ok (.iconst 0, 1) := by decide +kernel
theorem dX7_nextToken_211 : decode cX7_nextToken 211 = .ok (.putfield 222, 3) := by decide +kernel
theorem dX7_nextToken_214 : decode cX7_nextToken 214 = .ok (.aload_n 0, 1) := by decide +kernel
theorem dX7_nextToken_215 : decode cX7_nextToken 215 = .ok (.aload_n 0, 1) := by decide +kernel
theorem dX7_nextToken_216 : decode cX7_nextToken 216 = .ok (.getfield 204, 3) := by decide +kernel
theorem dX7_nextToken_219 : decode cX7_nextToken 219 = .ok (.invokevirtual 219, 3) := by decide +kernel
theorem dX7_nextToken_222 : decode cX7_nextToken 222 = .ok (.ifCond .eq 60, 3) := by decide +kernel
theorem dX7_nextToken_225 : decode cX7_nextToken 225 = .ok (.aload_n 0, 1) := by decide +kernel
theorem dX7_nextToken_226 : decode cX7_nextToken 226 = .ok (.aload_n 0, 1) := by decide +kernel
theorem dX7_nextToken_227 : decode cX7_nextToken 227 = .ok (.getfield 204, 3) := by decide +kernel
theorem dX7_nextToken_230 : decode cX7_nextToken 230 = .ok (.aload_n 0, 1) := by decide +kernel
theorem dX7_nextToken_231 : decode cX7_nextToken 231 = .ok (.getfield 210, 3) := by decide +kernel
theorem dX7_nextToken_234 : decode cX7_nextToken 234 = .ok (.isub, 1) := by decide +kernel
theorem dX7_nextToken_235 : decode cX7_nextToken 235 = .ok (.iconst 4, 1) := by decide +kernel
theorem dX7_nextToken_236 : decode cX7_nextToken 236 = .ok (.if_icmp .ge 26, 3) := by decide +kernel
theorem dX7_nextToken_239 : decode cX7_nextToken 239 = .ok (.bipush 10, 2) := by decide +kernel
theorem dX7_nextToken_241 : decode cX7_nextToken 241 = .ok (.aload_n 0, 1) := by decide +kernel
theorem dX7_nextToken_242 : decode cX7_nextToken 242 = .ok (.getfield 222, 3) := by decide +kernel
theorem dX7_nextToken_245 : decode cX7_nextToken 245 = .ok (.imul, 1) := by decide +kernel
theorem dX7_nextToken_246 : decode cX7_nextToken 246 = .ok (.aload_n 0, 1) := by decide +kernel
theorem dX7_nextToken_247 : decode cX7_nextToken 247 = .ok (.getfield 49, 3) := by decide +kernel
theorem dX7_nextToken_250 : decode cX7_nextToken 250 = .ok (.aload_n 0, 1) := by decide +kernel
theorem dX7_nextToken_251 : decode cX7_nextToken 251 = .ok (.getfield 204, 3) := by decide +kernel
theorem dX7_nextToken_254 : decode cX7_nextToken 254 = .ok (.iaload, 1) := by decide +kernel
theorem dX7_nextToken_255 : decode cX7_nextToken 255 = .ok (.iadd, 1) := by decide +kernel
theorem dX7_nextToken_256 : decode cX7_nextToken 256 = .ok (.bipush 48, 2) := by decide +kernel
theorem dX7_nextToken_258 : decode cX7_nextToken 258 = .ok (.isub, 1) := by decide +kernel
theorem dX7_nextToken_259 : decode cX7_nextToken 259 = .ok (.goto 7, 3) := by decide +kernel
theorem dX7_nextToken_262 : decode cX7_nextToken 262 = .ok (.aload_n 0, 1) := by decide +kernel
theorem dX7_nextToken_263 : decode cX7_nextToken 263 = .ok (.getfield 222, 3) := by decide +kernel
theorem dX7_nextToken_266 : decode cX7_nextToken 266 = .ok (.putfield 222, 3) := by decide +kernel
theorem dX7_nextToken_269 : decode cX7_nextToken 269 = .ok (.aload_n 0, 1) := by decide +kernel
theorem dX7_nextToken_270 : decode cX7_nextToken 270 = .ok (.dup, 1) := by decide +kernel
theorem dX7_nextToken_271 : decode cX7_nextToken 271 = .ok (.getfield 204, 3) := by decide +kernel
theorem dX7_nextToken_274 : decode cX7_nextToken 274 = .ok (.iconst 1, 1) := by decide +kernel
theorem dX7_nextToken_275 : decode cX7_nextToken 275 = .ok (.iadd, 1) := by decide +kernel
theorem dX7_nextToken_276 : decode cX7_nextToken 276 = .ok (.putfield 204, 3) := by decide +kernel
theorem dX7_nextToken_279 : decode cX7_nextToken 279 = .ok (.goto (-65), 3) := by decide +kernel
theorem dX7_nextToken_282 : decode cX7_nextToken 282 = .ok (.aload_n 0, 1) := by decide +kernel
theorem dX7_nextToken_283 : decode cX7_nextToken 283 = .ok (.iload_n 1, 1) := by decide +kernel
theorem dX7_nextToken_284 : decode cX7_nextToken 284 = .ok (.ifCond .ne 16, 3) := by decide +kernel
theorem dX7_nextToken_287 : decode cX7_nextToken 287 = .ok (.aload_n 0, 1) := by decide +kernel
theorem dX7_nextToken_288 : decode cX7_nextToken 288 = .ok (.getfield 204, 3) := by decide +kernel
theorem dX7_nextToken_291 : decode cX7_nextToken 291 = .ok (.aload_n 0, 1) := by decide +kernel
theorem dX7_nextToken_292 : decode cX7_nextToken 292 = .ok (.getfield 210, 3) := by decide +kernel
theorem dX7_nextToken_295 : decode cX7_nextToken 295 = .ok (.isub, 1) := by decide +kernel
theorem dX7_nextToken_296 : decode cX7_nextToken 296 = .ok (.iconst 4, 1) := by decide +kernel
theorem dX7_nextToken_297 : decode cX7_nextToken 297 = .ok (.if_icmp .le 7, 3) := by decide +kernel
theorem dX7_nextToken_300 : decode cX7_nextToken 300 = .ok (.iconst 4, 1) := by decide +kernel
theorem dX7_nextToken_301 : decode cX7_nextToken 301 = .ok (.goto 4, 3) := by decide +kernel
theorem dX7_nextToken_304 : decode cX7_nextToken 304 = .ok (.iconst 2, 1) := by decide +kernel
theorem dX7_nextToken_305 : decode cX7_nextToken 305 = .ok (.putfield 207, 3) := by decide +kernel
theorem dX7_nextToken_308 : decode cX7_nextToken 308 = .ok (.goto 31, 3) := by decide +kernel
theorem dX7_nextToken_311 : decode cX7_nextToken 311 = .ok (.aload_n 0, 1) := by decide +kernel
theorem dX7_nextToken_312 : decode cX7_nextToken 312 = .ok (.iconst 3, 1) := by decide +kernel
theorem dX7_nextToken_313 : decode cX7_nextToken 313 = .ok (.putfield 207, 3) := by decide +kernel
theorem dX7_nextToken_316 : decode cX7_nextToken 316 = .ok (.aload_n 0, 1) := by decide +kernel
theorem dX7_nextToken_317 : decode cX7_nextToken 317 = .ok (.aload_n 0, 1) := by decide +kernel
theorem dX7_nextToken_318 : decode cX7_nextToken 318 = .ok (.getfield 49, 3) := by decide +kernel
theorem dX7_nextToken_321 : decode cX7_nextToken 321 = .ok (.aload_n 0, 1) := by decide +kernel
theorem dX7_nextToken_322 : decode cX7_nextToken 322 = .ok (.getfield 210, 3) := by decide +kernel
theorem dX7_nextToken_325 : decode cX7_nextToken 325 = .ok (.iaload, 1) := by decide +kernel
theorem dX7_nextToken_326 : decode cX7_nextToken 326 = .ok (.putfield 216, 3) := by decide +kernel
theorem dX7_nextToken_329 : decode cX7_nextToken 329 = .ok (.aload_n 0, 1) := by decide +kernel
theorem dX7_nextToken_330 : decode cX7_nextToken 330 = .ok (.dup, 1) := by decide +kernel
theorem dX7_nextToken_331 : decode cX7_nextToken 331 = .ok (.getfield 204, 3) := by decide +kernel
theorem dX7_nextToken_334 : decode cX7_nextToken 334 = .ok (.iconst 1, 1) := by decide +kernel
theorem dX7_nextToken_335 : decode cX7_nextToken 335 = .ok (.iadd, 1) := by decide +kernel
theorem dX7_nextToken_336 : decode cX7_nextToken 336 = .ok (.putfield 204, 3) := by decide +kernel
theorem dX7_nextToken_339 : decode cX7_nextToken 339 = .ok (.return_, 1) := by decide +kernel
set_option maxHeartbeats 4000000 in
set_option maxRecDepth 100000 in
theorem w_X7_nextToken_L34 {g : sk_G} {l : Launch} {p : Program} {e : Env} {s : State} {m : MethodId} {av : Array Value} {below : List Frame} {meth : Method} {c : Code} (C : sk_C g p s m av meth c cX7_nextToken 3 RX7 none) (a1 : Int32) (a2 : Int32) {MM : sk_M} :
    ∀ (n : Nat) (M : sk_M) (H : Heap) (locs : List Loc) (ls : Array Slot), lv_has ls 3 [(0, .ref (sk_ad g 88)), (1, .int a1), (2, .int a2)] → sk_P g M H → va_S (sk_A g) s.heap H locs → ∀ {out : sk_M}, f_X7_nextToken_L34 a1 a2 n M = some out → (∀ (M1 : sk_M) (H : Heap) (locs : List Loc) (ls : Array Slot), some M1 = some out → lv_has ls 3 [(0, .ref (sk_ad g 88)), (1, .int a1), (2, .int a2)] → sk_P g M1 H → va_S (sk_A g) s.heap H locs → W p l e (sk_rm 3) s m av below meth c H locs 0 0 (MQ below (sk_QV g MM) av s 0 0 (sk_A g)) (F0 m 72 ls [])) → W p l e (sk_rm 3) s m av below meth c H locs 0 0 (MQ below (sk_QV g MM) av s 0 0 (sk_A g)) (F0 m 34 ls []) := by
  obtain ⟨hx, hb, hml, hown, hts, hK, hE, hr, hlocks⟩ := id C
  intro n
  induction n with
  | zero =>
    intro M H locs ls hl hM hS out h
    cases h
  | succ n ih =>
    intro M H locs ls hl hM hS out h kx
    rw [f_X7_nextToken_L34] at h
    refine lv_aload_n hx hb dX7_nextToken_34 rfl (lv_at hl 0 rfl) ?_
    refine sk_getI (o := 88) (ci := 7) (j := 17) C hM rfl rfl (by decide) rfl kw_952 dX7_nextToken_35 ?_
    refine lv_aload_n hx hb dX7_nextToken_38 rfl (lv_at hl 0 rfl) ?_
    refine sk_getI (o := 88) (ci := 7) (j := 15) C hM rfl rfl (by decide) rfl kw_950 dX7_nextToken_39 ?_
    refine lv_icmp_ge hx hb dX7_nextToken_42 rfl (fun hc => ?_) (fun hc => ?_)
    · have h := sk_pos h hc
      exact kx _ _ _ _ h (lv_sub hl [0, 1, 2] rfl) hM hS
    · have h := sk_neg h hc
      refine lv_aload_n hx hb dX7_nextToken_45 rfl (lv_at hl 0 rfl) ?_
      refine sk_getR (o := 88) (ci := 7) (j := 14) (t := 102) C hM rfl rfl (by decide) rfl rfl kw_949 dX7_nextToken_46 ?_
      refine lv_aload_n hx hb dX7_nextToken_49 rfl (lv_at hl 0 rfl) ?_
      refine sk_getI (o := 88) (ci := 7) (j := 17) C hM rfl rfl (by decide) rfl kw_952 dX7_nextToken_50 ?_
      obtain ⟨i_3, h⟩ := sk_chkE h
      refine sk_iald (o := 102) C hM rfl i_3 dX7_nextToken_53 ?_
      refine lv_bipush (v := 32) hx hb dX7_nextToken_54 (by decide) ?_
      refine lv_icmp_ne hx hb dX7_nextToken_56 rfl (fun hc => ?_) (fun hc => ?_)
      · have h := sk_neg h hc
        exact kx _ _ _ _ h (lv_sub hl [0, 1, 2] rfl) hM hS
      · have h := sk_pos h hc
        refine lv_aload_n hx hb dX7_nextToken_59 rfl (lv_at hl 0 rfl) ?_
        refine lv_dup hx hb dX7_nextToken_60 rfl ?_
        refine sk_getI (o := 88) (ci := 7) (j := 17) C hM rfl rfl (by decide) rfl kw_952 dX7_nextToken_61 ?_
        refine lv_iconst (v := 1) hx hb dX7_nextToken_64 (by decide) ?_
        refine lv_iadd hx hb dX7_nextToken_65 ?_
        refine sk_putI (o := 88) (ci := 7) (j := 17) C hM hS rfl rfl (by decide) rfl rfl (tyX7_ok 17 (by decide)) kw_952 dX7_nextToken_66 (fun M_4 eM_4 H locs hM hS => ?_)
        have h := sk_letU h eM_4
        refine lv_goto hx hb dX7_nextToken_69 rfl ?_
        exact ih  M_4 _ _ _ (lv_sub hl [0, 1, 2] rfl) hM hS h kx
set_option maxHeartbeats 4000000 in
set_option maxRecDepth 100000 in
theorem w_X7_nextToken_L214 {g : sk_G} {l : Launch} {p : Program} {e : Env} {s : State} {m : MethodId} {av : Array Value} {below : List Frame} {meth : Method} {c : Code} (C : sk_C g p s m av meth c cX7_nextToken 3 RX7 none) (a1 : Int32) {MM : sk_M} :
    ∀ (n : Nat) (M : sk_M) (H : Heap) (locs : List Loc) (ls : Array Slot), lv_has ls 3 [(0, .ref (sk_ad g 88)), (1, .int a1)] → sk_P g M H → va_S (sk_A g) s.heap H locs → ∀ {out : sk_M}, f_X7_nextToken_L214 a1 n M = some out → (∀ (M1 : sk_M) (H : Heap) (locs : List Loc) (ls : Array Slot), some M1 = some out → lv_has ls 3 [(0, .ref (sk_ad g 88)), (1, .int a1)] → sk_P g M1 H → va_S (sk_A g) s.heap H locs → W p l e (sk_rm 3) s m av below meth c H locs 0 0 (MQ below (sk_QV g MM) av s 0 0 (sk_A g)) (F0 m 282 ls [])) → W p l e (sk_rm 3) s m av below meth c H locs 0 0 (MQ below (sk_QV g MM) av s 0 0 (sk_A g)) (F0 m 214 ls []) := by
  obtain ⟨hx, hb, hml, hown, hts, hK, hE, hr, hlocks⟩ := id C
  intro n
  induction n with
  | zero =>
    intro M H locs ls hl hM hS out h
    cases h
  | succ n ih =>
    intro M H locs ls hl hM hS out h kx
    rw [f_X7_nextToken_L214] at h
    refine lv_aload_n hx hb dX7_nextToken_214 rfl (lv_at hl 0 rfl) ?_
    refine lv_aload_n hx hb dX7_nextToken_215 rfl (lv_at hl 0 rfl) ?_
    refine sk_getI (o := 88) (ci := 7) (j := 17) C hM rfl rfl (by decide) rfl kw_952 dX7_nextToken_216 ?_
    obtain ⟨x_17, h_18, h⟩ := sk_b1E h
    refine sk_contI (sk_runV (As := [.int (M 88 17)]) (rest := []) C (c_X7_isDigit g l (M 88 17) M h_18) yo_X7_isDigit kw_1314 (sk_recv (ci := 7) C hM rfl rfl) (by decide) hM hS hl.1 rfl rfl (Nat.le_of_ble_eq_true rfl) dX7_nextToken_219) hS (fun H locs hM hS => ?_)
    refine lv_if_eq hx hb dX7_nextToken_222 rfl (fun hc => ?_) (fun hc => ?_)
    · have h := sk_pos h hc
      exact kx _ _ _ _ h (lv_sub hl [0, 1] rfl) hM hS
    · have h := sk_neg h hc
      refine lv_aload_n hx hb dX7_nextToken_225 rfl (lv_at hl 0 rfl) ?_
      refine lv_aload_n hx hb dX7_nextToken_226 rfl (lv_at hl 0 rfl) ?_
      refine sk_getI (o := 88) (ci := 7) (j := 17) C hM rfl rfl (by decide) rfl kw_952 dX7_nextToken_227 ?_
      refine lv_aload_n hx hb dX7_nextToken_230 rfl (lv_at hl 0 rfl) ?_
      refine sk_getI (o := 88) (ci := 7) (j := 16) C hM rfl rfl (by decide) rfl kw_951 dX7_nextToken_231 ?_
      refine lv_isub hx hb dX7_nextToken_234 ?_
      refine lv_iconst (v := 4) hx hb dX7_nextToken_235 (by decide) ?_
      refine lv_icmp_ge hx hb dX7_nextToken_236 rfl (fun hc => ?_) (fun hc => ?_)
      · have h := sk_pos h hc
        refine lv_aload_n hx hb dX7_nextToken_262 rfl (lv_at hl 0 rfl) ?_
        refine sk_getI (o := 88) (ci := 7) (j := 19) C hM rfl rfl (by decide) rfl kw_954 dX7_nextToken_263 ?_
        refine sk_putI (o := 88) (ci := 7) (j := 19) C hM hS rfl rfl (by decide) rfl rfl (tyX7_ok 19 (by decide)) kw_954 dX7_nextToken_266 (fun M_19 eM_19 H locs hM hS => ?_)
        have h := sk_letU h eM_19
        refine lv_aload_n hx hb dX7_nextToken_269 rfl (lv_at hl 0 rfl) ?_
        refine lv_dup hx hb dX7_nextToken_270 rfl ?_
        refine sk_getI (o := 88) (ci := 7) (j := 17) C hM rfl rfl (by decide) rfl kw_952 dX7_nextToken_271 ?_
        refine lv_iconst (v := 1) hx hb dX7_nextToken_274 (by decide) ?_
        refine lv_iadd hx hb dX7_nextToken_275 ?_
        refine sk_putI (o := 88) (ci := 7) (j := 17) C hM hS rfl rfl (by decide) rfl rfl (tyX7_ok 17 (by decide)) kw_952 dX7_nextToken_276 (fun M_20 eM_20 H locs hM hS => ?_)
        have h := sk_letU h eM_20
        refine lv_goto hx hb dX7_nextToken_279 rfl ?_
        exact ih  M_20 _ _ _ (lv_sub hl [0, 1] rfl) hM hS h kx
      · have h := sk_neg h hc
        refine lv_bipush (v := 10) hx hb dX7_nextToken_239 (by decide) ?_
        refine lv_aload_n hx hb dX7_nextToken_241 rfl (lv_at hl 0 rfl) ?_
        refine sk_getI (o := 88) (ci := 7) (j := 19) C hM rfl rfl (by decide) rfl kw_954 dX7_nextToken_242 ?_
        refine lv_imul hx hb dX7_nextToken_245 ?_
        refine lv_aload_n hx hb dX7_nextToken_246 rfl (lv_at hl 0 rfl) ?_
        refine sk_getR (o := 88) (ci := 7) (j := 14) (t := 102) C hM rfl rfl (by decide) rfl rfl kw_949 dX7_nextToken_247 ?_
        refine lv_aload_n hx hb dX7_nextToken_250 rfl (lv_at hl 0 rfl) ?_
        refine sk_getI (o := 88) (ci := 7) (j := 17) C hM rfl rfl (by decide) rfl kw_952 dX7_nextToken_251 ?_
        obtain ⟨i_21, h⟩ := sk_chkE h
        refine sk_iald (o := 102) C hM rfl i_21 dX7_nextToken_254 ?_
        refine lv_iadd hx hb dX7_nextToken_255 ?_
        refine lv_bipush (v := 48) hx hb dX7_nextToken_256 (by decide) ?_
        refine lv_isub hx hb dX7_nextToken_258 ?_
        refine lv_goto hx hb dX7_nextToken_259 rfl ?_
        refine sk_putI (o := 88) (ci := 7) (j := 19) C hM hS rfl rfl (by decide) rfl rfl (tyX7_ok 19 (by decide)) kw_954 dX7_nextToken_266 (fun M_22 eM_22 H locs hM hS => ?_)
        have h := sk_letU h eM_22
        refine lv_aload_n hx hb dX7_nextToken_269 rfl (lv_at hl 0 rfl) ?_
        refine lv_dup hx hb dX7_nextToken_270 rfl ?_
        refine sk_getI (o := 88) (ci := 7) (j := 17) C hM rfl rfl (by decide) rfl kw_952 dX7_nextToken_271 ?_
        refine lv_iconst (v := 1) hx hb dX7_nextToken_274 (by decide) ?_
        refine lv_iadd hx hb dX7_nextToken_275 ?_
        refine sk_putI (o := 88) (ci := 7) (j := 17) C hM hS rfl rfl (by decide) rfl rfl (tyX7_ok 17 (by decide)) kw_952 dX7_nextToken_276 (fun M_23 eM_23 H locs hM hS => ?_)
        have h := sk_letU h eM_23
        refine lv_goto hx hb dX7_nextToken_279 rfl ?_
        exact ih  M_23 _ _ _ (lv_sub hl [0, 1] rfl) hM hS h kx
set_option maxHeartbeats 4000000 in
set_option maxRecDepth 100000 in
theorem w_X7_nextToken_L128 {g : sk_G} {l : Launch} {p : Program} {e : Env} {s : State} {m : MethodId} {av : Array Value} {below : List Frame} {meth : Method} {c : Code} (C : sk_C g p s m av meth c cX7_nextToken 3 RX7 none) (a1 : Int32) {MM : sk_M} :
    ∀ (n : Nat) (M : sk_M) (H : Heap) (locs : List Loc) (ls : Array Slot), lv_has ls 3 [(0, .ref (sk_ad g 88)), (1, .int a1)] → sk_P g M H → va_S (sk_A g) s.heap H locs → ∀ {out : sk_M}, f_X7_nextToken_L128 a1 n M = some out → (∀ (M1 : sk_M) (H : Heap) (locs : List Loc) (ls : Array Slot), some M1 = some out → lv_has ls 3 [(0, .ref (sk_ad g 88)), (1, .int a1)] → sk_P g M1 H → va_S (sk_A g) s.heap H locs → W p l e (sk_rm 3) s m av below meth c H locs 0 0 (MQ below (sk_QV g MM) av s 0 0 (sk_A g)) (F0 m 152 ls [])) → W p l e (sk_rm 3) s m av below meth c H locs 0 0 (MQ below (sk_QV g MM) av s 0 0 (sk_A g)) (F0 m 128 ls []) := by
  obtain ⟨hx, hb, hml, hown, hts, hK, hE, hr, hlocks⟩ := id C
  intro n
  induction n with
  | zero =>
    intro M H locs ls hl hM hS out h
    cases h
  | succ n ih =>
    intro M H locs ls hl hM hS out h kx
    rw [f_X7_nextToken_L128] at h
    refine lv_aload_n hx hb dX7_nextToken_128 rfl (lv_at hl 0 rfl) ?_
    refine lv_aload_n hx hb dX7_nextToken_129 rfl (lv_at hl 0 rfl) ?_
    refine sk_getI (o := 88) (ci := 7) (j := 17) C hM rfl rfl (by decide) rfl kw_952 dX7_nextToken_130 ?_
    obtain ⟨x_28, h_29, h⟩ := sk_b1E h
    refine sk_contI (sk_runV (As := [.int (M 88 17)]) (rest := []) C (c_X7_isLetter g l (M 88 17) M h_29) yo_X7_isLetter kw_1308 (sk_recv (ci := 7) C hM rfl rfl) (by decide) hM hS hl.1 rfl rfl (Nat.le_of_ble_eq_true rfl) dX7_nextToken_133) hS (fun H locs hM hS => ?_)
    refine lv_if_eq hx hb dX7_nextToken_136 rfl (fun hc => ?_) (fun hc => ?_)
    · have h := sk_pos h hc
      exact kx _ _ _ _ h (lv_sub hl [0, 1] rfl) hM hS
    · have h := sk_neg h hc
      refine lv_aload_n hx hb dX7_nextToken_139 rfl (lv_at hl 0 rfl) ?_
      refine lv_dup hx hb dX7_nextToken_140 rfl ?_
      refine sk_getI (o := 88) (ci := 7) (j := 17) C hM rfl rfl (by decide) rfl kw_952 dX7_nextToken_141 ?_
      refine lv_iconst (v := 1) hx hb dX7_nextToken_144 (by decide) ?_
      refine lv_iadd hx hb dX7_nextToken_145 ?_
      refine sk_putI (o := 88) (ci := 7) (j := 17) C hM hS rfl rfl (by decide) rfl rfl (tyX7_ok 17 (by decide)) kw_952 dX7_nextToken_146 (fun M_30 eM_30 H locs hM hS => ?_)
      have h := sk_letU h eM_30
      refine lv_goto hx hb dX7_nextToken_149 rfl ?_
      exact ih  M_30 _ _ _ (lv_sub hl [0, 1] rfl) hM hS h kx
set_option maxHeartbeats 4000000 in
set_option maxRecDepth 100000 in
theorem c_X7_nextToken (g : sk_G) (l : Launch)  (M : sk_M) {MM : sk_M} (h : f_X7_nextToken M = some MM) : sk_MV g l yX7_nextToken cX7_nextToken 3 none 3 [.ref (sk_ad g 88)] M MM := by
  refine sk_go [(0, .ref (sk_ad g 88))] (by decide) (Nat.le_of_ble_eq_true rfl) rfl ?_
  intro p e s m av below meth c C ls hl hM hS
  obtain ⟨hx, hb, hml, hown, hts, hK, hE, hr, hlocks⟩ := id C
  rw [f_X7_nextToken] at h
  refine lv_aload_n hx hb dX7_nextToken_0 rfl (lv_at hl 0 rfl) ?_
  refine sk_getI (o := 88) (ci := 7) (j := 17) C hM rfl rfl (by decide) rfl kw_952 dX7_nextToken_1 ?_
  have J : ∀ (vv : Int32) (H : Heap) (locs : List Loc), (if (M 88 17) ≤ 0 then 0 else (if (M 88 18) = 1 then 1 else (if (M 88 18) = 2 then 1 else 0 : Int32) : Int32) : Int32) = vv → sk_P g M H → va_S (sk_A g) s.heap H locs → W p l e (sk_rm 3) s m av below meth c H locs 0 0 (MQ below (sk_QV g MM) av s 0 0 (sk_A g)) (F0 m 28 ls [.int vv]) := by
    intro vv H locs hvv hM hS
    subst hvv
    refine lv_topi (fun x_1 ex_1 => ?_)
    have h := sk_letU h ex_1
    refine lv_istore_n (lv' := [(1, .int x_1), (0, .ref (sk_ad g 88))]) hx hb dX7_nextToken_28 rfl hl (by decide) rfl (fun ls hl => ?_)
    refine lv_aload_n hx hb dX7_nextToken_29 rfl (lv_at hl 1 rfl) ?_
    refine sk_getI (o := 88) (ci := 7) (j := 17) C hM rfl rfl (by decide) rfl kw_952 dX7_nextToken_30 ?_
    refine lv_topi (fun x_2 ex_2 => ?_)
    have h := sk_letU h ex_2
    refine lv_istore_n (lv' := [(2, .int x_2), (1, .int x_1), (0, .ref (sk_ad g 88))]) hx hb dX7_nextToken_33 rfl hl (by decide) rfl (fun ls hl => ?_)
    obtain ⟨M_5, h_39, h⟩ := sk_b1E h
    refine w_X7_nextToken_L34 C x_1 x_2 sk_FU M _ _ _ (lv_sub hl [2, 1, 0] rfl) hM hS h_39 (fun y_40 H locs ls he hl hM hS => ?_)
    obtain rfl := Option.some.inj he
    refine lv_iload_n hx hb dX7_nextToken_72 rfl (lv_at hl 1 rfl) ?_
    have J : ∀ (vv : Int32) (H : Heap) (locs : List Loc), (if x_1 = 0 then 0 else (if x_2 = (y_40 88 17) then 1 else 0 : Int32) : Int32) = vv → sk_P g y_40 H → va_S (sk_A g) s.heap H locs → W p l e (sk_rm 3) s m av below meth c H locs 0 0 (MQ below (sk_QV g MM) av s 0 0 (sk_A g)) (F0 m 89 ls [.int vv]) := by
      intro vv H locs hvv hM hS
      subst hvv
      refine lv_topi (fun x_6 ex_6 => ?_)
      have h := sk_letU h ex_6
      refine lv_istore_n (lv' := [(1, .int x_6), (0, .ref (sk_ad g 88)), (2, .int x_2)]) hx hb dX7_nextToken_89 rfl hl (by decide) rfl (fun ls hl => ?_)
      refine lv_aload_n hx hb dX7_nextToken_90 rfl (lv_at hl 1 rfl) ?_
      refine lv_aload_n hx hb dX7_nextToken_91 rfl (lv_at hl 1 rfl) ?_
      refine sk_getI (o := 88) (ci := 7) (j := 17) C hM rfl rfl (by decide) rfl kw_952 dX7_nextToken_92 ?_
      refine sk_putI (o := 88) (ci := 7) (j := 16) C hM hS rfl rfl (by decide) rfl rfl (tyX7_ok 16 (by decide)) kw_951 dX7_nextToken_95 (fun M_7 eM_7 H locs hM hS => ?_)
      have h := sk_letU h eM_7
      refine lv_aload_n hx hb dX7_nextToken_98 rfl (lv_at hl 1 rfl) ?_
      refine sk_getI (o := 88) (ci := 7) (j := 16) C hM rfl rfl (by decide) rfl kw_951 dX7_nextToken_99 ?_
      refine lv_aload_n hx hb dX7_nextToken_102 rfl (lv_at hl 1 rfl) ?_
      refine sk_getI (o := 88) (ci := 7) (j := 15) C hM rfl rfl (by decide) rfl kw_950 dX7_nextToken_103 ?_
      refine lv_icmp_ne hx hb dX7_nextToken_106 rfl (fun hc => ?_) (fun hc => ?_)
      · have h := sk_neg h hc
        refine lv_aload_n hx hb dX7_nextToken_117 rfl (lv_at hl 1 rfl) ?_
        refine lv_aload_n hx hb dX7_nextToken_118 rfl (lv_at hl 1 rfl) ?_
        refine sk_getI (o := 88) (ci := 7) (j := 16) C hM rfl rfl (by decide) rfl kw_951 dX7_nextToken_119 ?_
        obtain ⟨x_8, h_9, h⟩ := sk_b1E h
        refine sk_contI (sk_runV (As := [.int (M_7 88 16)]) (rest := []) C (c_X7_isLetter g l (M_7 88 16) M_7 h_9) yo_X7_isLetter kw_1308 (sk_recv (ci := 7) C hM rfl rfl) (by decide) hM hS hl.1 rfl rfl (Nat.le_of_ble_eq_true rfl) dX7_nextToken_122) hS (fun H locs hM hS => ?_)
        refine lv_if_eq hx hb dX7_nextToken_125 rfl (fun hc => ?_) (fun hc => ?_)
        · have h := sk_pos h hc
          refine lv_aload_n hx hb dX7_nextToken_198 rfl (lv_at hl 1 rfl) ?_
          refine lv_aload_n hx hb dX7_nextToken_199 rfl (lv_at hl 1 rfl) ?_
          refine sk_getI (o := 88) (ci := 7) (j := 16) C hM rfl rfl (by decide) rfl kw_951 dX7_nextToken_200 ?_
          obtain ⟨x_10, h_11, h⟩ := sk_b1E h
          refine sk_contI (sk_runV (As := [.int (M_7 88 16)]) (rest := []) C (c_X7_isDigit g l (M_7 88 16) M_7 h_11) yo_X7_isDigit kw_1314 (sk_recv (ci := 7) C hM rfl rfl) (by decide) hM hS hl.1 rfl rfl (Nat.le_of_ble_eq_true rfl) dX7_nextToken_203) hS (fun H locs hM hS => ?_)
          refine lv_if_eq hx hb dX7_nextToken_206 rfl (fun hc => ?_) (fun hc => ?_)
          · have h := sk_pos h hc
            refine lv_aload_n hx hb dX7_nextToken_311 rfl (lv_at hl 1 rfl) ?_
            refine lv_iconst (v := 3) hx hb dX7_nextToken_312 (by decide) ?_
            refine sk_putI (o := 88) (ci := 7) (j := 18) C hM hS rfl rfl (by decide) rfl rfl (tyX7_ok 18 (by decide)) kw_953 dX7_nextToken_313 (fun M_12 eM_12 H locs hM hS => ?_)
            have h := sk_letU h eM_12
            refine lv_aload_n hx hb dX7_nextToken_316 rfl (lv_at hl 1 rfl) ?_
            refine lv_aload_n hx hb dX7_nextToken_317 rfl (lv_at hl 1 rfl) ?_
            refine sk_getR (o := 88) (ci := 7) (j := 14) (t := 102) C hM rfl rfl (by decide) rfl rfl kw_949 dX7_nextToken_318 ?_
            refine lv_aload_n hx hb dX7_nextToken_321 rfl (lv_at hl 1 rfl) ?_
            refine sk_getI (o := 88) (ci := 7) (j := 16) C hM rfl rfl (by decide) rfl kw_951 dX7_nextToken_322 ?_
            obtain ⟨i_13, h⟩ := sk_chkE h
            refine sk_iald (o := 102) C hM rfl i_13 dX7_nextToken_325 ?_
            refine sk_putI (o := 88) (ci := 7) (j := 20) C hM hS rfl rfl (by decide) rfl rfl (tyX7_ok 20 (by decide)) kw_955 dX7_nextToken_326 (fun M_14 eM_14 H locs hM hS => ?_)
            have h := sk_letU h eM_14
            refine lv_aload_n hx hb dX7_nextToken_329 rfl (lv_at hl 1 rfl) ?_
            refine lv_dup hx hb dX7_nextToken_330 rfl ?_
            refine sk_getI (o := 88) (ci := 7) (j := 17) C hM rfl rfl (by decide) rfl kw_952 dX7_nextToken_331 ?_
            refine lv_iconst (v := 1) hx hb dX7_nextToken_334 (by decide) ?_
            refine lv_iadd hx hb dX7_nextToken_335 ?_
            refine sk_putI (o := 88) (ci := 7) (j := 17) C hM hS rfl rfl (by decide) rfl rfl (tyX7_ok 17 (by decide)) kw_952 dX7_nextToken_336 (fun M_15 eM_15 H locs hM hS => ?_)
            have h := sk_letU h eM_15
            exact sk_vret C hM hS (Option.some.inj h) dX7_nextToken_339
          · have h := sk_neg h hc
            refine lv_aload_n hx hb dX7_nextToken_209 rfl (lv_at hl 1 rfl) ?_
            refine lv_iconst (v := 0) hx hb dX7_nextToken_210 (by decide) ?_
            refine sk_putI (o := 88) (ci := 7) (j := 19) C hM hS rfl rfl (by decide) rfl rfl (tyX7_ok 19 (by decide)) kw_954 dX7_nextToken_211 (fun M_16 eM_16 H locs hM hS => ?_)
            have h := sk_letU h eM_16
            obtain ⟨M_24, h_26, h⟩ := sk_b1E h
            refine w_X7_nextToken_L214 C x_6 sk_FU M_16 _ _ _ (lv_sub hl [1, 0] rfl) hM hS h_26 (fun y_27 H locs ls he hl hM hS => ?_)
            obtain rfl := Option.some.inj he
            refine lv_aload_n hx hb dX7_nextToken_282 rfl (lv_at hl 0 rfl) ?_
            refine lv_iload_n hx hb dX7_nextToken_283 rfl (lv_at hl 1 rfl) ?_
            have J : ∀ (vv : Int32) (H : Heap) (locs : List Loc), (if x_6 = 0 then (if ((y_27 88 17) - (y_27 88 16)) ≤ 4 then 2 else 4 : Int32) else 4 : Int32) = vv → sk_P g y_27 H → va_S (sk_A g) s.heap H locs → W p l e (sk_rm 3) s m av below meth c H locs 0 0 (MQ below (sk_QV g MM) av s 0 0 (sk_A g)) (F0 m 305 ls [.int vv, .ref (sk_ad g 88)]) := by
              intro vv H locs hvv hM hS
              subst hvv
              refine sk_putI (o := 88) (ci := 7) (j := 18) C hM hS rfl rfl (by decide) rfl rfl (tyX7_ok 18 (by decide)) kw_953 dX7_nextToken_305 (fun M_25 eM_25 H locs hM hS => ?_)
              have h := sk_letU h eM_25
              refine lv_goto hx hb dX7_nextToken_308 rfl ?_
              exact sk_vret C hM hS (Option.some.inj h) dX7_nextToken_339
            refine lv_if_ne hx hb dX7_nextToken_284 rfl (fun hc => ?_) (fun hc => ?_)
            · have J := fun vv H locs q => J vv H locs ((if_neg hc).trans q)
              refine lv_iconst (v := 4) hx hb dX7_nextToken_300 (by decide) ?_
              refine lv_goto hx hb dX7_nextToken_301 rfl ?_
              exact J _ _ _ rfl hM hS
            · have J := fun vv H locs q => J vv H locs ((if_pos hc).trans q)
              refine lv_aload_n hx hb dX7_nextToken_287 rfl (lv_at hl 0 rfl) ?_
              refine sk_getI (o := 88) (ci := 7) (j := 17) C hM rfl rfl (by decide) rfl kw_952 dX7_nextToken_288 ?_
              refine lv_aload_n hx hb dX7_nextToken_291 rfl (lv_at hl 0 rfl) ?_
              refine sk_getI (o := 88) (ci := 7) (j := 16) C hM rfl rfl (by decide) rfl kw_951 dX7_nextToken_292 ?_
              refine lv_isub hx hb dX7_nextToken_295 ?_
              refine lv_iconst (v := 4) hx hb dX7_nextToken_296 (by decide) ?_
              refine lv_icmp_le hx hb dX7_nextToken_297 rfl (fun hc => ?_) (fun hc => ?_)
              · have J := fun vv H locs q => J vv H locs ((if_pos hc).trans q)
                refine lv_iconst (v := 2) hx hb dX7_nextToken_304 (by decide) ?_
                exact J _ _ _ rfl hM hS
              · have J := fun vv H locs q => J vv H locs ((if_neg hc).trans q)
                refine lv_iconst (v := 4) hx hb dX7_nextToken_300 (by decide) ?_
                refine lv_goto hx hb dX7_nextToken_301 rfl ?_
                exact J _ _ _ rfl hM hS
        · have h := sk_neg h hc
          obtain ⟨M_31, h_36, h⟩ := sk_b1E h
          refine w_X7_nextToken_L128 C x_6 sk_FU M_7 _ _ _ (lv_sub hl [1, 0] rfl) hM hS h_36 (fun y_37 H locs ls he hl hM hS => ?_)
          obtain rfl := Option.some.inj he
          refine lv_aload_n hx hb dX7_nextToken_152 rfl (lv_at hl 0 rfl) ?_
          refine lv_iload_n hx hb dX7_nextToken_153 rfl (lv_at hl 1 rfl) ?_
          have J : ∀ (vv : Int32) (H : Heap) (locs : List Loc), (if x_6 = 0 then 1 else 4 : Int32) = vv → sk_P g y_37 H → va_S (sk_A g) s.heap H locs → W p l e (sk_rm 3) s m av below meth c H locs 0 0 (MQ below (sk_QV g MM) av s 0 0 (sk_A g)) (F0 m 162 ls [.int vv, .ref (sk_ad g 88)]) := by
            intro vv H locs hvv hM hS
            subst hvv
            refine sk_putI (o := 88) (ci := 7) (j := 18) C hM hS rfl rfl (by decide) rfl rfl (tyX7_ok 18 (by decide)) kw_953 dX7_nextToken_162 (fun M_32 eM_32 H locs hM hS => ?_)
            have h := sk_letU h eM_32
            refine lv_aload_n hx hb dX7_nextToken_165 rfl (lv_at hl 0 rfl) ?_
            refine lv_aload_n hx hb dX7_nextToken_166 rfl (lv_at hl 0 rfl) ?_
            refine sk_getI (o := 88) (ci := 7) (j := 17) C hM rfl rfl (by decide) rfl kw_952 dX7_nextToken_167 ?_
            refine lv_aload_n hx hb dX7_nextToken_170 rfl (lv_at hl 0 rfl) ?_
            refine sk_getI (o := 88) (ci := 7) (j := 16) C hM rfl rfl (by decide) rfl kw_951 dX7_nextToken_171 ?_
            refine lv_isub hx hb dX7_nextToken_174 ?_
            refine lv_iconst (v := 1) hx hb dX7_nextToken_175 (by decide) ?_
            refine lv_icmp_ne hx hb dX7_nextToken_176 rfl (fun hc => ?_) (fun hc => ?_)
            · have h := sk_neg h hc
              refine lv_iconst (v := 0) hx hb dX7_nextToken_191 (by decide) ?_
              refine sk_putI (o := 88) (ci := 7) (j := 20) C hM hS rfl rfl (by decide) rfl rfl (tyX7_ok 20 (by decide)) kw_955 dX7_nextToken_192 (fun M_33 eM_33 H locs hM hS => ?_)
              have h := sk_letU h eM_33
              refine lv_goto hx hb dX7_nextToken_195 rfl ?_
              exact sk_vret C hM hS (Option.some.inj h) dX7_nextToken_339
            · have h := sk_pos h hc
              refine lv_aload_n hx hb dX7_nextToken_179 rfl (lv_at hl 0 rfl) ?_
              refine sk_getR (o := 88) (ci := 7) (j := 14) (t := 102) C hM rfl rfl (by decide) rfl rfl kw_949 dX7_nextToken_180 ?_
              refine lv_aload_n hx hb dX7_nextToken_183 rfl (lv_at hl 0 rfl) ?_
              refine sk_getI (o := 88) (ci := 7) (j := 16) C hM rfl rfl (by decide) rfl kw_951 dX7_nextToken_184 ?_
              obtain ⟨i_34, h⟩ := sk_chkE h
              refine sk_iald (o := 102) C hM rfl i_34 dX7_nextToken_187 ?_
              refine lv_goto hx hb dX7_nextToken_188 rfl ?_
              refine sk_putI (o := 88) (ci := 7) (j := 20) C hM hS rfl rfl (by decide) rfl rfl (tyX7_ok 20 (by decide)) kw_955 dX7_nextToken_192 (fun M_35 eM_35 H locs hM hS => ?_)
              have h := sk_letU h eM_35
              refine lv_goto hx hb dX7_nextToken_195 rfl ?_
              exact sk_vret C hM hS (Option.some.inj h) dX7_nextToken_339
          refine lv_if_eq hx hb dX7_nextToken_154 rfl (fun hc => ?_) (fun hc => ?_)
          · have J := fun vv H locs q => J vv H locs ((if_pos hc).trans q)
            refine lv_iconst (v := 1) hx hb dX7_nextToken_161 (by decide) ?_
            exact J _ _ _ rfl hM hS
          · have J := fun vv H locs q => J vv H locs ((if_neg hc).trans q)
            refine lv_iconst (v := 4) hx hb dX7_nextToken_157 (by decide) ?_
            refine lv_goto hx hb dX7_nextToken_158 rfl ?_
            exact J _ _ _ rfl hM hS
      · have h := sk_pos h hc
        refine lv_aload_n hx hb dX7_nextToken_109 rfl (lv_at hl 1 rfl) ?_
        refine lv_iconst (v := 0) hx hb dX7_nextToken_110 (by decide) ?_
        refine sk_putI (o := 88) (ci := 7) (j := 18) C hM hS rfl rfl (by decide) rfl rfl (tyX7_ok 18 (by decide)) kw_953 dX7_nextToken_111 (fun M_38 eM_38 H locs hM hS => ?_)
        have h := sk_letU h eM_38
        refine lv_goto hx hb dX7_nextToken_114 rfl ?_
        exact sk_vret C hM hS (Option.some.inj h) dX7_nextToken_339
    refine lv_if_eq hx hb dX7_nextToken_73 rfl (fun hc => ?_) (fun hc => ?_)
    · have J := fun vv H locs q => J vv H locs ((if_pos hc).trans q)
      refine lv_iconst (v := 0) hx hb dX7_nextToken_88 (by decide) ?_
      exact J _ _ _ rfl hM hS
    · have J := fun vv H locs q => J vv H locs ((if_neg hc).trans q)
      refine lv_iload_n hx hb dX7_nextToken_76 rfl (lv_at hl 2 rfl) ?_
      refine lv_aload_n hx hb dX7_nextToken_77 rfl (lv_at hl 0 rfl) ?_
      refine sk_getI (o := 88) (ci := 7) (j := 17) C hM rfl rfl (by decide) rfl kw_952 dX7_nextToken_78 ?_
      refine lv_icmp_ne hx hb dX7_nextToken_81 rfl (fun hc => ?_) (fun hc => ?_)
      · have J := fun vv H locs q => J vv H locs ((if_neg hc).trans q)
        refine lv_iconst (v := 0) hx hb dX7_nextToken_88 (by decide) ?_
        exact J _ _ _ rfl hM hS
      · have J := fun vv H locs q => J vv H locs ((if_pos hc).trans q)
        refine lv_iconst (v := 1) hx hb dX7_nextToken_84 (by decide) ?_
        refine lv_goto hx hb dX7_nextToken_85 rfl ?_
        exact J _ _ _ rfl hM hS
  refine lv_if_le hx hb dX7_nextToken_4 rfl (fun hc => ?_) (fun hc => ?_)
  · have J := fun vv H locs q => J vv H locs ((if_pos hc).trans q)
    refine lv_iconst (v := 0) hx hb dX7_nextToken_27 (by decide) ?_
    exact J _ _ _ rfl hM hS
  · have J := fun vv H locs q => J vv H locs ((if_neg hc).trans q)
    refine lv_aload_n hx hb dX7_nextToken_7 rfl (lv_at hl 0 rfl) ?_
    refine sk_getI (o := 88) (ci := 7) (j := 18) C hM rfl rfl (by decide) rfl kw_953 dX7_nextToken_8 ?_
    refine lv_iconst (v := 1) hx hb dX7_nextToken_11 (by decide) ?_
    refine lv_icmp_eq hx hb dX7_nextToken_12 rfl (fun hc => ?_) (fun hc => ?_)
    · have J := fun vv H locs q => J vv H locs ((if_pos hc).trans q)
      refine lv_iconst (v := 1) hx hb dX7_nextToken_23 (by decide) ?_
      refine lv_goto hx hb dX7_nextToken_24 rfl ?_
      exact J _ _ _ rfl hM hS
    · have J := fun vv H locs q => J vv H locs ((if_neg hc).trans q)
      refine lv_aload_n hx hb dX7_nextToken_15 rfl (lv_at hl 0 rfl) ?_
      refine sk_getI (o := 88) (ci := 7) (j := 18) C hM rfl rfl (by decide) rfl kw_953 dX7_nextToken_16 ?_
      refine lv_iconst (v := 2) hx hb dX7_nextToken_19 (by decide) ?_
      refine lv_icmp_ne hx hb dX7_nextToken_20 rfl (fun hc => ?_) (fun hc => ?_)
      · have J := fun vv H locs q => J vv H locs ((if_neg hc).trans q)
        refine lv_iconst (v := 0) hx hb dX7_nextToken_27 (by decide) ?_
        exact J _ _ _ rfl hM hS
      · have J := fun vv H locs q => J vv H locs ((if_pos hc).trans q)
        refine lv_iconst (v := 1) hx hb dX7_nextToken_23 (by decide) ?_
        refine lv_goto hx hb dX7_nextToken_24 rfl ?_
        exact J _ _ _ rfl hM hS
theorem dX7_isSign_0 : decode cX7_isSign 0 = .ok (.aload_n 0, 1) := by decide +kernel
theorem dX7_isSign_1 : decode cX7_isSign 1 = .ok (.getfield 207, 3) := by decide +kernel
theorem dX7_isSign_4 : decode cX7_isSign 4 = .ok (.iconst 3, 1) := by decide +kernel
theorem dX7_isSign_5 : decode cX7_isSign 5 = .ok (.if_icmp .ne 15, 3) := by decide +kernel
theorem dX7_isSign_8 : decode cX7_isSign 8 = .ok (.aload_n 0, 1) := by decide +kernel
theorem dX7_isSign_9 : decode cX7_isSign 9 = .ok (.getfield 216, 3) := by decide +kernel
theorem dX7_isSign_12 : decode cX7_isSign 12 = .ok (.iload_n 1, 1) := by decide +kernel
theorem dX7_isSign_13 : decode cX7_isSign 13 = .ok (.if_icmp .ne 7, 3) := by decide +kernel
theorem dX7_isSign_16 : decode cX7_isSign 16 = .ok (.iconst 1, 1) := by decide +kernel
theorem dX7_isSign_17 : decode cX7_isSign 17 = .ok (.goto 4, 3) := by decide +kernel
theorem dX7_isSign_20 : decode cX7_isSign 20 = .ok (.iconst 0, 1) := by decide +kernel
theorem dX7_isSign_21 : decode cX7_isSign 21 = .ok (.ireturn, 1) := by decide +kernel
set_option maxHeartbeats 4000000 in
set_option maxRecDepth 100000 in
theorem c_X7_isSign (g : sk_G) (l : Launch) (a1 : Int32) (M : sk_M) {rr : Int32} (h : f_X7_isSign a1 M = rr) : sk_MI g l yX7_isSign cX7_isSign 2 (some .boolean) 1 [.ref (sk_ad g 88), .int a1] M rr M := by
  refine sk_go [(0, .ref (sk_ad g 88)), (1, .int a1)] (by decide) (Nat.le_of_ble_eq_true rfl) rfl ?_
  intro p e s m av below meth c C ls hl hM hS
  obtain ⟨hx, hb, hml, hown, hts, hK, hE, hr, hlocks⟩ := id C
  rw [f_X7_isSign] at h
  refine lv_aload_n hx hb dX7_isSign_0 rfl (lv_at hl 0 rfl) ?_
  refine sk_getI (o := 88) (ci := 7) (j := 18) C hM rfl rfl (by decide) rfl kw_953 dX7_isSign_1 ?_
  refine lv_iconst (v := 3) hx hb dX7_isSign_4 (by decide) ?_
  have J : ∀ (vv : Int32) (H : Heap) (locs : List Loc), (if (M 88 18) = 3 then (if (M 88 20) = a1 then 1 else 0 : Int32) else 0 : Int32) = vv → sk_P g M H → va_S (sk_A g) s.heap H locs → W p l e (sk_rm 1) s m av below meth c H locs 0 0 (MQ below (sk_QI g rr M) av s 0 0 (sk_A g)) (F0 m 21 ls [.int vv]) := by
    intro vv H locs hvv hM hS
    subst hvv
    exact sk_zret C hM hS (sk_nz (sk_zi (sk_zi (Or.inr rfl) (Or.inl rfl)) (Or.inl rfl))) ⟨h, rfl⟩ dX7_isSign_21
  refine lv_icmp_ne hx hb dX7_isSign_5 rfl (fun hc => ?_) (fun hc => ?_)
  · have J := fun vv H locs q => J vv H locs ((if_neg hc).trans q)
    refine lv_iconst (v := 0) hx hb dX7_isSign_20 (by decide) ?_
    exact J _ _ _ rfl hM hS
  · have J := fun vv H locs q => J vv H locs ((if_pos hc).trans q)
    refine lv_aload_n hx hb dX7_isSign_8 rfl (lv_at hl 0 rfl) ?_
    refine sk_getI (o := 88) (ci := 7) (j := 20) C hM rfl rfl (by decide) rfl kw_955 dX7_isSign_9 ?_
    refine lv_iload_n hx hb dX7_isSign_12 rfl (lv_at hl 1 rfl) ?_
    refine lv_icmp_ne hx hb dX7_isSign_13 rfl (fun hc => ?_) (fun hc => ?_)
    · have J := fun vv H locs q => J vv H locs ((if_neg hc).trans q)
      refine lv_iconst (v := 0) hx hb dX7_isSign_20 (by decide) ?_
      exact J _ _ _ rfl hM hS
    · have J := fun vv H locs q => J vv H locs ((if_pos hc).trans q)
      refine lv_iconst (v := 1) hx hb dX7_isSign_16 (by decide) ?_
      refine lv_goto hx hb dX7_isSign_17 rfl ?_
      exact J _ _ _ rfl hM hS
theorem dX7_isWordAt_0 : decode cX7_isWordAt 0 = .ok (.iload 4, 2) := by decide +kernel
theorem dX7_isWordAt_2 : decode cX7_isWordAt 2 = .ok (.ifCond .ne 7, 3) := by decide +kernel
theorem dX7_isWordAt_5 : decode cX7_isWordAt 5 = .ok (.iconst 3, 1) := by decide +kernel
theorem dX7_isWordAt_6 : decode cX7_isWordAt 6 = .ok (.goto 4, 3) := by decide +kernel
theorem dX7_isWordAt_9 : decode cX7_isWordAt 9 = .ok (.iconst 4, 1) := by decide +kernel
theorem dX7_isWordAt_10 : decode cX7_isWordAt 10 = .ok (.istore 5, 2) := by decide +kernel
theorem dX7_isWordAt_12 : decode cX7_isWordAt 12 = .ok (.aload_n 0, 1) := by decide +kernel
theorem dX7_isWordAt_13 : decode cX7_isWordAt 13 = .ok (.getfield 207, 3) := by decide +kernel
theorem dX7_isWordAt_16 : decode cX7_isWordAt 16 = .ok (.iconst 1, 1) := by decide +kernel
theorem dX7_isWordAt_17 : decode cX7_isWordAt 17 = .ok (.if_icmp .ne 85, 3) := by decide +kernel
theorem dX7_isWordAt_20 : decode cX7_isWordAt 20 = .ok (.aload_n 0, 1) := by decide +kernel
theorem dX7_isWordAt_21 : decode cX7_isWordAt 21 = .ok (.getfield 204, 3) := by decide +kernel
theorem dX7_isWordAt_24 : decode cX7_isWordAt 24 = .ok (.aload_n 0, 1) := by decide +kernel
theorem dX7_isWordAt_25 : decode cX7_isWordAt 25 = .ok (.getfield 210, 3) := by decide +kernel
theorem dX7_isWordAt_28 : decode cX7_isWordAt 28 = .ok (.isub, 1) := by decide +kernel
theorem dX7_isWordAt_29 : decode cX7_isWordAt 29 = .ok (.iload 5, 2) := by decide +kernel
theorem dX7_isWordAt_31 : decode cX7_isWordAt 31 = .ok (.if_icmp .ne 71, 3) := by decide +kernel
theorem dX7_isWordAt_34 : decode cX7_isWordAt 34 = .ok (.aload_n 0, 1) := by decide +kernel
theorem dX7_isWordAt_35 : decode cX7_isWordAt 35 = .ok (.getfield 49, 3) := by decide +kernel
theorem dX7_isWordAt_38 : decode cX7_isWordAt 38 = .ok (.aload_n 0, 1) := by decide +kernel
theorem dX7_isWordAt_39 : decode cX7_isWordAt 39 = .ok (.getfield 210, 3) := by decide +kernel
theorem dX7_isWordAt_42 : decode cX7_isWordAt 42 = .ok (.iaload, 1) := by decide +kernel
theorem dX7_isWordAt_43 : decode cX7_isWordAt 43 = .ok (.iload_n 1, 1) := by decide +kernel
theorem dX7_isWordAt_44 : decode cX7_isWordAt 44 = .ok (.if_icmp .ne 58, 3) := by decide +kernel
theorem dX7_isWordAt_47 : decode cX7_isWordAt 47 = .ok (.aload_n 0, 1) := by decide +kernel
theorem dX7_isWordAt_48 : decode cX7_isWordAt 48 = .ok (.getfield 49, 3) := by decide +kernel
theorem dX7_isWordAt_51 : decode cX7_isWordAt 51 = .ok (.aload_n 0, 1) := by decide +kernel
theorem dX7_isWordAt_52 : decode cX7_isWordAt 52 = .ok (.getfield 210, 3) := by decide +kernel
theorem dX7_isWordAt_55 : decode cX7_isWordAt 55 = .ok (.iconst 1, 1) := by decide +kernel
theorem dX7_isWordAt_56 : decode cX7_isWordAt 56 = .ok (.iadd, 1) := by decide +kernel
theorem dX7_isWordAt_57 : decode cX7_isWordAt 57 = .ok (.iaload, 1) := by decide +kernel
theorem dX7_isWordAt_58 : decode cX7_isWordAt 58 = .ok (.iload_n 2, 1) := by decide +kernel
theorem dX7_isWordAt_59 : decode cX7_isWordAt 59 = .ok (.if_icmp .ne 43, 3) := by decide +kernel
theorem dX7_isWordAt_62 : decode cX7_isWordAt 62 = .ok (.aload_n 0, 1) := by decide +kernel
theorem dX7_isWordAt_63 : decode cX7_isWordAt 63 = .ok (.getfield 49, 3) := by decide +kernel
theorem dX7_isWordAt_66 : decode cX7_isWordAt 66 = .ok (.aload_n 0, 1) := by decide +kernel
theorem dX7_isWordAt_67 : decode cX7_isWordAt 67 = .ok (.getfield 210, 3) := by decide +kernel
theorem dX7_isWordAt_70 : decode cX7_isWordAt 70 = .ok (.iconst 2, 1) := by decide +kernel
theorem dX7_isWordAt_71 : decode cX7_isWordAt 71 = .ok (.iadd, 1) := by decide +kernel
theorem dX7_isWordAt_72 : decode cX7_isWordAt 72 = .ok (.iaload, 1) := by decide +kernel
theorem dX7_isWordAt_73 : decode cX7_isWordAt 73 = .ok (.iload_n 3, 1) := by decide +kernel
theorem dX7_isWordAt_74 : decode cX7_isWordAt 74 = .ok (.if_icmp .ne 28, 3) := by decide +kernel
theorem dX7_isWordAt_77 : decode cX7_isWordAt 77 = .ok (.iload 4, 2) := by decide +kernel
theorem dX7_isWordAt_79 : decode cX7_isWordAt 79 = .ok (.ifCond .eq 19, 3) := by decide +kernel
theorem dX7_isWordAt_82 : decode cX7_isWordAt 82 = .ok (.aload_n 0, 1) := by decide +kernel
theorem dX7_isWordAt_83 : decode cX7_isWordAt 83 = .ok (.getfield 49, 3) := by decide +kernel
theorem dX7_isWordAt_86 : decode cX7_isWordAt 86 = .ok (.aload_n 0, 1) := by decide +kernel
theorem dX7_isWordAt_87 : decode cX7_isWordAt 87 = .ok (.getfield 210, 3) := by decide +kernel
theorem dX7_isWordAt_90 : decode cX7_isWordAt 90 = .ok (.iconst 3, 1) := by decide +kernel
theorem dX7_isWordAt_91 : decode cX7_isWordAt 91 = .ok (.iadd, 1) := by decide +kernel
theorem dX7_isWordAt_92 : decode cX7_isWordAt 92 = .ok (.iaload, 1) := by decide +kernel
theorem dX7_isWordAt_93 : decode cX7_isWordAt 93 = .ok (.iload 4, 2) := by decide +kernel
theorem dX7_isWordAt_95 : decode cX7_isWordAt 95 = .ok (.if_icmp .ne 7, 3) := by decide +kernel
theorem dX7_isWordAt_98 : decode cX7_isWordAt 98 = .ok (.iconst 1, 1) := by decide +kernel
theorem dX7_isWordAt_99 : decode cX7_isWordAt 99 = .ok (.goto 4, 3) := by decide +kernel
theorem dX7_isWordAt_102 : decode cX7_isWordAt 102 = .ok (.iconst 0, 1) := by decide +kernel
theorem dX7_isWordAt_103 : decode cX7_isWordAt 103 = .ok (.ireturn, 1) := by decide +kernel
set_option maxHeartbeats 4000000 in
set_option maxRecDepth 100000 in
theorem c_X7_isWordAt (g : sk_G) (l : Launch) (a1 : Int32) (a2 : Int32) (a3 : Int32) (a4 : Int32) (M : sk_M) {rr : Int32} (h : f_X7_isWordAt a1 a2 a3 a4 M = some rr) : sk_MI g l yX7_isWordAt cX7_isWordAt 6 (some .boolean) 1 [.ref (sk_ad g 88), .int a1, .int a2, .int a3, .int a4] M rr M := by
  refine sk_go [(0, .ref (sk_ad g 88)), (1, .int a1), (2, .int a2), (3, .int a3), (4, .int a4)] (by decide) (Nat.le_of_ble_eq_true rfl) rfl ?_
  intro p e s m av below meth c C ls hl hM hS
  obtain ⟨hx, hb, hml, hown, hts, hK, hE, hr, hlocks⟩ := id C
  rw [f_X7_isWordAt] at h
  refine lv_iload hx hb dX7_isWordAt_0 (lv_at hl 4 rfl) ?_
  have J : ∀ (vv : Int32) (H : Heap) (locs : List Loc), (if a4 = 0 then 3 else 4 : Int32) = vv → sk_P g M H → va_S (sk_A g) s.heap H locs → W p l e (sk_rm 1) s m av below meth c H locs 0 0 (MQ below (sk_QI g rr M) av s 0 0 (sk_A g)) (F0 m 10 ls [.int vv]) := by
    intro vv H locs hvv hM hS
    subst hvv
    refine lv_topi (fun x_1 ex_1 => ?_)
    have h := sk_letU h ex_1
    refine lv_istore (lv' := [(5, .int x_1), (0, .ref (sk_ad g 88)), (1, .int a1), (2, .int a2), (3, .int a3), (4, .int a4)]) hx hb dX7_isWordAt_10 hl (by decide) rfl (fun ls hl => ?_)
    refine lv_aload_n hx hb dX7_isWordAt_12 rfl (lv_at hl 1 rfl) ?_
    refine sk_getI (o := 88) (ci := 7) (j := 18) C hM rfl rfl (by decide) rfl kw_953 dX7_isWordAt_13 ?_
    refine lv_iconst (v := 1) hx hb dX7_isWordAt_16 (by decide) ?_
    refine lv_icmp_ne hx hb dX7_isWordAt_17 rfl (fun hc => ?_) (fun hc => ?_)
    · have h := sk_neg h hc
      refine lv_iconst (v := 0) hx hb dX7_isWordAt_102 (by decide) ?_
      exact sk_zret C hM hS (sk_nz (Or.inl rfl)) ⟨Option.some.inj h, rfl⟩ dX7_isWordAt_103
    · have h := sk_pos h hc
      refine lv_aload_n hx hb dX7_isWordAt_20 rfl (lv_at hl 1 rfl) ?_
      refine sk_getI (o := 88) (ci := 7) (j := 17) C hM rfl rfl (by decide) rfl kw_952 dX7_isWordAt_21 ?_
      refine lv_aload_n hx hb dX7_isWordAt_24 rfl (lv_at hl 1 rfl) ?_
      refine sk_getI (o := 88) (ci := 7) (j := 16) C hM rfl rfl (by decide) rfl kw_951 dX7_isWordAt_25 ?_
      refine lv_isub hx hb dX7_isWordAt_28 ?_
      refine lv_iload hx hb dX7_isWordAt_29 (lv_at hl 0 rfl) ?_
      refine lv_icmp_ne hx hb dX7_isWordAt_31 rfl (fun hc => ?_) (fun hc => ?_)
      · have h := sk_neg h hc
        refine lv_iconst (v := 0) hx hb dX7_isWordAt_102 (by decide) ?_
        exact sk_zret C hM hS (sk_nz (Or.inl rfl)) ⟨Option.some.inj h, rfl⟩ dX7_isWordAt_103
      · have h := sk_pos h hc
        refine lv_aload_n hx hb dX7_isWordAt_34 rfl (lv_at hl 1 rfl) ?_
        refine sk_getR (o := 88) (ci := 7) (j := 14) (t := 102) C hM rfl rfl (by decide) rfl rfl kw_949 dX7_isWordAt_35 ?_
        refine lv_aload_n hx hb dX7_isWordAt_38 rfl (lv_at hl 1 rfl) ?_
        refine sk_getI (o := 88) (ci := 7) (j := 16) C hM rfl rfl (by decide) rfl kw_951 dX7_isWordAt_39 ?_
        obtain ⟨i_2, h⟩ := sk_chkE h
        refine sk_iald (o := 102) C hM rfl i_2 dX7_isWordAt_42 ?_
        refine lv_iload_n hx hb dX7_isWordAt_43 rfl (lv_at hl 2 rfl) ?_
        refine lv_icmp_ne hx hb dX7_isWordAt_44 rfl (fun hc => ?_) (fun hc => ?_)
        · have h := sk_neg h hc
          refine lv_iconst (v := 0) hx hb dX7_isWordAt_102 (by decide) ?_
          exact sk_zret C hM hS (sk_nz (Or.inl rfl)) ⟨Option.some.inj h, rfl⟩ dX7_isWordAt_103
        · have h := sk_pos h hc
          refine lv_aload_n hx hb dX7_isWordAt_47 rfl (lv_at hl 1 rfl) ?_
          refine sk_getR (o := 88) (ci := 7) (j := 14) (t := 102) C hM rfl rfl (by decide) rfl rfl kw_949 dX7_isWordAt_48 ?_
          refine lv_aload_n hx hb dX7_isWordAt_51 rfl (lv_at hl 1 rfl) ?_
          refine sk_getI (o := 88) (ci := 7) (j := 16) C hM rfl rfl (by decide) rfl kw_951 dX7_isWordAt_52 ?_
          refine lv_iconst (v := 1) hx hb dX7_isWordAt_55 (by decide) ?_
          refine lv_iadd hx hb dX7_isWordAt_56 ?_
          obtain ⟨i_3, h⟩ := sk_chkE h
          refine sk_iald (o := 102) C hM rfl i_3 dX7_isWordAt_57 ?_
          refine lv_iload_n hx hb dX7_isWordAt_58 rfl (lv_at hl 3 rfl) ?_
          refine lv_icmp_ne hx hb dX7_isWordAt_59 rfl (fun hc => ?_) (fun hc => ?_)
          · have h := sk_neg h hc
            refine lv_iconst (v := 0) hx hb dX7_isWordAt_102 (by decide) ?_
            exact sk_zret C hM hS (sk_nz (Or.inl rfl)) ⟨Option.some.inj h, rfl⟩ dX7_isWordAt_103
          · have h := sk_pos h hc
            refine lv_aload_n hx hb dX7_isWordAt_62 rfl (lv_at hl 1 rfl) ?_
            refine sk_getR (o := 88) (ci := 7) (j := 14) (t := 102) C hM rfl rfl (by decide) rfl rfl kw_949 dX7_isWordAt_63 ?_
            refine lv_aload_n hx hb dX7_isWordAt_66 rfl (lv_at hl 1 rfl) ?_
            refine sk_getI (o := 88) (ci := 7) (j := 16) C hM rfl rfl (by decide) rfl kw_951 dX7_isWordAt_67 ?_
            refine lv_iconst (v := 2) hx hb dX7_isWordAt_70 (by decide) ?_
            refine lv_iadd hx hb dX7_isWordAt_71 ?_
            obtain ⟨i_4, h⟩ := sk_chkE h
            refine sk_iald (o := 102) C hM rfl i_4 dX7_isWordAt_72 ?_
            refine lv_iload_n hx hb dX7_isWordAt_73 rfl (lv_at hl 4 rfl) ?_
            refine lv_icmp_ne hx hb dX7_isWordAt_74 rfl (fun hc => ?_) (fun hc => ?_)
            · have h := sk_neg h hc
              refine lv_iconst (v := 0) hx hb dX7_isWordAt_102 (by decide) ?_
              exact sk_zret C hM hS (sk_nz (Or.inl rfl)) ⟨Option.some.inj h, rfl⟩ dX7_isWordAt_103
            · have h := sk_pos h hc
              refine lv_iload hx hb dX7_isWordAt_77 (lv_at hl 5 rfl) ?_
              refine lv_if_eq hx hb dX7_isWordAt_79 rfl (fun hc => ?_) (fun hc => ?_)
              · have h := sk_pos h hc
                refine lv_iconst (v := 1) hx hb dX7_isWordAt_98 (by decide) ?_
                refine lv_goto hx hb dX7_isWordAt_99 rfl ?_
                exact sk_zret C hM hS (sk_nz (Or.inr rfl)) ⟨Option.some.inj h, rfl⟩ dX7_isWordAt_103
              · have h := sk_neg h hc
                refine lv_aload_n hx hb dX7_isWordAt_82 rfl (lv_at hl 1 rfl) ?_
                refine sk_getR (o := 88) (ci := 7) (j := 14) (t := 102) C hM rfl rfl (by decide) rfl rfl kw_949 dX7_isWordAt_83 ?_
                refine lv_aload_n hx hb dX7_isWordAt_86 rfl (lv_at hl 1 rfl) ?_
                refine sk_getI (o := 88) (ci := 7) (j := 16) C hM rfl rfl (by decide) rfl kw_951 dX7_isWordAt_87 ?_
                refine lv_iconst (v := 3) hx hb dX7_isWordAt_90 (by decide) ?_
                refine lv_iadd hx hb dX7_isWordAt_91 ?_
                obtain ⟨i_5, h⟩ := sk_chkE h
                refine sk_iald (o := 102) C hM rfl i_5 dX7_isWordAt_92 ?_
                refine lv_iload hx hb dX7_isWordAt_93 (lv_at hl 5 rfl) ?_
                have J : ∀ (vv : Int32) (H : Heap) (locs : List Loc), (if (M 102 ((M 88 16) + 3).toNatClampNeg) = a4 then 1 else 0 : Int32) = vv → sk_P g M H → va_S (sk_A g) s.heap H locs → W p l e (sk_rm 1) s m av below meth c H locs 0 0 (MQ below (sk_QI g rr M) av s 0 0 (sk_A g)) (F0 m 103 ls [.int vv]) := by
                  intro vv H locs hvv hM hS
                  subst hvv
                  exact sk_zret C hM hS (sk_nz (sk_zi (Or.inr rfl) (Or.inl rfl))) ⟨Option.some.inj h, rfl⟩ dX7_isWordAt_103
                refine lv_icmp_ne hx hb dX7_isWordAt_95 rfl (fun hc => ?_) (fun hc => ?_)
                · have J := fun vv H locs q => J vv H locs ((if_neg hc).trans q)
                  refine lv_iconst (v := 0) hx hb dX7_isWordAt_102 (by decide) ?_
                  exact J _ _ _ rfl hM hS
                · have J := fun vv H locs q => J vv H locs ((if_pos hc).trans q)
                  refine lv_iconst (v := 1) hx hb dX7_isWordAt_98 (by decide) ?_
                  refine lv_goto hx hb dX7_isWordAt_99 rfl ?_
                  exact J _ _ _ rfl hM hS
  refine lv_if_ne hx hb dX7_isWordAt_2 rfl (fun hc => ?_) (fun hc => ?_)
  · have J := fun vv H locs q => J vv H locs ((if_neg hc).trans q)
    refine lv_iconst (v := 4) hx hb dX7_isWordAt_9 (by decide) ?_
    exact J _ _ _ rfl hM hS
  · have J := fun vv H locs q => J vv H locs ((if_pos hc).trans q)
    refine lv_iconst (v := 3) hx hb dX7_isWordAt_5 (by decide) ?_
    refine lv_goto hx hb dX7_isWordAt_6 rfl ?_
    exact J _ _ _ rfl hM hS
theorem dX7_isLong_0 : decode cX7_isLong 0 = .ok (.iload 6, 2) := by decide +kernel
theorem dX7_isLong_2 : decode cX7_isLong 2 = .ok (.ifCond .ne 7, 3) := by decide +kernel
theorem dX7_isLong_5 : decode cX7_isLong 5 = .ok (.iconst 5, 1) := by decide +kernel
theorem dX7_isLong_6 : decode cX7_isLong 6 = .ok (.goto 5, 3) := by decide +kernel
theorem dX7_isLong_9 : decode cX7_isLong 9 = .ok (.bipush 6, 2) := by decide +kernel
theorem dX7_isLong_11 : decode cX7_isLong 11 = .ok (.istore 7, 2) := by decide +kernel
theorem dX7_isLong_13 : decode cX7_isLong 13 = .ok (.aload_n 0, 1) := by decide +kernel
theorem dX7_isLong_14 : decode cX7_isLong 14 = .ok (.getfield 207, 3) := by decide +kernel
theorem dX7_isLong_17 : decode cX7_isLong 17 = .ok (.iconst 1, 1) := by decide +kernel
theorem dX7_isLong_18 : decode cX7_isLong 18 = .ok (.if_icmp .ne 117, 3) := by decide +kernel
theorem dX7_isLong_21 : decode cX7_isLong 21 = .ok (.aload_n 0, 1) := by decide +kernel
theorem dX7_isLong_22 : decode cX7_isLong 22 = .ok (.getfield 204, 3) := by decide +kernel
theorem dX7_isLong_25 : decode cX7_isLong 25 = .ok (.aload_n 0, 1) := by decide +kernel
theorem dX7_isLong_26 : decode cX7_isLong 26 = .ok (.getfield 210, 3) := by decide +kernel
theorem dX7_isLong_29 : decode cX7_isLong 29 = .ok (.isub, 1) := by decide +kernel
theorem dX7_isLong_30 : decode cX7_isLong 30 = .ok (.iload 7, 2) := by decide +kernel
theorem dX7_isLong_32 : decode cX7_isLong 32 = .ok (.if_icmp .ne 103, 3) := by decide +kernel
theorem dX7_isLong_35 : decode cX7_isLong 35 = .ok (.aload_n 0, 1) := by decide +kernel
theorem dX7_isLong_36 : decode cX7_isLong 36 = .ok (.getfield 49, 3) := by decide +kernel
theorem dX7_isLong_39 : decode cX7_isLong 39 = .ok (.aload_n 0, 1) := by decide +kernel
theorem dX7_isLong_40 : decode cX7_isLong 40 = .ok (.getfield 210, 3) := by decide +kernel
theorem dX7_isLong_43 : decode cX7_isLong 43 = .ok (.iaload, 1) := by decide +kernel
theorem dX7_isLong_44 : decode cX7_isLong 44 = .ok (.iload_n 1, 1) := by decide +kernel
theorem dX7_isLong_45 : decode cX7_isLong 45 = .ok (.if_icmp .ne 90, 3) := by decide +kernel
theorem dX7_isLong_48 : decode cX7_isLong 48 = .ok (.aload_n 0, 1) := by decide +kernel
theorem dX7_isLong_49 : decode cX7_isLong 49 = .ok (.getfield 49, 3) := by decide +kernel
theorem dX7_isLong_52 : decode cX7_isLong 52 = .ok (.aload_n 0, 1) := by decide +kernel
theorem dX7_isLong_53 : decode cX7_isLong 53 = .ok (.getfield 210, 3) := by decide +kernel
theorem dX7_isLong_56 : decode cX7_isLong 56 = .ok (.iconst 1, 1) := by decide +kernel
theorem dX7_isLong_57 : decode cX7_isLong 57 = .ok (.iadd, 1) := by decide +kernel
theorem dX7_isLong_58 : decode cX7_isLong 58 = .ok (.iaload, 1) := by decide +kernel
theorem dX7_isLong_59 : decode cX7_isLong 59 = .ok (.iload_n 2, 1) := by decide +kernel
theorem dX7_isLong_60 : decode cX7_isLong 60 = .ok (.if_icmp .ne 75, 3) := by decide +kernel
theorem dX7_isLong_63 : decode cX7_isLong 63 = .ok (.aload_n 0, 1) := by decide +kernel
theorem dX7_isLong_64 : decode cX7_isLong 64 = .ok (.getfield 49, 3) := by decide +kernel
theorem dX7_isLong_67 : decode cX7_isLong 67 = .ok (.aload_n 0, 1) := by decide +kernel
theorem dX7_isLong_68 : decode cX7_isLong 68 = .ok (.getfield 210, 3) := by decide +kernel
theorem dX7_isLong_71 : decode cX7_isLong 71 = .ok (.iconst 2, 1) := by decide +kernel
theorem dX7_isLong_72 : decode cX7_isLong 72 = .ok (.iadd, 1) := by decide +kernel
theorem dX7_isLong_73 : decode cX7_isLong 73 = .ok (.iaload, 1) := by decide +kernel
theorem dX7_isLong_74 : decode cX7_isLong 74 = .ok (.iload_n 3, 1) := by decide +kernel
theorem dX7_isLong_75 : decode cX7_isLong 75 = .ok (.if_icmp .ne 60, 3) := by decide +kernel
theorem dX7_isLong_78 : decode cX7_isLong 78 = .ok (.aload_n 0, 1) := by decide +kernel
theorem dX7_isLong_79 : decode cX7_isLong 79 = .ok (.getfield 49, 3) := by decide +kernel
theorem dX7_isLong_82 : decode cX7_isLong 82 = .ok (.aload_n 0, 1) := by decide +kernel
theorem dX7_isLong_83 : decode cX7_isLong 83 = .ok (.getfield 210, 3) := by decide +kernel
theorem dX7_isLong_86 : decode cX7_isLong 86 = .ok (.iconst 3, 1) := by decide +kernel
theorem dX7_isLong_87 : decode cX7_isLong 87 = .ok (.iadd, 1) := by decide +kernel
theorem dX7_isLong_88 : decode cX7_isLong 88 = .ok (.iaload, 1) := by decide +kernel
theorem dX7_isLong_89 : decode cX7_isLong 89 = .ok (.iload 4, 2) := by decide +kernel
theorem dX7_isLong_91 : decode cX7_isLong 91 = .ok (.if_icmp .ne 44, 3) := by decide +kernel
theorem dX7_isLong_94 : decode cX7_isLong 94 = .ok (.aload_n 0, 1) := by decide +kernel
theorem dX7_isLong_95 : decode cX7_isLong 95 = .ok (.getfield 49, 3) := by decide +kernel
theorem dX7_isLong_98 : decode cX7_isLong 98 = .ok (.aload_n 0, 1) := by decide +kernel
theorem dX7_isLong_99 : decode cX7_isLong 99 = .ok (.getfield 210, 3) := by decide +kernel
theorem dX7_isLong_102 : decode cX7_isLong 102 = .ok (.iconst 4, 1) := by decide +kernel
theorem dX7_isLong_103 : decode cX7_isLong 103 = .ok (.iadd, 1) := by decide +kernel
theorem dX7_isLong_104 : decode cX7_isLong 104 = .ok (.iaload, 1) := by decide +kernel
theorem dX7_isLong_105 : decode cX7_isLong 105 = .ok (.iload 5, 2) := by decide +kernel
theorem dX7_isLong_107 : decode cX7_isLong 107 = .ok (.if_icmp .ne 28, 3) := by decide +kernel
theorem dX7_isLong_110 : decode cX7_isLong 110 = .ok (.iload 6, 2) := by decide +kernel
theorem dX7_isLong_112 : decode cX7_isLong 112 = .ok (.ifCond .eq 19, 3) := by decide +kernel
theorem dX7_isLong_115 : decode cX7_isLong 115 = .ok (.aload_n 0, 1) := by decide +kernel
theorem dX7_isLong_116 : decode cX7_isLong 116 = .ok (.getfield 49, 3) := by decide +kernel
theorem dX7_isLong_119 : decode cX7_isLong 119 = .ok (.aload_n 0, 1) := by decide +kernel
theorem dX7_isLong_120 : decode cX7_isLong 120 = .ok (.getfield 210, 3) := by decide +kernel
theorem dX7_isLong_123 : decode cX7_isLong 123 = .ok (.iconst 5, 1) := by decide +kernel
theorem dX7_isLong_124 : decode cX7_isLong 124 = .ok (.iadd, 1) := by decide +kernel
theorem dX7_isLong_125 : decode cX7_isLong 125 = .ok (.iaload, 1) := by decide +kernel
theorem dX7_isLong_126 : decode cX7_isLong 126 = .ok (.iload 6, 2) := by decide +kernel
theorem dX7_isLong_128 : decode cX7_isLong 128 = .ok (.if_icmp .ne 7, 3) := by decide +kernel
theorem dX7_isLong_131 : decode cX7_isLong 131 = .ok (.iconst 1, 1) := by decide +kernel
theorem dX7_isLong_132 : decode cX7_isLong 132 = .ok (.goto 4, 3) := by decide +kernel
theorem dX7_isLong_135 : decode cX7_isLong 135 = .ok (.iconst 0, 1) := by decide +kernel
theorem dX7_isLong_136 : decode cX7_isLong 136 = .ok (.ireturn, 1) := by decide +kernel
set_option maxHeartbeats 4000000 in
set_option maxRecDepth 100000 in
theorem c_X7_isLong (g : sk_G) (l : Launch) (a1 : Int32) (a2 : Int32) (a3 : Int32) (a4 : Int32) (a5 : Int32) (a6 : Int32) (M : sk_M) {rr : Int32} (h : f_X7_isLong a1 a2 a3 a4 a5 a6 M = some rr) : sk_MI g l yX7_isLong cX7_isLong 8 (some .boolean) 1 [.ref (sk_ad g 88), .int a1, .int a2, .int a3, .int a4, .int a5, .int a6] M rr M := by
  refine sk_go [(0, .ref (sk_ad g 88)), (1, .int a1), (2, .int a2), (3, .int a3), (4, .int a4), (5, .int a5), (6, .int a6)] (by decide) (Nat.le_of_ble_eq_true rfl) rfl ?_
  intro p e s m av below meth c C ls hl hM hS
  obtain ⟨hx, hb, hml, hown, hts, hK, hE, hr, hlocks⟩ := id C
  rw [f_X7_isLong] at h
  refine lv_iload hx hb dX7_isLong_0 (lv_at hl 6 rfl) ?_
  have J : ∀ (vv : Int32) (H : Heap) (locs : List Loc), (if a6 = 0 then 5 else 6 : Int32) = vv → sk_P g M H → va_S (sk_A g) s.heap H locs → W p l e (sk_rm 1) s m av below meth c H locs 0 0 (MQ below (sk_QI g rr M) av s 0 0 (sk_A g)) (F0 m 11 ls [.int vv]) := by
    intro vv H locs hvv hM hS
    subst hvv
    refine lv_topi (fun x_1 ex_1 => ?_)
    have h := sk_letU h ex_1
    refine lv_istore (lv' := [(7, .int x_1), (0, .ref (sk_ad g 88)), (1, .int a1), (2, .int a2), (3, .int a3), (4, .int a4), (5, .int a5), (6, .int a6)]) hx hb dX7_isLong_11 hl (by decide) rfl (fun ls hl => ?_)
    refine lv_aload_n hx hb dX7_isLong_13 rfl (lv_at hl 1 rfl) ?_
    refine sk_getI (o := 88) (ci := 7) (j := 18) C hM rfl rfl (by decide) rfl kw_953 dX7_isLong_14 ?_
    refine lv_iconst (v := 1) hx hb dX7_isLong_17 (by decide) ?_
    refine lv_icmp_ne hx hb dX7_isLong_18 rfl (fun hc => ?_) (fun hc => ?_)
    · have h := sk_neg h hc
      refine lv_iconst (v := 0) hx hb dX7_isLong_135 (by decide) ?_
      exact sk_zret C hM hS (sk_nz (Or.inl rfl)) ⟨Option.some.inj h, rfl⟩ dX7_isLong_136
    · have h := sk_pos h hc
      refine lv_aload_n hx hb dX7_isLong_21 rfl (lv_at hl 1 rfl) ?_
      refine sk_getI (o := 88) (ci := 7) (j := 17) C hM rfl rfl (by decide) rfl kw_952 dX7_isLong_22 ?_
      refine lv_aload_n hx hb dX7_isLong_25 rfl (lv_at hl 1 rfl) ?_
      refine sk_getI (o := 88) (ci := 7) (j := 16) C hM rfl rfl (by decide) rfl kw_951 dX7_isLong_26 ?_
      refine lv_isub hx hb dX7_isLong_29 ?_
      refine lv_iload hx hb dX7_isLong_30 (lv_at hl 0 rfl) ?_
      refine lv_icmp_ne hx hb dX7_isLong_32 rfl (fun hc => ?_) (fun hc => ?_)
      · have h := sk_neg h hc
        refine lv_iconst (v := 0) hx hb dX7_isLong_135 (by decide) ?_
        exact sk_zret C hM hS (sk_nz (Or.inl rfl)) ⟨Option.some.inj h, rfl⟩ dX7_isLong_136
      · have h := sk_pos h hc
        refine lv_aload_n hx hb dX7_isLong_35 rfl (lv_at hl 1 rfl) ?_
        refine sk_getR (o := 88) (ci := 7) (j := 14) (t := 102) C hM rfl rfl (by decide) rfl rfl kw_949 dX7_isLong_36 ?_
        refine lv_aload_n hx hb dX7_isLong_39 rfl (lv_at hl 1 rfl) ?_
        refine sk_getI (o := 88) (ci := 7) (j := 16) C hM rfl rfl (by decide) rfl kw_951 dX7_isLong_40 ?_
        obtain ⟨i_2, h⟩ := sk_chkE h
        refine sk_iald (o := 102) C hM rfl i_2 dX7_isLong_43 ?_
        refine lv_iload_n hx hb dX7_isLong_44 rfl (lv_at hl 2 rfl) ?_
        refine lv_icmp_ne hx hb dX7_isLong_45 rfl (fun hc => ?_) (fun hc => ?_)
        · have h := sk_neg h hc
          refine lv_iconst (v := 0) hx hb dX7_isLong_135 (by decide) ?_
          exact sk_zret C hM hS (sk_nz (Or.inl rfl)) ⟨Option.some.inj h, rfl⟩ dX7_isLong_136
        · have h := sk_pos h hc
          refine lv_aload_n hx hb dX7_isLong_48 rfl (lv_at hl 1 rfl) ?_
          refine sk_getR (o := 88) (ci := 7) (j := 14) (t := 102) C hM rfl rfl (by decide) rfl rfl kw_949 dX7_isLong_49 ?_
          refine lv_aload_n hx hb dX7_isLong_52 rfl (lv_at hl 1 rfl) ?_
          refine sk_getI (o := 88) (ci := 7) (j := 16) C hM rfl rfl (by decide) rfl kw_951 dX7_isLong_53 ?_
          refine lv_iconst (v := 1) hx hb dX7_isLong_56 (by decide) ?_
          refine lv_iadd hx hb dX7_isLong_57 ?_
          obtain ⟨i_3, h⟩ := sk_chkE h
          refine sk_iald (o := 102) C hM rfl i_3 dX7_isLong_58 ?_
          refine lv_iload_n hx hb dX7_isLong_59 rfl (lv_at hl 3 rfl) ?_
          refine lv_icmp_ne hx hb dX7_isLong_60 rfl (fun hc => ?_) (fun hc => ?_)
          · have h := sk_neg h hc
            refine lv_iconst (v := 0) hx hb dX7_isLong_135 (by decide) ?_
            exact sk_zret C hM hS (sk_nz (Or.inl rfl)) ⟨Option.some.inj h, rfl⟩ dX7_isLong_136
          · have h := sk_pos h hc
            refine lv_aload_n hx hb dX7_isLong_63 rfl (lv_at hl 1 rfl) ?_
            refine sk_getR (o := 88) (ci := 7) (j := 14) (t := 102) C hM rfl rfl (by decide) rfl rfl kw_949 dX7_isLong_64 ?_
            refine lv_aload_n hx hb dX7_isLong_67 rfl (lv_at hl 1 rfl) ?_
            refine sk_getI (o := 88) (ci := 7) (j := 16) C hM rfl rfl (by decide) rfl kw_951 dX7_isLong_68 ?_
            refine lv_iconst (v := 2) hx hb dX7_isLong_71 (by decide) ?_
            refine lv_iadd hx hb dX7_isLong_72 ?_
            obtain ⟨i_4, h⟩ := sk_chkE h
            refine sk_iald (o := 102) C hM rfl i_4 dX7_isLong_73 ?_
            refine lv_iload_n hx hb dX7_isLong_74 rfl (lv_at hl 4 rfl) ?_
            refine lv_icmp_ne hx hb dX7_isLong_75 rfl (fun hc => ?_) (fun hc => ?_)
            · have h := sk_neg h hc
              refine lv_iconst (v := 0) hx hb dX7_isLong_135 (by decide) ?_
              exact sk_zret C hM hS (sk_nz (Or.inl rfl)) ⟨Option.some.inj h, rfl⟩ dX7_isLong_136
            · have h := sk_pos h hc
              refine lv_aload_n hx hb dX7_isLong_78 rfl (lv_at hl 1 rfl) ?_
              refine sk_getR (o := 88) (ci := 7) (j := 14) (t := 102) C hM rfl rfl (by decide) rfl rfl kw_949 dX7_isLong_79 ?_
              refine lv_aload_n hx hb dX7_isLong_82 rfl (lv_at hl 1 rfl) ?_
              refine sk_getI (o := 88) (ci := 7) (j := 16) C hM rfl rfl (by decide) rfl kw_951 dX7_isLong_83 ?_
              refine lv_iconst (v := 3) hx hb dX7_isLong_86 (by decide) ?_
              refine lv_iadd hx hb dX7_isLong_87 ?_
              obtain ⟨i_5, h⟩ := sk_chkE h
              refine sk_iald (o := 102) C hM rfl i_5 dX7_isLong_88 ?_
              refine lv_iload hx hb dX7_isLong_89 (lv_at hl 5 rfl) ?_
              refine lv_icmp_ne hx hb dX7_isLong_91 rfl (fun hc => ?_) (fun hc => ?_)
              · have h := sk_neg h hc
                refine lv_iconst (v := 0) hx hb dX7_isLong_135 (by decide) ?_
                exact sk_zret C hM hS (sk_nz (Or.inl rfl)) ⟨Option.some.inj h, rfl⟩ dX7_isLong_136
              · have h := sk_pos h hc
                refine lv_aload_n hx hb dX7_isLong_94 rfl (lv_at hl 1 rfl) ?_
                refine sk_getR (o := 88) (ci := 7) (j := 14) (t := 102) C hM rfl rfl (by decide) rfl rfl kw_949 dX7_isLong_95 ?_
                refine lv_aload_n hx hb dX7_isLong_98 rfl (lv_at hl 1 rfl) ?_
                refine sk_getI (o := 88) (ci := 7) (j := 16) C hM rfl rfl (by decide) rfl kw_951 dX7_isLong_99 ?_
                refine lv_iconst (v := 4) hx hb dX7_isLong_102 (by decide) ?_
                refine lv_iadd hx hb dX7_isLong_103 ?_
                obtain ⟨i_6, h⟩ := sk_chkE h
                refine sk_iald (o := 102) C hM rfl i_6 dX7_isLong_104 ?_
                refine lv_iload hx hb dX7_isLong_105 (lv_at hl 6 rfl) ?_
                refine lv_icmp_ne hx hb dX7_isLong_107 rfl (fun hc => ?_) (fun hc => ?_)
                · have h := sk_neg h hc
                  refine lv_iconst (v := 0) hx hb dX7_isLong_135 (by decide) ?_
                  exact sk_zret C hM hS (sk_nz (Or.inl rfl)) ⟨Option.some.inj h, rfl⟩ dX7_isLong_136
                · have h := sk_pos h hc
                  refine lv_iload hx hb dX7_isLong_110 (lv_at hl 7 rfl) ?_
                  refine lv_if_eq hx hb dX7_isLong_112 rfl (fun hc => ?_) (fun hc => ?_)
                  · have h := sk_pos h hc
                    refine lv_iconst (v := 1) hx hb dX7_isLong_131 (by decide) ?_
                    refine lv_goto hx hb dX7_isLong_132 rfl ?_
                    exact sk_zret C hM hS (sk_nz (Or.inr rfl)) ⟨Option.some.inj h, rfl⟩ dX7_isLong_136
                  · have h := sk_neg h hc
                    refine lv_aload_n hx hb dX7_isLong_115 rfl (lv_at hl 1 rfl) ?_
                    refine sk_getR (o := 88) (ci := 7) (j := 14) (t := 102) C hM rfl rfl (by decide) rfl rfl kw_949 dX7_isLong_116 ?_
                    refine lv_aload_n hx hb dX7_isLong_119 rfl (lv_at hl 1 rfl) ?_
                    refine sk_getI (o := 88) (ci := 7) (j := 16) C hM rfl rfl (by decide) rfl kw_951 dX7_isLong_120 ?_
                    refine lv_iconst (v := 5) hx hb dX7_isLong_123 (by decide) ?_
                    refine lv_iadd hx hb dX7_isLong_124 ?_
                    obtain ⟨i_7, h⟩ := sk_chkE h
                    refine sk_iald (o := 102) C hM rfl i_7 dX7_isLong_125 ?_
                    refine lv_iload hx hb dX7_isLong_126 (lv_at hl 7 rfl) ?_
                    have J : ∀ (vv : Int32) (H : Heap) (locs : List Loc), (if (M 102 ((M 88 16) + 5).toNatClampNeg) = a6 then 1 else 0 : Int32) = vv → sk_P g M H → va_S (sk_A g) s.heap H locs → W p l e (sk_rm 1) s m av below meth c H locs 0 0 (MQ below (sk_QI g rr M) av s 0 0 (sk_A g)) (F0 m 136 ls [.int vv]) := by
                      intro vv H locs hvv hM hS
                      subst hvv
                      exact sk_zret C hM hS (sk_nz (sk_zi (Or.inr rfl) (Or.inl rfl))) ⟨Option.some.inj h, rfl⟩ dX7_isLong_136
                    refine lv_icmp_ne hx hb dX7_isLong_128 rfl (fun hc => ?_) (fun hc => ?_)
                    · have J := fun vv H locs q => J vv H locs ((if_neg hc).trans q)
                      refine lv_iconst (v := 0) hx hb dX7_isLong_135 (by decide) ?_
                      exact J _ _ _ rfl hM hS
                    · have J := fun vv H locs q => J vv H locs ((if_pos hc).trans q)
                      refine lv_iconst (v := 1) hx hb dX7_isLong_131 (by decide) ?_
                      refine lv_goto hx hb dX7_isLong_132 rfl ?_
                      exact J _ _ _ rfl hM hS
  refine lv_if_ne hx hb dX7_isLong_2 rfl (fun hc => ?_) (fun hc => ?_)
  · have J := fun vv H locs q => J vv H locs ((if_neg hc).trans q)
    refine lv_bipush (v := 6) hx hb dX7_isLong_9 (by decide) ?_
    exact J _ _ _ rfl hM hS
  · have J := fun vv H locs q => J vv H locs ((if_pos hc).trans q)
    refine lv_iconst (v := 5) hx hb dX7_isLong_5 (by decide) ?_
    refine lv_goto hx hb dX7_isLong_6 rfl ?_
    exact J _ _ _ rfl hM hS
theorem dX7_key_0 : decode cX7_key 0 = .ok (.aload_n 0, 1) := by decide +kernel
theorem dX7_key_1 : decode cX7_key 1 = .ok (.bipush 102, 2) := by decide +kernel
theorem dX7_key_3 : decode cX7_key 3 = .ok (.bipush 97, 2) := by decide +kernel
theorem dX7_key_5 : decode cX7_key 5 = .ok (.bipush 100, 2) := by decide +kernel
theorem dX7_key_7 : decode cX7_key 7 = .ok (.bipush 101, 2) := by decide +kernel
theorem dX7_key_9 : decode cX7_key 9 = .ok (.invokevirtual 225, 3) := by decide +kernel
theorem dX7_key_12 : decode cX7_key 12 = .ok (.ifCond .eq 5, 3) := by decide +kernel
theorem dX7_key_15 : decode cX7_key 15 = .ok (.iconst 0, 1) := by decide +kernel
theorem dX7_key_16 : decode cX7_key 16 = .ok (.ireturn, 1) := by decide +kernel
theorem dX7_key_17 : decode cX7_key 17 = .ok (.aload_n 0, 1) := by decide +kernel
theorem dX7_key_18 : decode cX7_key 18 = .ok (.bipush 112, 2) := by decide +kernel
theorem dX7_key_20 : decode cX7_key 20 = .ok (.bipush 114, 2) := by decide +kernel
theorem dX7_key_22 : decode cX7_key 22 = .ok (.bipush 105, 2) := by decide +kernel
theorem dX7_key_24 : decode cX7_key 24 = .ok (.bipush 99, 2) := by decide +kernel
theorem dX7_key_26 : decode cX7_key 26 = .ok (.bipush 101, 2) := by decide +kernel
theorem dX7_key_28 : decode cX7_key 28 = .ok (.iconst 0, 1) := by decide +kernel
theorem dX7_key_29 : decode cX7_key 29 = .ok (.invokevirtual 229, 3) := by decide +kernel
theorem dX7_key_32 : decode cX7_key 32 = .ok (.ifCond .eq 5, 3) := by decide +kernel
theorem dX7_key_35 : decode cX7_key 35 = .ok (.iconst 1, 1) := by decide +kernel
theorem dX7_key_36 : decode cX7_key 36 = .ok (.ireturn, 1) := by decide +kernel
theorem dX7_key_37 : decode cX7_key 37 = .ok (.aload_n 0, 1) := by decide +kernel
theorem dX7_key_38 : decode cX7_key 38 = .ok (.bipush 108, 2) := by decide +kernel
theorem dX7_key_40 : decode cX7_key 40 = .ok (.bipush 105, 2) := by decide +kernel
theorem dX7_key_42 : decode cX7_key 42 = .ok (.bipush 101, 2) := by decide +kernel
theorem dX7_key_44 : decode cX7_key 44 = .ok (.iconst 0, 1) := by decide +kernel
theorem dX7_key_45 : decode cX7_key 45 = .ok (.invokevirtual 225, 3) := by decide +kernel
theorem dX7_key_48 : decode cX7_key 48 = .ok (.ifCond .eq 7, 3) := by decide +kernel
theorem dX7_key_51 : decode cX7_key 51 = .ok (.iconst 2, 1) := by decide +kernel
theorem dX7_key_52 : decode cX7_key 52 = .ok (.goto 4, 3) := by decide +kernel
theorem dX7_key_55 : decode cX7_key 55 = .ok (.iconst (-1), 1) := by decide +kernel
theorem dX7_key_56 : decode cX7_key 56 = .ok (.ireturn, 1) := by decide +kernel
set_option maxHeartbeats 4000000 in
set_option maxRecDepth 100000 in
theorem c_X7_key (g : sk_G) (l : Launch)  (M : sk_M) {rr : Int32} (h : f_X7_key M = some rr) : sk_MI g l yX7_key cX7_key 1 (some .int) 2 [.ref (sk_ad g 88)] M rr M := by
  refine sk_go [(0, .ref (sk_ad g 88))] (by decide) (Nat.le_of_ble_eq_true rfl) rfl ?_
  intro p e s m av below meth c C ls hl hM hS
  obtain ⟨hx, hb, hml, hown, hts, hK, hE, hr, hlocks⟩ := id C
  rw [f_X7_key] at h
  refine lv_aload_n hx hb dX7_key_0 rfl (lv_at hl 0 rfl) ?_
  refine lv_bipush (v := 102) hx hb dX7_key_1 (by decide) ?_
  refine lv_bipush (v := 97) hx hb dX7_key_3 (by decide) ?_
  refine lv_bipush (v := 100) hx hb dX7_key_5 (by decide) ?_
  refine lv_bipush (v := 101) hx hb dX7_key_7 (by decide) ?_
  obtain ⟨x_1, h_2, h⟩ := sk_b1E h
  refine sk_contI (sk_runV (As := [.int 102, .int 97, .int 100, .int 101]) (rest := []) C (c_X7_isWordAt g l 102 97 100 101 M h_2) yo_X7_isWordAt kw_1324 (sk_recv (ci := 7) C hM rfl rfl) (by decide) hM hS hl.1 rfl rfl (Nat.le_of_ble_eq_true rfl) dX7_key_9) hS (fun H locs hM hS => ?_)
  refine lv_if_eq hx hb dX7_key_12 rfl (fun hc => ?_) (fun hc => ?_)
  · have h := sk_pos h hc
    refine lv_aload_n hx hb dX7_key_17 rfl (lv_at hl 0 rfl) ?_
    refine lv_bipush (v := 112) hx hb dX7_key_18 (by decide) ?_
    refine lv_bipush (v := 114) hx hb dX7_key_20 (by decide) ?_
    refine lv_bipush (v := 105) hx hb dX7_key_22 (by decide) ?_
    refine lv_bipush (v := 99) hx hb dX7_key_24 (by decide) ?_
    refine lv_bipush (v := 101) hx hb dX7_key_26 (by decide) ?_
    refine lv_iconst (v := 0) hx hb dX7_key_28 (by decide) ?_
    obtain ⟨x_3, h_4, h⟩ := sk_b1E h
    refine sk_contI (sk_runV (As := [.int 112, .int 114, .int 105, .int 99, .int 101, .int 0]) (rest := []) C (c_X7_isLong g l 112 114 105 99 101 0 M h_4) yo_X7_isLong kw_1328 (sk_recv (ci := 7) C hM rfl rfl) (by decide) hM hS hl.1 rfl rfl (Nat.le_of_ble_eq_true rfl) dX7_key_29) hS (fun H locs hM hS => ?_)
    refine lv_if_eq hx hb dX7_key_32 rfl (fun hc => ?_) (fun hc => ?_)
    · have h := sk_pos h hc
      refine lv_aload_n hx hb dX7_key_37 rfl (lv_at hl 0 rfl) ?_
      refine lv_bipush (v := 108) hx hb dX7_key_38 (by decide) ?_
      refine lv_bipush (v := 105) hx hb dX7_key_40 (by decide) ?_
      refine lv_bipush (v := 101) hx hb dX7_key_42 (by decide) ?_
      refine lv_iconst (v := 0) hx hb dX7_key_44 (by decide) ?_
      obtain ⟨x_5, h_6, h⟩ := sk_b1E h
      refine sk_contI (sk_runV (As := [.int 108, .int 105, .int 101, .int 0]) (rest := []) C (c_X7_isWordAt g l 108 105 101 0 M h_6) yo_X7_isWordAt kw_1324 (sk_recv (ci := 7) C hM rfl rfl) (by decide) hM hS hl.1 rfl rfl (Nat.le_of_ble_eq_true rfl) dX7_key_45) hS (fun H locs hM hS => ?_)
      have J : ∀ (vv : Int32) (H : Heap) (locs : List Loc), (if x_5 = 0 then (-1) else 2 : Int32) = vv → sk_P g M H → va_S (sk_A g) s.heap H locs → W p l e (sk_rm 2) s m av below meth c H locs 0 0 (MQ below (sk_QI g rr M) av s 0 0 (sk_A g)) (F0 m 56 ls [.int vv]) := by
        intro vv H locs hvv hM hS
        subst hvv
        exact sk_iret C hM hS ⟨Option.some.inj h, rfl⟩ dX7_key_56
      refine lv_if_eq hx hb dX7_key_48 rfl (fun hc => ?_) (fun hc => ?_)
      · have J := fun vv H locs q => J vv H locs ((if_pos hc).trans q)
        refine lv_iconst (v := (-1)) hx hb dX7_key_55 (by decide) ?_
        exact J _ _ _ rfl hM hS
      · have J := fun vv H locs q => J vv H locs ((if_neg hc).trans q)
        refine lv_iconst (v := 2) hx hb dX7_key_51 (by decide) ?_
        refine lv_goto hx hb dX7_key_52 rfl ?_
        exact J _ _ _ rfl hM hS
    · have h := sk_neg h hc
      refine lv_iconst (v := 1) hx hb dX7_key_35 (by decide) ?_
      exact sk_iret C hM hS ⟨Option.some.inj h, rfl⟩ dX7_key_36
  · have h := sk_neg h hc
    refine lv_iconst (v := 0) hx hb dX7_key_15 (by decide) ?_
    exact sk_iret C hM hS ⟨Option.some.inj h, rfl⟩ dX7_key_16
theorem dX7_isName_0 : decode cX7_isName 0 = .ok (.iload_n 0, 1) := by decide +kernel
theorem dX7_isName_1 : decode cX7_isName 1 = .ok (.lookupswitch 69 #[(0, 27), (1, 51)], 27) := by decide +kernel
theorem dX7_isName_28 : decode cX7_isName 28 = .ok (.iload_n 1, 1) := by decide +kernel
theorem dX7_isName_29 : decode cX7_isName 29 = .ok (.bipush 115, 2) := by decide +kernel
theorem dX7_isName_31 : decode cX7_isName 31 = .ok (.if_icmp .eq 15, 3) := by decide +kernel
theorem dX7_isName_34 : decode cX7_isName 34 = .ok (.iload_n 1, 1) := by decide +kernel
theorem dX7_isName_35 : decode cX7_isName 35 = .ok (.bipush 112, 2) := by decide +kernel
theorem dX7_isName_37 : decode cX7_isName 37 = .ok (.if_icmp .eq 9, 3) := by decide +kernel
theorem dX7_isName_40 : decode cX7_isName 40 = .ok (.iload_n 1, 1) := by decide +kernel
theorem dX7_isName_41 : decode cX7_isName 41 = .ok (.bipush 119, 2) := by decide +kernel
theorem dX7_isName_43 : decode cX7_isName 43 = .ok (.if_icmp .ne 7, 3) := by decide +kernel
theorem dX7_isName_46 : decode cX7_isName 46 = .ok (.iconst 1, 1) := by decide +kernel
theorem dX7_isName_47 : decode cX7_isName 47 = .ok (.goto 4, 3) := by decide +kernel
theorem dX7_isName_50 : decode cX7_isName 50 = .ok (.iconst 0, 1) := by decide +kernel
theorem dX7_isName_51 : decode cX7_isName 51 = .ok (.ireturn, 1) := by decide +kernel
theorem dX7_isName_52 : decode cX7_isName 52 = .ok (.iload_n 1, 1) := by decide +kernel
theorem dX7_isName_53 : decode cX7_isName 53 = .ok (.bipush 116, 2) := by decide +kernel
theorem dX7_isName_55 : decode cX7_isName 55 = .ok (.if_icmp .eq 9, 3) := by decide +kernel
theorem dX7_isName_58 : decode cX7_isName 58 = .ok (.iload_n 1, 1) := by decide +kernel
theorem dX7_isName_59 : decode cX7_isName 59 = .ok (.bipush 110, 2) := by decide +kernel
theorem dX7_isName_61 : decode cX7_isName 61 = .ok (.if_icmp .ne 7, 3) := by decide +kernel
theorem dX7_isName_64 : decode cX7_isName 64 = .ok (.iconst 1, 1) := by decide +kernel
theorem dX7_isName_65 : decode cX7_isName 65 = .ok (.goto 4, 3) := by decide +kernel
theorem dX7_isName_68 : decode cX7_isName 68 = .ok (.iconst 0, 1) := by decide +kernel
theorem dX7_isName_69 : decode cX7_isName 69 = .ok (.ireturn, 1) := by decide +kernel
theorem dX7_isName_70 : decode cX7_isName 70 = .ok (.iload_n 1, 1) := by decide +kernel
theorem dX7_isName_71 : decode cX7_isName 71 = .ok (.bipush 100, 2) := by decide +kernel
theorem dX7_isName_73 : decode cX7_isName 73 = .ok (.if_icmp .eq 9, 3) := by decide +kernel
theorem dX7_isName_76 : decode cX7_isName 76 = .ok (.iload_n 1, 1) := by decide +kernel
theorem dX7_isName_77 : decode cX7_isName 77 = .ok (.bipush 110, 2) := by decide +kernel
theorem dX7_isName_79 : decode cX7_isName 79 = .ok (.if_icmp .ne 7, 3) := by decide +kernel
theorem dX7_isName_82 : decode cX7_isName 82 = .ok (.iconst 1, 1) := by decide +kernel
theorem dX7_isName_83 : decode cX7_isName 83 = .ok (.goto 4, 3) := by decide +kernel
theorem dX7_isName_86 : decode cX7_isName 86 = .ok (.iconst 0, 1) := by decide +kernel
theorem dX7_isName_87 : decode cX7_isName 87 = .ok (.ireturn, 1) := by decide +kernel
set_option maxHeartbeats 4000000 in
set_option maxRecDepth 100000 in
theorem c_X7_isName (g : sk_G) (l : Launch) (a0 : Int32) (a1 : Int32) (M : sk_M) {rr : Int32} (h : f_X7_isName a0 a1 = rr) : sk_MI g l yX7_isName cX7_isName 2 (some .boolean) 1 [.int a0, .int a1] M rr M := by
  refine sk_go [(0, .int a0), (1, .int a1)] (by decide) (Nat.le_of_ble_eq_true rfl) rfl ?_
  intro p e s m av below meth c C ls hl hM hS
  obtain ⟨hx, hb, hml, hown, hts, hK, hE, hr, hlocks⟩ := id C
  rw [f_X7_isName] at h
  refine lv_iload_n hx hb dX7_isName_0 rfl (lv_at hl 0 rfl) ?_
  by_cases hk_1 : a0 = 0
  · refine lv_lookup (off := 27) hx hb dX7_isName_1 rfl (by rw [hk_1]; rfl) rfl ?_
    have h := sk_pos h hk_1
    refine lv_iload_n hx hb dX7_isName_28 rfl (lv_at hl 1 rfl) ?_
    refine lv_bipush (v := 115) hx hb dX7_isName_29 (by decide) ?_
    refine lv_icmp_eq hx hb dX7_isName_31 rfl (fun hc => ?_) (fun hc => ?_)
    · have h := sk_pos h hc
      refine lv_iconst (v := 1) hx hb dX7_isName_46 (by decide) ?_
      refine lv_goto hx hb dX7_isName_47 rfl ?_
      exact sk_zret C hM hS (sk_nz (Or.inr rfl)) ⟨h, rfl⟩ dX7_isName_51
    · have h := sk_neg h hc
      refine lv_iload_n hx hb dX7_isName_34 rfl (lv_at hl 1 rfl) ?_
      refine lv_bipush (v := 112) hx hb dX7_isName_35 (by decide) ?_
      refine lv_icmp_eq hx hb dX7_isName_37 rfl (fun hc => ?_) (fun hc => ?_)
      · have h := sk_pos h hc
        refine lv_iconst (v := 1) hx hb dX7_isName_46 (by decide) ?_
        refine lv_goto hx hb dX7_isName_47 rfl ?_
        exact sk_zret C hM hS (sk_nz (Or.inr rfl)) ⟨h, rfl⟩ dX7_isName_51
      · have h := sk_neg h hc
        refine lv_iload_n hx hb dX7_isName_40 rfl (lv_at hl 1 rfl) ?_
        refine lv_bipush (v := 119) hx hb dX7_isName_41 (by decide) ?_
        have J : ∀ (vv : Int32) (H : Heap) (locs : List Loc), (if a1 = 119 then 1 else 0 : Int32) = vv → sk_P g M H → va_S (sk_A g) s.heap H locs → W p l e (sk_rm 1) s m av below meth c H locs 0 0 (MQ below (sk_QI g rr M) av s 0 0 (sk_A g)) (F0 m 51 ls [.int vv]) := by
          intro vv H locs hvv hM hS
          subst hvv
          exact sk_zret C hM hS (sk_nz (sk_zi (Or.inr rfl) (Or.inl rfl))) ⟨h, rfl⟩ dX7_isName_51
        refine lv_icmp_ne hx hb dX7_isName_43 rfl (fun hc => ?_) (fun hc => ?_)
        · have J := fun vv H locs q => J vv H locs ((if_neg hc).trans q)
          refine lv_iconst (v := 0) hx hb dX7_isName_50 (by decide) ?_
          exact J _ _ _ rfl hM hS
        · have J := fun vv H locs q => J vv H locs ((if_pos hc).trans q)
          refine lv_iconst (v := 1) hx hb dX7_isName_46 (by decide) ?_
          refine lv_goto hx hb dX7_isName_47 rfl ?_
          exact J _ _ _ rfl hM hS
  have h := sk_neg h hk_1
  by_cases hk_2 : a0 = 1
  · refine lv_lookup (off := 51) hx hb dX7_isName_1 rfl (by rw [hk_2]; rfl) rfl ?_
    have h := sk_pos h hk_2
    refine lv_iload_n hx hb dX7_isName_52 rfl (lv_at hl 1 rfl) ?_
    refine lv_bipush (v := 116) hx hb dX7_isName_53 (by decide) ?_
    refine lv_icmp_eq hx hb dX7_isName_55 rfl (fun hc => ?_) (fun hc => ?_)
    · have h := sk_pos h hc
      refine lv_iconst (v := 1) hx hb dX7_isName_64 (by decide) ?_
      refine lv_goto hx hb dX7_isName_65 rfl ?_
      exact sk_zret C hM hS (sk_nz (Or.inr rfl)) ⟨h, rfl⟩ dX7_isName_69
    · have h := sk_neg h hc
      refine lv_iload_n hx hb dX7_isName_58 rfl (lv_at hl 1 rfl) ?_
      refine lv_bipush (v := 110) hx hb dX7_isName_59 (by decide) ?_
      have J : ∀ (vv : Int32) (H : Heap) (locs : List Loc), (if a1 = 110 then 1 else 0 : Int32) = vv → sk_P g M H → va_S (sk_A g) s.heap H locs → W p l e (sk_rm 1) s m av below meth c H locs 0 0 (MQ below (sk_QI g rr M) av s 0 0 (sk_A g)) (F0 m 69 ls [.int vv]) := by
        intro vv H locs hvv hM hS
        subst hvv
        exact sk_zret C hM hS (sk_nz (sk_zi (Or.inr rfl) (Or.inl rfl))) ⟨h, rfl⟩ dX7_isName_69
      refine lv_icmp_ne hx hb dX7_isName_61 rfl (fun hc => ?_) (fun hc => ?_)
      · have J := fun vv H locs q => J vv H locs ((if_neg hc).trans q)
        refine lv_iconst (v := 0) hx hb dX7_isName_68 (by decide) ?_
        exact J _ _ _ rfl hM hS
      · have J := fun vv H locs q => J vv H locs ((if_pos hc).trans q)
        refine lv_iconst (v := 1) hx hb dX7_isName_64 (by decide) ?_
        refine lv_goto hx hb dX7_isName_65 rfl ?_
        exact J _ _ _ rfl hM hS
  have h := sk_neg h hk_2
  refine lv_lookup (off := 69) hx hb dX7_isName_1 rfl (sk_look (by intro q hq; simp only [List.mem_cons, List.not_mem_nil, or_false] at hq; rcases hq with rfl | rfl <;> first | exact sk_tn hk_1 rfl | exact sk_tn hk_2 rfl)) rfl ?_
  refine lv_iload_n hx hb dX7_isName_70 rfl (lv_at hl 1 rfl) ?_
  refine lv_bipush (v := 100) hx hb dX7_isName_71 (by decide) ?_
  refine lv_icmp_eq hx hb dX7_isName_73 rfl (fun hc => ?_) (fun hc => ?_)
  · have h := sk_pos h hc
    refine lv_iconst (v := 1) hx hb dX7_isName_82 (by decide) ?_
    refine lv_goto hx hb dX7_isName_83 rfl ?_
    exact sk_zret C hM hS (sk_nz (Or.inr rfl)) ⟨h, rfl⟩ dX7_isName_87
  · have h := sk_neg h hc
    refine lv_iload_n hx hb dX7_isName_76 rfl (lv_at hl 1 rfl) ?_
    refine lv_bipush (v := 110) hx hb dX7_isName_77 (by decide) ?_
    have J : ∀ (vv : Int32) (H : Heap) (locs : List Loc), (if a1 = 110 then 1 else 0 : Int32) = vv → sk_P g M H → va_S (sk_A g) s.heap H locs → W p l e (sk_rm 1) s m av below meth c H locs 0 0 (MQ below (sk_QI g rr M) av s 0 0 (sk_A g)) (F0 m 87 ls [.int vv]) := by
      intro vv H locs hvv hM hS
      subst hvv
      exact sk_zret C hM hS (sk_nz (sk_zi (Or.inr rfl) (Or.inl rfl))) ⟨h, rfl⟩ dX7_isName_87
    refine lv_icmp_ne hx hb dX7_isName_79 rfl (fun hc => ?_) (fun hc => ?_)
    · have J := fun vv H locs q => J vv H locs ((if_neg hc).trans q)
      refine lv_iconst (v := 0) hx hb dX7_isName_86 (by decide) ?_
      exact J _ _ _ rfl hM hS
    · have J := fun vv H locs q => J vv H locs ((if_pos hc).trans q)
      refine lv_iconst (v := 1) hx hb dX7_isName_82 (by decide) ?_
      refine lv_goto hx hb dX7_isName_83 rfl ?_
      exact J _ _ _ rfl hM hS
theorem dX7_step_0 : decode cX7_step 0 = .ok (.aload_n 0, 1) := by decide +kernel
theorem dX7_step_1 : decode cX7_step 1 = .ok (.getfield 7, 3) := by decide +kernel
theorem dX7_step_4 : decode cX7_step 4 = .ok (.aload_n 0, 1) := by decide +kernel
theorem dX7_step_5 : decode cX7_step 5 = .ok (.getfield 233, 3) := by decide +kernel
theorem dX7_step_8 : decode cX7_step 8 = .ok (.iconst 2, 1) := by decide +kernel
theorem dX7_step_9 : decode cX7_step 9 = .ok (.aload_n 0, 1) := by decide +kernel
theorem dX7_step_10 : decode cX7_step 10 = .ok (.getfield 236, 3) := by decide +kernel
theorem dX7_step_13 : decode cX7_step 13 = .ok (.imul, 1) := by decide +kernel
theorem dX7_step_14 : decode cX7_step 14 = .ok (.iadd, 1) := by decide +kernel
theorem dX7_step_15 : decode cX7_step 15 = .ok (.iload_n 1, 1) := by decide +kernel
theorem dX7_step_16 : decode cX7_step 16 = .ok (.iastore, 1) := by decide +kernel
theorem dX7_step_17 : decode cX7_step 17 = .ok (.aload_n 0, 1) := by decide +kernel
theorem dX7_step_18 : decode cX7_step 18 = .ok (.getfield 7, 3) := by decide +kernel
theorem dX7_step_21 : decode cX7_step 21 = .ok (.aload_n 0, 1) := by decide +kernel
theorem dX7_step_22 : decode cX7_step 22 = .ok (.getfield 233, 3) := by decide +kernel
theorem dX7_step_25 : decode cX7_step 25 = .ok (.iconst 2, 1) := by decide +kernel
theorem dX7_step_26 : decode cX7_step 26 = .ok (.aload_n 0, 1) := by decide +kernel
theorem dX7_step_27 : decode cX7_step 27 = .ok (.getfield 236, 3) := by decide +kernel
theorem dX7_step_30 : decode cX7_step 30 = .ok (.imul, 1) := by decide +kernel
theorem dX7_step_31 : decode cX7_step 31 = .ok (.iadd, 1) := by decide +kernel
theorem dX7_step_32 : decode cX7_step 32 = .ok (.iconst 1, 1) := by decide +kernel
theorem dX7_step_33 : decode cX7_step 33 = .ok (.iadd, 1) := by decide +kernel
theorem dX7_step_34 : decode cX7_step 34 = .ok (.iload_n 2, 1) := by decide +kernel
theorem dX7_step_35 : decode cX7_step 35 = .ok (.iastore, 1) := by decide +kernel
theorem dX7_step_36 : decode cX7_step 36 = .ok (.aload_n 0, 1) := by decide +kernel
theorem dX7_step_37 : decode cX7_step 37 = .ok (.dup, 1) := by decide +kernel
theorem dX7_step_38 : decode cX7_step 38 = .ok (.getfield 236, 3) := by decide +kernel
theorem dX7_step_41 : decode cX7_step 41 = .ok (.iconst 1, 1) := by decide +kernel
theorem dX7_step_42 : decode cX7_step 42 = .ok (.iadd, 1) := by decide +kernel
theorem dX7_step_43 : decode cX7_step 43 = .ok (.putfield 236, 3) := by decide +kernel
theorem dX7_step_46 : decode cX7_step 46 = .ok (.return_, 1) := by decide +kernel
set_option maxHeartbeats 4000000 in
set_option maxRecDepth 100000 in
theorem c_X7_step (g : sk_G) (l : Launch) (a1 : Int32) (a2 : Int32) (M : sk_M) {MM : sk_M} (h : f_X7_step a1 a2 M = some MM) : sk_MV g l yX7_step cX7_step 3 none 1 [.ref (sk_ad g 88), .int a1, .int a2] M MM := by
  refine sk_go [(0, .ref (sk_ad g 88)), (1, .int a1), (2, .int a2)] (by decide) (Nat.le_of_ble_eq_true rfl) rfl ?_
  intro p e s m av below meth c C ls hl hM hS
  obtain ⟨hx, hb, hml, hown, hts, hK, hE, hr, hlocks⟩ := id C
  rw [f_X7_step] at h
  refine lv_aload_n hx hb dX7_step_0 rfl (lv_at hl 0 rfl) ?_
  refine sk_getR (o := 88) (ci := 7) (j := 0) (t := 89) C hM rfl rfl (by decide) rfl rfl kw_935 dX7_step_1 ?_
  refine lv_aload_n hx hb dX7_step_4 rfl (lv_at hl 0 rfl) ?_
  refine sk_getI (o := 88) (ci := 7) (j := 24) C hM rfl rfl (by decide) rfl kw_959 dX7_step_5 ?_
  refine lv_iconst (v := 2) hx hb dX7_step_8 (by decide) ?_
  refine lv_aload_n hx hb dX7_step_9 rfl (lv_at hl 0 rfl) ?_
  refine sk_getI (o := 88) (ci := 7) (j := 23) C hM rfl rfl (by decide) rfl kw_958 dX7_step_10 ?_
  refine lv_imul hx hb dX7_step_13 ?_
  refine lv_iadd hx hb dX7_step_14 ?_
  refine lv_iload_n hx hb dX7_step_15 rfl (lv_at hl 1 rfl) ?_
  obtain ⟨i_1, h⟩ := sk_chkE h
  refine sk_iast (o := 89) C hM hS rfl i_1 dX7_step_16 (fun M_2 eM_2 H locs hM hS => ?_)
  have h := sk_letU h eM_2
  refine lv_aload_n hx hb dX7_step_17 rfl (lv_at hl 0 rfl) ?_
  refine sk_getR (o := 88) (ci := 7) (j := 0) (t := 89) C hM rfl rfl (by decide) rfl rfl kw_935 dX7_step_18 ?_
  refine lv_aload_n hx hb dX7_step_21 rfl (lv_at hl 0 rfl) ?_
  refine sk_getI (o := 88) (ci := 7) (j := 24) C hM rfl rfl (by decide) rfl kw_959 dX7_step_22 ?_
  refine lv_iconst (v := 2) hx hb dX7_step_25 (by decide) ?_
  refine lv_aload_n hx hb dX7_step_26 rfl (lv_at hl 0 rfl) ?_
  refine sk_getI (o := 88) (ci := 7) (j := 23) C hM rfl rfl (by decide) rfl kw_958 dX7_step_27 ?_
  refine lv_imul hx hb dX7_step_30 ?_
  refine lv_iadd hx hb dX7_step_31 ?_
  refine lv_iconst (v := 1) hx hb dX7_step_32 (by decide) ?_
  refine lv_iadd hx hb dX7_step_33 ?_
  refine lv_iload_n hx hb dX7_step_34 rfl (lv_at hl 2 rfl) ?_
  obtain ⟨i_3, h⟩ := sk_chkE h
  refine sk_iast (o := 89) C hM hS rfl i_3 dX7_step_35 (fun M_4 eM_4 H locs hM hS => ?_)
  have h := sk_letU h eM_4
  refine lv_aload_n hx hb dX7_step_36 rfl (lv_at hl 0 rfl) ?_
  refine lv_dup hx hb dX7_step_37 rfl ?_
  refine sk_getI (o := 88) (ci := 7) (j := 23) C hM rfl rfl (by decide) rfl kw_958 dX7_step_38 ?_
  refine lv_iconst (v := 1) hx hb dX7_step_41 (by decide) ?_
  refine lv_iadd hx hb dX7_step_42 ?_
  refine sk_putI (o := 88) (ci := 7) (j := 23) C hM hS rfl rfl (by decide) rfl rfl (tyX7_ok 23 (by decide)) kw_958 dX7_step_43 (fun M_5 eM_5 H locs hM hS => ?_)
  have h := sk_letU h eM_5
  exact sk_vret C hM hS (Option.some.inj h) dX7_step_46
theorem dX7_either_0 : decode cX7_either 0 = .ok (.aload_n 0, 1) := by decide +kernel
theorem dX7_either_1 : decode cX7_either 1 = .ok (.iload_n 1, 1) := by decide +kernel
theorem dX7_either_2 : decode cX7_either 2 = .ok (.invokevirtual 239, 3) := by decide +kernel
theorem dX7_either_5 : decode cX7_either 5 = .ok (.ifCond .ne 5, 3) := by decide +kernel
theorem dX7_either_8 : decode cX7_either 8 = .ok (.iconst 0, 1) := by decide +kernel
theorem dX7_either_9 : decode cX7_either 9 = .ok (.ireturn, 1) := by decide +kernel
theorem dX7_either_10 : decode cX7_either 10 = .ok (.aload_n 0, 1) := by decide +kernel
theorem dX7_either_11 : decode cX7_either 11 = .ok (.bipush 124, 2) := by decide +kernel
theorem dX7_either_13 : decode cX7_either 13 = .ok (.invokevirtual 242, 3) := by decide +kernel
theorem dX7_either_16 : decode cX7_either 16 = .ok (.ifCond .eq 27, 3) := by decide +kernel
theorem dX7_either_19 : decode cX7_either 19 = .ok (.aload_n 0, 1) := by decide +kernel
theorem dX7_either_20 : decode cX7_either 20 = .ok (.invokevirtual 245, 3) := by decide +kernel
theorem dX7_either_23 : decode cX7_either 23 = .ok (.aload_n 0, 1) := by decide +kernel
theorem dX7_either_24 : decode cX7_either 24 = .ok (.iload_n 1, 1) := by decide +kernel
theorem dX7_either_25 : decode cX7_either 25 = .ok (.invokevirtual 239, 3) := by decide +kernel
theorem dX7_either_28 : decode cX7_either 28 = .ok (.ifCond .ne 5, 3) := by decide +kernel
theorem dX7_either_31 : decode cX7_either 31 = .ok (.iconst 0, 1) := by decide +kernel
theorem dX7_either_32 : decode cX7_either 32 = .ok (.ireturn, 1) := by decide +kernel
theorem dX7_either_33 : decode cX7_either 33 = .ok (.aload_n 0, 1) := by decide +kernel
theorem dX7_either_34 : decode cX7_either 34 = .ok (.iconst 2, 1) := by decide +kernel
theorem dX7_either_35 : decode cX7_either 35 = .ok (.bipush 124, 2) := by decide +kernel
theorem dX7_either_37 : decode cX7_either 37 = .ok (.invokevirtual 248, 3) := by decide +kernel
theorem dX7_either_40 : decode cX7_either 40 = .ok (.goto (-30), 3) := by decide +kernel
theorem dX7_either_43 : decode cX7_either 43 = .ok (.iconst 1, 1) := by decide +kernel
theorem dX7_either_44 : decode cX7_either 44 = .ok (.ireturn, 1) := by decide +kernel
theorem dX7_both_0 : decode cX7_both 0 = .ok (.aload_n 0, 1) := by decide +kernel
theorem dX7_both_1 : decode cX7_both 1 = .ok (.iload_n 1, 1) := by decide +kernel
theorem dX7_both_2 : decode cX7_both 2 = .ok (.invokevirtual 251, 3) := by decide +kernel
theorem dX7_both_5 : decode cX7_both 5 = .ok (.ifCond .ne 5, 3) := by decide +kernel
theorem dX7_both_8 : decode cX7_both 8 = .ok (.iconst 0, 1) := by decide +kernel
theorem dX7_both_9 : decode cX7_both 9 = .ok (.ireturn, 1) := by decide +kernel
theorem dX7_both_10 : decode cX7_both 10 = .ok (.aload_n 0, 1) := by decide +kernel
theorem dX7_both_11 : decode cX7_both 11 = .ok (.bipush 38, 2) := by decide +kernel
theorem dX7_both_13 : decode cX7_both 13 = .ok (.invokevirtual 242, 3) := by decide +kernel
theorem dX7_both_16 : decode cX7_both 16 = .ok (.ifCond .eq 27, 3) := by decide +kernel
theorem dX7_both_19 : decode cX7_both 19 = .ok (.aload_n 0, 1) := by decide +kernel
theorem dX7_both_20 : decode cX7_both 20 = .ok (.invokevirtual 245, 3) := by decide +kernel
theorem dX7_both_23 : decode cX7_both 23 = .ok (.aload_n 0, 1) := by decide +kernel
theorem dX7_both_24 : decode cX7_both 24 = .ok (.iload_n 1, 1) := by decide +kernel
theorem dX7_both_25 : decode cX7_both 25 = .ok (.invokevirtual 251, 3) := by decide +kernel
theorem dX7_both_28 : decode cX7_both 28 = .ok (.ifCond .ne 5, 3) := by decide +kernel
theorem dX7_both_31 : decode cX7_both 31 = .ok (.iconst 0, 1) := by decide +kernel
theorem dX7_both_32 : decode cX7_both 32 = .ok (.ireturn, 1) := by decide +kernel
theorem dX7_both_33 : decode cX7_both 33 = .ok (.aload_n 0, 1) := by decide +kernel
theorem dX7_both_34 : decode cX7_both 34 = .ok (.iconst 2, 1) := by decide +kernel
theorem dX7_both_35 : decode cX7_both 35 = .ok (.bipush 38, 2) := by decide +kernel
theorem dX7_both_37 : decode cX7_both 37 = .ok (.invokevirtual 248, 3) := by decide +kernel
theorem dX7_both_40 : decode cX7_both 40 = .ok (.goto (-30), 3) := by decide +kernel
theorem dX7_both_43 : decode cX7_both 43 = .ok (.iconst 1, 1) := by decide +kernel
theorem dX7_both_44 : decode cX7_both 44 = .ok (.ireturn, 1) := by decide +kernel
theorem dX7_test_0 : decode cX7_test 0 = .ok (.aload_n 0, 1) := by decide +kernel
theorem dX7_test_1 : decode cX7_test 1 = .ok (.iload_n 1, 1) := by decide +kernel
theorem dX7_test_2 : decode cX7_test 2 = .ok (.invokevirtual 254, 3) := by decide +kernel
theorem dX7_test_5 : decode cX7_test 5 = .ok (.ifCond .ne 5, 3) := by decide +kernel
theorem dX7_test_8 : decode cX7_test 8 = .ok (.iconst 0, 1) := by decide +kernel
theorem dX7_test_9 : decode cX7_test 9 = .ok (.ireturn, 1) := by decide +kernel
theorem dX7_test_10 : decode cX7_test 10 = .ok (.aload_n 0, 1) := by decide +kernel
theorem dX7_test_11 : decode cX7_test 11 = .ok (.bipush 60, 2) := by decide +kernel
theorem dX7_test_13 : decode cX7_test 13 = .ok (.invokevirtual 242, 3) := by decide +kernel
theorem dX7_test_16 : decode cX7_test 16 = .ok (.ifCond .ne 21, 3) := by decide +kernel
theorem dX7_test_19 : decode cX7_test 19 = .ok (.aload_n 0, 1) := by decide +kernel
theorem dX7_test_20 : decode cX7_test 20 = .ok (.bipush 61, 2) := by decide +kernel
theorem dX7_test_22 : decode cX7_test 22 = .ok (.invokevirtual 242, 3) := by decide +kernel
theorem dX7_test_25 : decode cX7_test 25 = .ok (.ifCond .ne 12, 3) := by decide +kernel
theorem dX7_test_28 : decode cX7_test 28 = .ok (.aload_n 0, 1) := by decide +kernel
theorem dX7_test_29 : decode cX7_test 29 = .ok (.bipush 62, 2) := by decide +kernel
theorem dX7_test_31 : decode cX7_test 31 = .ok (.invokevirtual 242, 3) := by decide +kernel
theorem dX7_test_34 : decode cX7_test 34 = .ok (.ifCond .eq 28, 3) := by decide +kernel
theorem dX7_test_37 : decode cX7_test 37 = .ok (.aload_n 0, 1) := by decide +kernel
theorem dX7_test_38 : decode cX7_test 38 = .ok (.getfield 216, 3) := by decide +kernel
theorem dX7_test_41 : decode cX7_test 41 = .ok (.istore_n 2, 1) := by decide +kernel
theorem dX7_test_42 : decode cX7_test 42 = .ok (.aload_n 0, 1) := by decide +kernel
theorem dX7_test_43 : decode cX7_test 43 = .ok (.invokevirtual 245, 3) := by decide +kernel
theorem dX7_test_46 : decode cX7_test 46 = .ok (.aload_n 0, 1) := by decide +kernel
theorem dX7_test_47 : decode cX7_test 47 = .ok (.iload_n 1, 1) := by decide +kernel
theorem dX7_test_48 : decode cX7_test 48 = .ok (.invokevirtual 254, 3) := by decide +kernel
theorem dX7_test_51 : decode cX7_test 51 = .ok (.ifCond .ne 5, 3) := by decide +kernel
theorem dX7_test_54 : decode cX7_test 54 = .ok (.iconst 0, 1) := by decide +kernel
theorem dX7_test_55 : decode cX7_test 55 = .ok (.ireturn, 1) := by decide +kernel
theorem dX7_test_56 : decode cX7_test 56 = .ok (.aload_n 0, 1) := by decide +kernel
theorem dX7_test_57 : decode cX7_test 57 = .ok (.iconst 2, 1) := by decide +kernel
theorem dX7_test_58 : decode cX7_test 58 = .ok (.iload_n 2, 1) := by decide +kernel
theorem dX7_test_59 : decode cX7_test 59 = .ok (.invokevirtual 248, 3) := by decide +kernel
theorem dX7_test_62 : decode cX7_test 62 = .ok (.iconst 1, 1) := by decide +kernel
theorem dX7_test_63 : decode cX7_test 63 = .ok (.ireturn, 1) := by decide +kernel
theorem dX7_sum_0 : decode cX7_sum 0 = .ok (.aload_n 0, 1) := by decide +kernel
theorem dX7_sum_1 : decode cX7_sum 1 = .ok (.iload_n 1, 1) := by decide +kernel
theorem dX7_sum_2 : decode cX7_sum 2 = .ok (.invokevirtual 257, 3) := by decide +kernel
theorem dX7_sum_5 : decode cX7_sum 5 = .ok (.ifCond .ne 5, 3) := by decide +kernel
theorem dX7_sum_8 : decode cX7_sum 8 = .ok (.iconst 0, 1) := by decide +kernel
theorem dX7_sum_9 : decode cX7_sum 9 = .ok (.ireturn, 1) := by decide +kernel
theorem dX7_sum_10 : decode cX7_sum 10 = .ok (.aload_n 0, 1) := by decide +kernel
theorem dX7_sum_11 : decode cX7_sum 11 = .ok (.bipush 43, 2) := by decide +kernel
theorem dX7_sum_13 : decode cX7_sum 13 = .ok (.invokevirtual 242, 3) := by decide +kernel
theorem dX7_sum_16 : decode cX7_sum 16 = .ok (.ifCond .ne 12, 3) := by decide +kernel
theorem dX7_sum_19 : decode cX7_sum 19 = .ok (.aload_n 0, 1) := by decide +kernel
theorem dX7_sum_20 : decode cX7_sum 20 = .ok (.bipush 45, 2) := by decide +kernel
theorem dX7_sum_22 : decode cX7_sum 22 = .ok (.invokevirtual 242, 3) := by decide +kernel
theorem dX7_sum_25 : decode cX7_sum 25 = .ok (.ifCond .eq 31, 3) := by decide +kernel
theorem dX7_sum_28 : decode cX7_sum 28 = .ok (.aload_n 0, 1) := by decide +kernel
theorem dX7_sum_29 : decode cX7_sum 29 = .ok (.getfield 216, 3) := by decide +kernel
theorem dX7_sum_32 : decode cX7_sum 32 = .ok (.istore_n 2, 1) := by decide +kernel
theorem dX7_sum_33 : decode cX7_sum 33 = .ok (.aload_n 0, 1) := by decide +kernel
theorem dX7_sum_34 : decode cX7_sum 34 = .ok (.invokevirtual 245, 3) := by decide +kernel
theorem dX7_sum_37 : decode cX7_sum 37 = .ok (.aload_n 0, 1) := by decide +kernel
theorem dX7_sum_38 : decode cX7_sum 38 = .ok (.iload_n 1, 1) := by decide +kernel
theorem dX7_sum_39 : decode cX7_sum 39 = .ok (.invokevirtual 257, 3) := by decide +kernel
theorem dX7_sum_42 : decode cX7_sum 42 = .ok (.ifCond .ne 5, 3) := by decide +kernel
theorem dX7_sum_45 : decode cX7_sum 45 = .ok (.iconst 0, 1) := by decide +kernel
theorem dX7_sum_46 : decode cX7_sum 46 = .ok (.ireturn, 1) := by decide +kernel
theorem dX7_sum_47 : decode cX7_sum 47 = .ok (.aload_n 0, 1) := by decide +kernel
theorem dX7_sum_48 : decode cX7_sum 48 = .ok (.iconst 2, 1) := by decide +kernel
theorem dX7_sum_49 : decode cX7_sum 49 = .ok (.iload_n 2, 1) := by decide +kernel
theorem dX7_sum_50 : decode cX7_sum 50 = .ok (.invokevirtual 248, 3) := by decide +kernel
theorem dX7_sum_53 : decode cX7_sum 53 = .ok (.goto (-43), 3) := by decide +kernel
theorem dX7_sum_56 : decode cX7_sum 56 = .ok (.iconst 1, 1) := by decide +kernel
theorem dX7_sum_57 : decode cX7_sum 57 = .ok (.ireturn, 1) := by decide +kernel
theorem dX7_term_0 : decode cX7_term 0 = .ok (.aload_n 0, 1) := by decide +kernel
theorem dX7_term_1 : decode cX7_term 1 = .ok (.iload_n 1, 1) := by decide +kernel
theorem dX7_term_2 : decode cX7_term 2 = .ok (.invokevirtual 260, 3) := by decide +kernel
theorem dX7_term_5 : decode cX7_term 5 = .ok (.ifCond .ne 5, 3) := by decide +kernel
theorem dX7_term_8 : decode cX7_term 8 = .ok (.iconst 0, 1) := by decide +kernel
theorem dX7_term_9 : decode cX7_term 9 = .ok (.ireturn, 1) := by decide +kernel
theorem dX7_term_10 : decode cX7_term 10 = .ok (.aload_n 0, 1) := by decide +kernel
theorem dX7_term_11 : decode cX7_term 11 = .ok (.bipush 42, 2) := by decide +kernel
theorem dX7_term_13 : decode cX7_term 13 = .ok (.invokevirtual 242, 3) := by decide +kernel
theorem dX7_term_16 : decode cX7_term 16 = .ok (.ifCond .ne 12, 3) := by decide +kernel
theorem dX7_term_19 : decode cX7_term 19 = .ok (.aload_n 0, 1) := by decide +kernel
theorem dX7_term_20 : decode cX7_term 20 = .ok (.bipush 47, 2) := by decide +kernel
theorem dX7_term_22 : decode cX7_term 22 = .ok (.invokevirtual 242, 3) := by decide +kernel
theorem dX7_term_25 : decode cX7_term 25 = .ok (.ifCond .eq 31, 3) := by decide +kernel
theorem dX7_term_28 : decode cX7_term 28 = .ok (.aload_n 0, 1) := by decide +kernel
theorem dX7_term_29 : decode cX7_term 29 = .ok (.getfield 216, 3) := by decide +kernel
theorem dX7_term_32 : decode cX7_term 32 = .ok (.istore_n 2, 1) := by decide +kernel
theorem dX7_term_33 : decode cX7_term 33 = .ok (.aload_n 0, 1) := by decide +kernel
theorem dX7_term_34 : decode cX7_term 34 = .ok (.invokevirtual 245, 3) := by decide +kernel
theorem dX7_term_37 : decode cX7_term 37 = .ok (.aload_n 0, 1) := by decide +kernel
theorem dX7_term_38 : decode cX7_term 38 = .ok (.iload_n 1, 1) := by decide +kernel
theorem dX7_term_39 : decode cX7_term 39 = .ok (.invokevirtual 260, 3) := by decide +kernel
theorem dX7_term_42 : decode cX7_term 42 = .ok (.ifCond .ne 5, 3) := by decide +kernel
theorem dX7_term_45 : decode cX7_term 45 = .ok (.iconst 0, 1) := by decide +kernel
theorem dX7_term_46 : decode cX7_term 46 = .ok (.ireturn, 1) := by decide +kernel
theorem dX7_term_47 : decode cX7_term 47 = .ok (.aload_n 0, 1) := by decide +kernel
theorem dX7_term_48 : decode cX7_term 48 = .ok (.iconst 2, 1) := by decide +kernel
theorem dX7_term_49 : decode cX7_term 49 = .ok (.iload_n 2, 1) := by decide +kernel
theorem dX7_term_50 : decode cX7_term 50 = .ok (.invokevirtual 248, 3) := by decide +kernel
theorem dX7_term_53 : decode cX7_term 53 = .ok (.goto (-43), 3) := by decide +kernel
theorem dX7_term_56 : decode cX7_term 56 = .ok (.iconst 1, 1) := by decide +kernel
theorem dX7_term_57 : decode cX7_term 57 = .ok (.ireturn, 1) := by decide +kernel
theorem dX7_part0_0 : decode cX7_part0 0 = .ok (.aload_n 0, 1) := by decide +kernel
theorem dX7_part0_1 : decode cX7_part0 1 = .ok (.getfield 207, 3) := by decide +kernel
theorem dX7_part0_4 : decode cX7_part0 4 = .ok (.iconst 2, 1) := by decide +kernel
theorem dX7_part0_5 : decode cX7_part0 5 = .ok (.if_icmp .ne 28, 3) := by decide +kernel
theorem dX7_part0_8 : decode cX7_part0 8 = .ok (.aload_n 0, 1) := by decide +kernel
theorem dX7_part0_9 : decode cX7_part0 9 = .ok (.iconst 0, 1) := by decide +kernel
theorem dX7_part0_10 : decode cX7_part0 10 = .ok (.aload_n 0, 1) := by decide +kernel
theorem dX7_part0_11 : decode cX7_part0 11 = .ok (.getfield 222, 3) := by decide +kernel
theorem dX7_part0_14 : decode cX7_part0 14 = .ok (.invokevirtual 248, 3) := by decide +kernel
theorem dX7_part0_17 : decode cX7_part0 17 = .ok (.aload_n 0, 1) := by decide +kernel
theorem dX7_part0_18 : decode cX7_part0 18 = .ok (.dup, 1) := by decide +kernel
theorem dX7_part0_19 : decode cX7_part0 19 = .ok (.getfield 263, 3) := by decide +kernel
theorem dX7_part0_22 : decode cX7_part0 22 = .ok (.iconst 1, 1) := by decide +kernel
theorem dX7_part0_23 : decode cX7_part0 23 = .ok (.iadd, 1) := by decide +kernel
theorem dX7_part0_24 : decode cX7_part0 24 = .ok (.putfield 263, 3) := by decide +kernel
theorem dX7_part0_27 : decode cX7_part0 27 = .ok (.aload_n 0, 1) := by decide +kernel
theorem dX7_part0_28 : decode cX7_part0 28 = .ok (.invokevirtual 245, 3) := by decide +kernel
theorem dX7_part0_31 : decode cX7_part0 31 = .ok (.iconst 1, 1) := by decide +kernel
theorem dX7_part0_32 : decode cX7_part0 32 = .ok (.ireturn, 1) := by decide +kernel
theorem dX7_part0_33 : decode cX7_part0 33 = .ok (.aload_n 0, 1) := by decide +kernel
theorem dX7_part0_34 : decode cX7_part0 34 = .ok (.getfield 207, 3) := by decide +kernel
theorem dX7_part0_37 : decode cX7_part0 37 = .ok (.iconst 1, 1) := by decide +kernel
theorem dX7_part0_38 : decode cX7_part0 38 = .ok (.if_icmp .ne 46, 3) := by decide +kernel
theorem dX7_part0_41 : decode cX7_part0 41 = .ok (.aload_n 0, 1) := by decide +kernel
theorem dX7_part0_42 : decode cX7_part0 42 = .ok (.getfield 216, 3) := by decide +kernel
theorem dX7_part0_45 : decode cX7_part0 45 = .ok (.ifCond .eq 39, 3) := by decide +kernel
theorem dX7_part0_48 : decode cX7_part0 48 = .ok (.iload_n 1, 1) := by decide +kernel
theorem dX7_part0_49 : decode cX7_part0 49 = .ok (.aload_n 0, 1) := by decide +kernel
theorem dX7_part0_50 : decode cX7_part0 50 = .ok (.getfield 216, 3) := by decide +kernel
theorem dX7_part0_53 : decode cX7_part0 53 = .ok (.invokestatic 266, 3) := by decide +kernel
theorem dX7_part0_56 : decode cX7_part0 56 = .ok (.ifCond .eq 28, 3) := by decide +kernel
theorem dX7_part0_59 : decode cX7_part0 59 = .ok (.aload_n 0, 1) := by decide +kernel
theorem dX7_part0_60 : decode cX7_part0 60 = .ok (.iconst 1, 1) := by decide +kernel
theorem dX7_part0_61 : decode cX7_part0 61 = .ok (.aload_n 0, 1) := by decide +kernel
theorem dX7_part0_62 : decode cX7_part0 62 = .ok (.getfield 216, 3) := by decide +kernel
theorem dX7_part0_65 : decode cX7_part0 65 = .ok (.invokevirtual 248, 3) := by decide +kernel
theorem dX7_part0_68 : decode cX7_part0 68 = .ok (.aload_n 0, 1) := by decide +kernel
theorem dX7_part0_69 : decode cX7_part0 69 = .ok (.dup, 1) := by decide +kernel
theorem dX7_part0_70 : decode cX7_part0 70 = .ok (.getfield 263, 3) := by decide +kernel
theorem dX7_part0_73 : decode cX7_part0 73 = .ok (.iconst 1, 1) := by decide +kernel
theorem dX7_part0_74 : decode cX7_part0 74 = .ok (.iadd, 1) := by decide +kernel
theorem dX7_part0_75 : decode cX7_part0 75 = .ok (.putfield 263, 3) := by decide +kernel
theorem dX7_part0_78 : decode cX7_part0 78 = .ok (.aload_n 0, 1) := by decide +kernel
theorem dX7_part0_79 : decode cX7_part0 79 = .ok (.invokevirtual 245, 3) := by decide +kernel
theorem dX7_part0_82 : decode cX7_part0 82 = .ok (.iconst 1, 1) := by decide +kernel
theorem dX7_part0_83 : decode cX7_part0 83 = .ok (.ireturn, 1) := by decide +kernel
theorem dX7_part0_84 : decode cX7_part0 84 = .ok (.aload_n 0, 1) := by decide +kernel
theorem dX7_part0_85 : decode cX7_part0 85 = .ok (.bipush 33, 2) := by decide +kernel
theorem dX7_part0_87 : decode cX7_part0 87 = .ok (.invokevirtual 242, 3) := by decide +kernel
theorem dX7_part0_90 : decode cX7_part0 90 = .ok (.ifCond .eq 55, 3) := by decide +kernel
theorem dX7_part0_93 : decode cX7_part0 93 = .ok (.aload_n 0, 1) := by decide +kernel
theorem dX7_part0_94 : decode cX7_part0 94 = .ok (.getfield 269, 3) := by decide +kernel
theorem dX7_part0_97 : decode cX7_part0 97 = .ok (.bipush 8, 2) := by decide +kernel
theorem dX7_part0_99 : decode cX7_part0 99 = .ok (.if_icmp .ge 46, 3) := by decide +kernel
theorem dX7_part0_102 : decode cX7_part0 102 = .ok (.aload_n 0, 1) := by decide +kernel
theorem dX7_part0_103 : decode cX7_part0 103 = .ok (.dup, 1) := by decide +kernel
theorem dX7_part0_104 : decode cX7_part0 104 = .ok (.getfield 269, 3) := by decide +kernel
theorem dX7_part0_107 : decode cX7_part0 107 = .ok (.iconst 1, 1) := by decide +kernel
theorem dX7_part0_108 : decode cX7_part0 108 = .ok (.iadd, 1) := by decide +kernel
theorem dX7_part0_109 : decode cX7_part0 109 = .ok (.putfield 269, 3) := by decide +kernel
theorem dX7_part0_112 : decode cX7_part0 112 = .ok (.aload_n 0, 1) := by decide +kernel
theorem dX7_part0_113 : decode cX7_part0 113 = .ok (.invokevirtual 245, 3) := by decide +kernel
theorem dX7_part0_116 : decode cX7_part0 116 = .ok (.aload_n 0, 1) := by decide +kernel
theorem dX7_part0_117 : decode cX7_part0 117 = .ok (.iload_n 1, 1) := by decide +kernel
theorem dX7_part0_118 : decode cX7_part0 118 = .ok (.invokevirtual 260, 3) := by decide +kernel
theorem dX7_part0_121 : decode cX7_part0 121 = .ok (.ifCond .ne 5, 3) := by decide +kernel
theorem dX7_part0_124 : decode cX7_part0 124 = .ok (.iconst 0, 1) := by decide +kernel
theorem dX7_part0_125 : decode cX7_part0 125 = .ok (.ireturn, 1) := by decide +kernel
theorem dX7_part0_126 : decode cX7_part0 126 = .ok (.aload_n 0, 1) := by decide +kernel
theorem dX7_part0_127 : decode cX7_part0 127 = .ok (.dup, 1) := by decide +kernel
theorem dX7_part0_128 : decode cX7_part0 128 = .ok (.getfield 269, 3) := by decide +kernel
theorem dX7_part0_131 : decode cX7_part0 131 = .ok (.iconst 1, 1) := by decide +kernel
theorem dX7_part0_132 : decode cX7_part0 132 = .ok (.isub, 1) := by decide +kernel
theorem dX7_part0_133 : decode cX7_part0 133 = .ok (.putfield 269, 3) := by decide +kernel
theorem dX7_part0_136 : decode cX7_part0 136 = .ok (.aload_n 0, 1) := by decide +kernel
theorem dX7_part0_137 : decode cX7_part0 137 = .ok (.iconst 2, 1) := by decide +kernel
theorem dX7_part0_138 : decode cX7_part0 138 = .ok (.bipush 33, 2) := by decide +kernel
theorem dX7_part0_140 : decode cX7_part0 140 = .ok (.invokevirtual 248, 3) := by decide +kernel
theorem dX7_part0_143 : decode cX7_part0 143 = .ok (.iconst 1, 1) := by decide +kernel
theorem dX7_part0_144 : decode cX7_part0 144 = .ok (.ireturn, 1) := by decide +kernel
theorem dX7_part0_145 : decode cX7_part0 145 = .ok (.aload_n 0, 1) := by decide +kernel
theorem dX7_part0_146 : decode cX7_part0 146 = .ok (.bipush 40, 2) := by decide +kernel
theorem dX7_part0_148 : decode cX7_part0 148 = .ok (.invokevirtual 242, 3) := by decide +kernel
theorem dX7_part0_151 : decode cX7_part0 151 = .ok (.ifCond .eq 12, 3) := by decide +kernel
theorem dX7_part0_154 : decode cX7_part0 154 = .ok (.aload_n 0, 1) := by decide +kernel
theorem dX7_part0_155 : decode cX7_part0 155 = .ok (.getfield 272, 3) := by decide +kernel
theorem dX7_part0_158 : decode cX7_part0 158 = .ok (.bipush 8, 2) := by decide +kernel
theorem dX7_part0_160 : decode cX7_part0 160 = .ok (.if_icmp .ne 5, 3) := by decide +kernel
theorem dX7_part0_163 : decode cX7_part0 163 = .ok (.iconst 0, 1) := by decide +kernel
theorem dX7_part0_164 : decode cX7_part0 164 = .ok (.ireturn, 1) := by decide +kernel
theorem dX7_part0_165 : decode cX7_part0 165 = .ok (.aload_n 0, 1) := by decide +kernel
theorem dX7_part0_166 : decode cX7_part0 166 = .ok (.dup, 1) := by decide +kernel
theorem dX7_part0_167 : decode cX7_part0 167 = .ok (.getfield 272, 3) := by decide +kernel
theorem dX7_part0_170 : decode cX7_part0 170 = .ok (.iconst 1, 1) := by decide +kernel
theorem dX7_part0_171 : decode cX7_part0 171 = .ok (.iadd, 1) := by decide +kernel
theorem dX7_part0_172 : decode cX7_part0 172 = .ok (.putfield 272, 3) := by decide +kernel
theorem dX7_part0_175 : decode cX7_part0 175 = .ok (.aload_n 0, 1) := by decide +kernel
theorem dX7_part0_176 : decode cX7_part0 176 = .ok (.invokevirtual 245, 3) := by decide +kernel
theorem dX7_part0_179 : decode cX7_part0 179 = .ok (.aload_n 0, 1) := by decide +kernel
theorem dX7_part0_180 : decode cX7_part0 180 = .ok (.iload_n 1, 1) := by decide +kernel
theorem dX7_part0_181 : decode cX7_part0 181 = .ok (.invokevirtual 275, 3) := by decide +kernel
theorem dX7_part0_184 : decode cX7_part0 184 = .ok (.ifCond .eq 12, 3) := by decide +kernel
theorem dX7_part0_187 : decode cX7_part0 187 = .ok (.aload_n 0, 1) := by decide +kernel
theorem dX7_part0_188 : decode cX7_part0 188 = .ok (.bipush 41, 2) := by decide +kernel
theorem dX7_part0_190 : decode cX7_part0 190 = .ok (.invokevirtual 242, 3) := by decide +kernel
theorem dX7_part0_193 : decode cX7_part0 193 = .ok (.ifCond .ne 5, 3) := by decide +kernel
theorem dX7_part0_196 : decode cX7_part0 196 = .ok (.iconst 0, 1) := by decide +kernel
theorem dX7_part0_197 : decode cX7_part0 197 = .ok (.ireturn, 1) := by decide +kernel
theorem dX7_part0_198 : decode cX7_part0 198 = .ok (.aload_n 0, 1) := by decide +kernel
theorem dX7_part0_199 : decode cX7_part0 199 = .ok (.dup, 1) := by decide +kernel
theorem dX7_part0_200 : decode cX7_part0 200 = .ok (.getfield 272, 3) := by decide +kernel
theorem dX7_part0_203 : decode cX7_part0 203 = .ok (.iconst 1, 1) := by decide +kernel
theorem dX7_part0_204 : decode cX7_part0 204 = .ok (.isub, 1) := by decide +kernel
theorem dX7_part0_205 : decode cX7_part0 205 = .ok (.putfield 272, 3) := by decide +kernel
theorem dX7_part0_208 : decode cX7_part0 208 = .ok (.aload_n 0, 1) := by decide +kernel
theorem dX7_part0_209 : decode cX7_part0 209 = .ok (.invokevirtual 245, 3) := by decide +kernel
theorem dX7_part0_212 : decode cX7_part0 212 = .ok (.iconst 1, 1) := by decide +kernel
theorem dX7_part0_213 : decode cX7_part0 213 = .ok (.ireturn, 1) := by decide +kernel
set_option maxHeartbeats 4000000 in
set_option maxRecDepth 100000 in
theorem w_X7_either_L10 {g : sk_G} {l : Launch} {p : Program} {e : Env} {s : State} {m : MethodId} {av : Array Value} {below : List Frame} {meth : Method} {c : Code} (C : sk_C g p s m av meth c cX7_either 2 RX7 (some .boolean)) (self : Nat → Int32 → sk_M → Option (Int32 × sk_M)) (a1 : Int32) {dy dd : Nat} (hdd : dy + 1 = dd) (hdB : 3 < dd) (ih0 : ∀ (a r : Int32) (M M1 : sk_M), self 0 a M = some (r, M1) → sk_MI g l yX7_either cX7_either 2 (some .boolean) dy [.ref (sk_ad g 88), .int a] M r M1) (ih1 : ∀ (a r : Int32) (M M1 : sk_M), self 1 a M = some (r, M1) → sk_MI g l yX7_both cX7_both 2 (some .boolean) dy [.ref (sk_ad g 88), .int a] M r M1) (ih2 : ∀ (a r : Int32) (M M1 : sk_M), self 2 a M = some (r, M1) → sk_MI g l yX7_test cX7_test 3 (some .boolean) dy [.ref (sk_ad g 88), .int a] M r M1) (ih3 : ∀ (a r : Int32) (M M1 : sk_M), self 3 a M = some (r, M1) → sk_MI g l yX7_sum cX7_sum 3 (some .boolean) dy [.ref (sk_ad g 88), .int a] M r M1) (ih4 : ∀ (a r : Int32) (M M1 : sk_M), self 4 a M = some (r, M1) → sk_MI g l yX7_term cX7_term 3 (some .boolean) dy [.ref (sk_ad g 88), .int a] M r M1) (ih5 : ∀ (a r : Int32) (M M1 : sk_M), self 5 a M = some (r, M1) → sk_MI g l yX7_part0 cX7_part0 2 (some .boolean) dy [.ref (sk_ad g 88), .int a] M r M1) {rr : Int32} {MM : sk_M} :
    ∀ (n : Nat) (M : sk_M) (H : Heap) (locs : List Loc) (ls : Array Slot), lv_has ls 2 [(0, .ref (sk_ad g 88)), (1, .int a1)] → sk_P g M H → va_S (sk_A g) s.heap H locs → ∀ {out : (Int32 × sk_M) ⊕ (sk_M)}, f_X7_either_L10 self a1 n M = some out → (∀ r, out = Sum.inl r → some r = some (rr, MM)) → (∀ (M1 : sk_M) (H : Heap) (locs : List Loc) (ls : Array Slot), some (Sum.inr M1) = some out → lv_has ls 2 [] → sk_P g M1 H → va_S (sk_A g) s.heap H locs → W p l e (sk_rm dd) s m av below meth c H locs 0 0 (MQ below (sk_QI g rr MM) av s 0 0 (sk_A g)) (F0 m 43 ls [])) → W p l e (sk_rm dd) s m av below meth c H locs 0 0 (MQ below (sk_QI g rr MM) av s 0 0 (sk_A g)) (F0 m 10 ls []) := by
  obtain ⟨hx, hb, hml, hown, hts, hK, hE, hr, hlocks⟩ := id C
  intro n
  induction n with
  | zero =>
    intro M H locs ls hl hM hS out h
    cases h
  | succ n ih =>
    intro M H locs ls hl hM hS out h kr kx
    rw [f_X7_either_L10] at h
    refine lv_aload_n hx hb dX7_either_10 rfl (lv_at hl 0 rfl) ?_
    refine lv_bipush (v := 124) hx hb dX7_either_11 (by decide) ?_
    refine sk_contI (sk_runV (As := [.int 124]) (rest := []) C (c_X7_isSign g l 124 M rfl) yo_X7_isSign kw_1363 (sk_recv (ci := 7) C hM rfl rfl) (by omega) hM hS hl.1 rfl rfl (Nat.le_of_ble_eq_true rfl) dX7_either_13) hS (fun H locs hM hS => ?_)
    refine lv_if_eq hx hb dX7_either_16 rfl (fun hc => ?_) (fun hc => ?_)
    · have h := sk_pos h hc
      exact kx _ _ _ _ h (lv_sub hl [] rfl) hM hS
    · have h := sk_neg h hc
      refine lv_aload_n hx hb dX7_either_19 rfl (lv_at hl 0 rfl) ?_
      obtain ⟨M_5, h_6, h⟩ := sk_b1E h
      refine sk_contV (sk_runV (As := []) (rest := []) C (c_X7_nextToken g l  M h_6) yo_X7_nextToken kw_1304 (sk_recv (ci := 7) C hM rfl rfl) (by omega) hM hS hl.1 rfl rfl (Nat.le_of_ble_eq_true rfl) dX7_either_20) hS (fun H locs hM hS => ?_)
      refine lv_aload_n hx hb dX7_either_23 rfl (lv_at hl 0 rfl) ?_
      refine lv_iload_n hx hb dX7_either_24 rfl (lv_at hl 1 rfl) ?_
      obtain ⟨x_7, M_8, h_9, h⟩ := sk_b2E h
      refine sk_contI (sk_runV (As := [.int a1]) (rest := []) C (ih1 a1 _ _ _ h_9) yo_X7_both kw_1336 (sk_recv (ci := 7) C hM rfl rfl) (by omega) hM hS hl.1 rfl rfl (Nat.le_of_ble_eq_true rfl) dX7_either_25) hS (fun H locs hM hS => ?_)
      refine lv_if_ne hx hb dX7_either_28 rfl (fun hc => ?_) (fun hc => ?_)
      · have h := sk_neg h hc
        refine lv_aload_n hx hb dX7_either_33 rfl (lv_at hl 0 rfl) ?_
        refine lv_iconst (v := 2) hx hb dX7_either_34 (by decide) ?_
        refine lv_bipush (v := 124) hx hb dX7_either_35 (by decide) ?_
        obtain ⟨M_10, h_11, h⟩ := sk_b1E h
        refine sk_contV (sk_runV (As := [.int 2, .int 124]) (rest := []) C (c_X7_step g l 2 124 M_8 h_11) yo_X7_step kw_1356 (sk_recv (ci := 7) C hM rfl rfl) (by omega) hM hS hl.1 rfl rfl (Nat.le_of_ble_eq_true rfl) dX7_either_37) hS (fun H locs hM hS => ?_)
        refine lv_goto hx hb dX7_either_40 rfl ?_
        exact ih  M_10 _ _ _ (lv_sub hl [0, 1] rfl) hM hS h kr kx
      · have h := sk_pos h hc
        refine lv_iconst (v := 0) hx hb dX7_either_31 (by decide) ?_
        have h := kr _ (Option.some.inj h).symm
        exact sk_zret C hM hS (sk_nz (Or.inl rfl)) (sk_e2 h) dX7_either_32
set_option maxHeartbeats 4000000 in
set_option maxRecDepth 100000 in
theorem w_X7_either (g : sk_G) (l : Launch) (self : Nat → Int32 → sk_M → Option (Int32 × sk_M)) (a1 : Int32) {dy dd : Nat} (hdd : dy + 1 = dd) (hdB : 3 < dd) (ih0 : ∀ (a r : Int32) (M M1 : sk_M), self 0 a M = some (r, M1) → sk_MI g l yX7_either cX7_either 2 (some .boolean) dy [.ref (sk_ad g 88), .int a] M r M1) (ih1 : ∀ (a r : Int32) (M M1 : sk_M), self 1 a M = some (r, M1) → sk_MI g l yX7_both cX7_both 2 (some .boolean) dy [.ref (sk_ad g 88), .int a] M r M1) (ih2 : ∀ (a r : Int32) (M M1 : sk_M), self 2 a M = some (r, M1) → sk_MI g l yX7_test cX7_test 3 (some .boolean) dy [.ref (sk_ad g 88), .int a] M r M1) (ih3 : ∀ (a r : Int32) (M M1 : sk_M), self 3 a M = some (r, M1) → sk_MI g l yX7_sum cX7_sum 3 (some .boolean) dy [.ref (sk_ad g 88), .int a] M r M1) (ih4 : ∀ (a r : Int32) (M M1 : sk_M), self 4 a M = some (r, M1) → sk_MI g l yX7_term cX7_term 3 (some .boolean) dy [.ref (sk_ad g 88), .int a] M r M1) (ih5 : ∀ (a r : Int32) (M M1 : sk_M), self 5 a M = some (r, M1) → sk_MI g l yX7_part0 cX7_part0 2 (some .boolean) dy [.ref (sk_ad g 88), .int a] M r M1) (M : sk_M) {rr : Int32} {MM : sk_M} (h : f_X7_either self a1 M = some (rr, MM)) : sk_MI g l yX7_either cX7_either 2 (some .boolean) dd [.ref (sk_ad g 88), .int a1] M rr MM := by
  refine sk_go [(0, .ref (sk_ad g 88)), (1, .int a1)] (by decide) (Nat.le_of_ble_eq_true rfl) rfl ?_
  intro p e s m av below meth c C ls hl hM hS
  obtain ⟨hx, hb, hml, hown, hts, hK, hE, hr, hlocks⟩ := id C
  rw [f_X7_either] at h
  refine lv_aload_n hx hb dX7_either_0 rfl (lv_at hl 0 rfl) ?_
  refine lv_iload_n hx hb dX7_either_1 rfl (lv_at hl 1 rfl) ?_
  obtain ⟨x_1, M_2, h_3, h⟩ := sk_b2E h
  refine sk_contI (sk_runV (As := [.int a1]) (rest := []) C (ih1 a1 _ _ _ h_3) yo_X7_both kw_1336 (sk_recv (ci := 7) C hM rfl rfl) (by omega) hM hS hl.1 rfl rfl (Nat.le_of_ble_eq_true rfl) dX7_either_2) hS (fun H locs hM hS => ?_)
  refine lv_if_ne hx hb dX7_either_5 rfl (fun hc => ?_) (fun hc => ?_)
  · have h := sk_neg h hc
    obtain ⟨out_14, h_13, kf_15, kg_16⟩ := sk_s1E h
    refine w_X7_either_L10 C self a1 hdd hdB ih0 ih1 ih2 ih3 ih4 ih5 sk_FU M_2 _ _ _ (lv_sub hl [0, 1] rfl) hM hS h_13 kf_15 (fun M_12 H locs ls he hl hM hS => ?_)
    have h := kg_16 M_12 (Option.some.inj he).symm
    refine lv_iconst (v := 1) hx hb dX7_either_43 (by decide) ?_
    exact sk_zret C hM hS (sk_nz (Or.inr rfl)) (sk_e2 h) dX7_either_44
  · have h := sk_pos h hc
    refine lv_iconst (v := 0) hx hb dX7_either_8 (by decide) ?_
    exact sk_zret C hM hS (sk_nz (Or.inl rfl)) (sk_e2 h) dX7_either_9
set_option maxHeartbeats 4000000 in
set_option maxRecDepth 100000 in
theorem w_X7_both_L10 {g : sk_G} {l : Launch} {p : Program} {e : Env} {s : State} {m : MethodId} {av : Array Value} {below : List Frame} {meth : Method} {c : Code} (C : sk_C g p s m av meth c cX7_both 2 RX7 (some .boolean)) (self : Nat → Int32 → sk_M → Option (Int32 × sk_M)) (a1 : Int32) {dy dd : Nat} (hdd : dy + 1 = dd) (hdB : 3 < dd) (ih0 : ∀ (a r : Int32) (M M1 : sk_M), self 0 a M = some (r, M1) → sk_MI g l yX7_either cX7_either 2 (some .boolean) dy [.ref (sk_ad g 88), .int a] M r M1) (ih1 : ∀ (a r : Int32) (M M1 : sk_M), self 1 a M = some (r, M1) → sk_MI g l yX7_both cX7_both 2 (some .boolean) dy [.ref (sk_ad g 88), .int a] M r M1) (ih2 : ∀ (a r : Int32) (M M1 : sk_M), self 2 a M = some (r, M1) → sk_MI g l yX7_test cX7_test 3 (some .boolean) dy [.ref (sk_ad g 88), .int a] M r M1) (ih3 : ∀ (a r : Int32) (M M1 : sk_M), self 3 a M = some (r, M1) → sk_MI g l yX7_sum cX7_sum 3 (some .boolean) dy [.ref (sk_ad g 88), .int a] M r M1) (ih4 : ∀ (a r : Int32) (M M1 : sk_M), self 4 a M = some (r, M1) → sk_MI g l yX7_term cX7_term 3 (some .boolean) dy [.ref (sk_ad g 88), .int a] M r M1) (ih5 : ∀ (a r : Int32) (M M1 : sk_M), self 5 a M = some (r, M1) → sk_MI g l yX7_part0 cX7_part0 2 (some .boolean) dy [.ref (sk_ad g 88), .int a] M r M1) {rr : Int32} {MM : sk_M} :
    ∀ (n : Nat) (M : sk_M) (H : Heap) (locs : List Loc) (ls : Array Slot), lv_has ls 2 [(0, .ref (sk_ad g 88)), (1, .int a1)] → sk_P g M H → va_S (sk_A g) s.heap H locs → ∀ {out : (Int32 × sk_M) ⊕ (sk_M)}, f_X7_both_L10 self a1 n M = some out → (∀ r, out = Sum.inl r → some r = some (rr, MM)) → (∀ (M1 : sk_M) (H : Heap) (locs : List Loc) (ls : Array Slot), some (Sum.inr M1) = some out → lv_has ls 2 [] → sk_P g M1 H → va_S (sk_A g) s.heap H locs → W p l e (sk_rm dd) s m av below meth c H locs 0 0 (MQ below (sk_QI g rr MM) av s 0 0 (sk_A g)) (F0 m 43 ls [])) → W p l e (sk_rm dd) s m av below meth c H locs 0 0 (MQ below (sk_QI g rr MM) av s 0 0 (sk_A g)) (F0 m 10 ls []) := by
  obtain ⟨hx, hb, hml, hown, hts, hK, hE, hr, hlocks⟩ := id C
  intro n
  induction n with
  | zero =>
    intro M H locs ls hl hM hS out h
    cases h
  | succ n ih =>
    intro M H locs ls hl hM hS out h kr kx
    rw [f_X7_both_L10] at h
    refine lv_aload_n hx hb dX7_both_10 rfl (lv_at hl 0 rfl) ?_
    refine lv_bipush (v := 38) hx hb dX7_both_11 (by decide) ?_
    refine sk_contI (sk_runV (As := [.int 38]) (rest := []) C (c_X7_isSign g l 38 M rfl) yo_X7_isSign kw_1363 (sk_recv (ci := 7) C hM rfl rfl) (by omega) hM hS hl.1 rfl rfl (Nat.le_of_ble_eq_true rfl) dX7_both_13) hS (fun H locs hM hS => ?_)
    refine lv_if_eq hx hb dX7_both_16 rfl (fun hc => ?_) (fun hc => ?_)
    · have h := sk_pos h hc
      exact kx _ _ _ _ h (lv_sub hl [] rfl) hM hS
    · have h := sk_neg h hc
      refine lv_aload_n hx hb dX7_both_19 rfl (lv_at hl 0 rfl) ?_
      obtain ⟨M_5, h_6, h⟩ := sk_b1E h
      refine sk_contV (sk_runV (As := []) (rest := []) C (c_X7_nextToken g l  M h_6) yo_X7_nextToken kw_1304 (sk_recv (ci := 7) C hM rfl rfl) (by omega) hM hS hl.1 rfl rfl (Nat.le_of_ble_eq_true rfl) dX7_both_20) hS (fun H locs hM hS => ?_)
      refine lv_aload_n hx hb dX7_both_23 rfl (lv_at hl 0 rfl) ?_
      refine lv_iload_n hx hb dX7_both_24 rfl (lv_at hl 1 rfl) ?_
      obtain ⟨x_7, M_8, h_9, h⟩ := sk_b2E h
      refine sk_contI (sk_runV (As := [.int a1]) (rest := []) C (ih2 a1 _ _ _ h_9) yo_X7_test kw_1340 (sk_recv (ci := 7) C hM rfl rfl) (by omega) hM hS hl.1 rfl rfl (Nat.le_of_ble_eq_true rfl) dX7_both_25) hS (fun H locs hM hS => ?_)
      refine lv_if_ne hx hb dX7_both_28 rfl (fun hc => ?_) (fun hc => ?_)
      · have h := sk_neg h hc
        refine lv_aload_n hx hb dX7_both_33 rfl (lv_at hl 0 rfl) ?_
        refine lv_iconst (v := 2) hx hb dX7_both_34 (by decide) ?_
        refine lv_bipush (v := 38) hx hb dX7_both_35 (by decide) ?_
        obtain ⟨M_10, h_11, h⟩ := sk_b1E h
        refine sk_contV (sk_runV (As := [.int 2, .int 38]) (rest := []) C (c_X7_step g l 2 38 M_8 h_11) yo_X7_step kw_1356 (sk_recv (ci := 7) C hM rfl rfl) (by omega) hM hS hl.1 rfl rfl (Nat.le_of_ble_eq_true rfl) dX7_both_37) hS (fun H locs hM hS => ?_)
        refine lv_goto hx hb dX7_both_40 rfl ?_
        exact ih  M_10 _ _ _ (lv_sub hl [0, 1] rfl) hM hS h kr kx
      · have h := sk_pos h hc
        refine lv_iconst (v := 0) hx hb dX7_both_31 (by decide) ?_
        have h := kr _ (Option.some.inj h).symm
        exact sk_zret C hM hS (sk_nz (Or.inl rfl)) (sk_e2 h) dX7_both_32
set_option maxHeartbeats 4000000 in
set_option maxRecDepth 100000 in
theorem w_X7_both (g : sk_G) (l : Launch) (self : Nat → Int32 → sk_M → Option (Int32 × sk_M)) (a1 : Int32) {dy dd : Nat} (hdd : dy + 1 = dd) (hdB : 3 < dd) (ih0 : ∀ (a r : Int32) (M M1 : sk_M), self 0 a M = some (r, M1) → sk_MI g l yX7_either cX7_either 2 (some .boolean) dy [.ref (sk_ad g 88), .int a] M r M1) (ih1 : ∀ (a r : Int32) (M M1 : sk_M), self 1 a M = some (r, M1) → sk_MI g l yX7_both cX7_both 2 (some .boolean) dy [.ref (sk_ad g 88), .int a] M r M1) (ih2 : ∀ (a r : Int32) (M M1 : sk_M), self 2 a M = some (r, M1) → sk_MI g l yX7_test cX7_test 3 (some .boolean) dy [.ref (sk_ad g 88), .int a] M r M1) (ih3 : ∀ (a r : Int32) (M M1 : sk_M), self 3 a M = some (r, M1) → sk_MI g l yX7_sum cX7_sum 3 (some .boolean) dy [.ref (sk_ad g 88), .int a] M r M1) (ih4 : ∀ (a r : Int32) (M M1 : sk_M), self 4 a M = some (r, M1) → sk_MI g l yX7_term cX7_term 3 (some .boolean) dy [.ref (sk_ad g 88), .int a] M r M1) (ih5 : ∀ (a r : Int32) (M M1 : sk_M), self 5 a M = some (r, M1) → sk_MI g l yX7_part0 cX7_part0 2 (some .boolean) dy [.ref (sk_ad g 88), .int a] M r M1) (M : sk_M) {rr : Int32} {MM : sk_M} (h : f_X7_both self a1 M = some (rr, MM)) : sk_MI g l yX7_both cX7_both 2 (some .boolean) dd [.ref (sk_ad g 88), .int a1] M rr MM := by
  refine sk_go [(0, .ref (sk_ad g 88)), (1, .int a1)] (by decide) (Nat.le_of_ble_eq_true rfl) rfl ?_
  intro p e s m av below meth c C ls hl hM hS
  obtain ⟨hx, hb, hml, hown, hts, hK, hE, hr, hlocks⟩ := id C
  rw [f_X7_both] at h
  refine lv_aload_n hx hb dX7_both_0 rfl (lv_at hl 0 rfl) ?_
  refine lv_iload_n hx hb dX7_both_1 rfl (lv_at hl 1 rfl) ?_
  obtain ⟨x_1, M_2, h_3, h⟩ := sk_b2E h
  refine sk_contI (sk_runV (As := [.int a1]) (rest := []) C (ih2 a1 _ _ _ h_3) yo_X7_test kw_1340 (sk_recv (ci := 7) C hM rfl rfl) (by omega) hM hS hl.1 rfl rfl (Nat.le_of_ble_eq_true rfl) dX7_both_2) hS (fun H locs hM hS => ?_)
  refine lv_if_ne hx hb dX7_both_5 rfl (fun hc => ?_) (fun hc => ?_)
  · have h := sk_neg h hc
    obtain ⟨out_14, h_13, kf_15, kg_16⟩ := sk_s1E h
    refine w_X7_both_L10 C self a1 hdd hdB ih0 ih1 ih2 ih3 ih4 ih5 sk_FU M_2 _ _ _ (lv_sub hl [0, 1] rfl) hM hS h_13 kf_15 (fun M_12 H locs ls he hl hM hS => ?_)
    have h := kg_16 M_12 (Option.some.inj he).symm
    refine lv_iconst (v := 1) hx hb dX7_both_43 (by decide) ?_
    exact sk_zret C hM hS (sk_nz (Or.inr rfl)) (sk_e2 h) dX7_both_44
  · have h := sk_pos h hc
    refine lv_iconst (v := 0) hx hb dX7_both_8 (by decide) ?_
    exact sk_zret C hM hS (sk_nz (Or.inl rfl)) (sk_e2 h) dX7_both_9
set_option maxHeartbeats 4000000 in
set_option maxRecDepth 100000 in
theorem w_X7_test (g : sk_G) (l : Launch) (self : Nat → Int32 → sk_M → Option (Int32 × sk_M)) (a1 : Int32) {dy dd : Nat} (hdd : dy + 1 = dd) (hdB : 3 < dd) (ih0 : ∀ (a r : Int32) (M M1 : sk_M), self 0 a M = some (r, M1) → sk_MI g l yX7_either cX7_either 2 (some .boolean) dy [.ref (sk_ad g 88), .int a] M r M1) (ih1 : ∀ (a r : Int32) (M M1 : sk_M), self 1 a M = some (r, M1) → sk_MI g l yX7_both cX7_both 2 (some .boolean) dy [.ref (sk_ad g 88), .int a] M r M1) (ih2 : ∀ (a r : Int32) (M M1 : sk_M), self 2 a M = some (r, M1) → sk_MI g l yX7_test cX7_test 3 (some .boolean) dy [.ref (sk_ad g 88), .int a] M r M1) (ih3 : ∀ (a r : Int32) (M M1 : sk_M), self 3 a M = some (r, M1) → sk_MI g l yX7_sum cX7_sum 3 (some .boolean) dy [.ref (sk_ad g 88), .int a] M r M1) (ih4 : ∀ (a r : Int32) (M M1 : sk_M), self 4 a M = some (r, M1) → sk_MI g l yX7_term cX7_term 3 (some .boolean) dy [.ref (sk_ad g 88), .int a] M r M1) (ih5 : ∀ (a r : Int32) (M M1 : sk_M), self 5 a M = some (r, M1) → sk_MI g l yX7_part0 cX7_part0 2 (some .boolean) dy [.ref (sk_ad g 88), .int a] M r M1) (M : sk_M) {rr : Int32} {MM : sk_M} (h : f_X7_test self a1 M = some (rr, MM)) : sk_MI g l yX7_test cX7_test 3 (some .boolean) dd [.ref (sk_ad g 88), .int a1] M rr MM := by
  refine sk_go [(0, .ref (sk_ad g 88)), (1, .int a1)] (by decide) (Nat.le_of_ble_eq_true rfl) rfl ?_
  intro p e s m av below meth c C ls hl hM hS
  obtain ⟨hx, hb, hml, hown, hts, hK, hE, hr, hlocks⟩ := id C
  rw [f_X7_test] at h
  refine lv_aload_n hx hb dX7_test_0 rfl (lv_at hl 0 rfl) ?_
  refine lv_iload_n hx hb dX7_test_1 rfl (lv_at hl 1 rfl) ?_
  obtain ⟨x_1, M_2, h_3, h⟩ := sk_b2E h
  refine sk_contI (sk_runV (As := [.int a1]) (rest := []) C (ih3 a1 _ _ _ h_3) yo_X7_sum kw_1344 (sk_recv (ci := 7) C hM rfl rfl) (by omega) hM hS hl.1 rfl rfl (Nat.le_of_ble_eq_true rfl) dX7_test_2) hS (fun H locs hM hS => ?_)
  refine lv_if_ne hx hb dX7_test_5 rfl (fun hc => ?_) (fun hc => ?_)
  · have h := sk_neg h hc
    refine lv_aload_n hx hb dX7_test_10 rfl (lv_at hl 0 rfl) ?_
    refine lv_bipush (v := 60) hx hb dX7_test_11 (by decide) ?_
    refine sk_contI (sk_runV (As := [.int 60]) (rest := []) C (c_X7_isSign g l 60 M_2 rfl) yo_X7_isSign kw_1363 (sk_recv (ci := 7) C hM rfl rfl) (by omega) hM hS hl.1 rfl rfl (Nat.le_of_ble_eq_true rfl) dX7_test_13) hS (fun H locs hM hS => ?_)
    obtain ⟨out_5, h_5, kf_5, kg_5⟩ := sk_s0E h
    have J_5 : ∀  (H : Heap) (locs : List Loc) (ls : Array Slot), some (Sum.inr ()) = some out_5 → lv_has ls 3 [(0, .ref (sk_ad g 88)), (1, .int a1)] → sk_P g M_2 H → va_S (sk_A g) s.heap H locs → W p l e (sk_rm dd) s m av below meth c H locs 0 0 (MQ below (sk_QI g rr MM) av s 0 0 (sk_A g)) (F0 m 37 ls []) := by
      intro  H locs ls he hl hM hS
      have h := kg_5  (Option.some.inj he).symm
      refine lv_aload_n hx hb dX7_test_37 rfl (lv_at hl 0 rfl) ?_
      refine sk_getI (o := 88) (ci := 7) (j := 20) C hM rfl rfl (by decide) rfl kw_955 dX7_test_38 ?_
      refine lv_topi (fun x_8 ex_8 => ?_)
      have h := sk_letU h ex_8
      refine lv_istore_n (lv' := [(2, .int x_8), (0, .ref (sk_ad g 88)), (1, .int a1)]) hx hb dX7_test_41 rfl hl (by decide) rfl (fun ls hl => ?_)
      refine lv_aload_n hx hb dX7_test_42 rfl (lv_at hl 1 rfl) ?_
      obtain ⟨M_9, h_10, h⟩ := sk_b1E h
      refine sk_contV (sk_runV (As := []) (rest := []) C (c_X7_nextToken g l  M_2 h_10) yo_X7_nextToken kw_1304 (sk_recv (ci := 7) C hM rfl rfl) (by omega) hM hS hl.1 rfl rfl (Nat.le_of_ble_eq_true rfl) dX7_test_43) hS (fun H locs hM hS => ?_)
      refine lv_aload_n hx hb dX7_test_46 rfl (lv_at hl 1 rfl) ?_
      refine lv_iload_n hx hb dX7_test_47 rfl (lv_at hl 2 rfl) ?_
      obtain ⟨x_11, M_12, h_13, h⟩ := sk_b2E h
      refine sk_contI (sk_runV (As := [.int a1]) (rest := []) C (ih3 a1 _ _ _ h_13) yo_X7_sum kw_1344 (sk_recv (ci := 7) C hM rfl rfl) (by omega) hM hS hl.1 rfl rfl (Nat.le_of_ble_eq_true rfl) dX7_test_48) hS (fun H locs hM hS => ?_)
      refine lv_if_ne hx hb dX7_test_51 rfl (fun hc => ?_) (fun hc => ?_)
      · have h := sk_neg h hc
        refine lv_aload_n hx hb dX7_test_56 rfl (lv_at hl 1 rfl) ?_
        refine lv_iconst (v := 2) hx hb dX7_test_57 (by decide) ?_
        refine lv_iload_n hx hb dX7_test_58 rfl (lv_at hl 0 rfl) ?_
        obtain ⟨M_14, h_15, h⟩ := sk_b1E h
        refine sk_contV (sk_runV (As := [.int 2, .int x_8]) (rest := []) C (c_X7_step g l 2 x_8 M_12 h_15) yo_X7_step kw_1356 (sk_recv (ci := 7) C hM rfl rfl) (by omega) hM hS hl.1 rfl rfl (Nat.le_of_ble_eq_true rfl) dX7_test_59) hS (fun H locs hM hS => ?_)
        refine lv_iconst (v := 1) hx hb dX7_test_62 (by decide) ?_
        exact sk_zret C hM hS (sk_nz (Or.inr rfl)) (sk_e2 h) dX7_test_63
      · have h := sk_pos h hc
        refine lv_iconst (v := 0) hx hb dX7_test_54 (by decide) ?_
        exact sk_zret C hM hS (sk_nz (Or.inl rfl)) (sk_e2 h) dX7_test_55
    have h := h_5
    refine lv_if_ne hx hb dX7_test_16 rfl (fun hc => ?_) (fun hc => ?_)
    · have h := sk_neg h hc
      exact J_5  _ _ _ h (lv_sub hl [0, 1] rfl) hM hS
    · have h := sk_pos h hc
      refine lv_aload_n hx hb dX7_test_19 rfl (lv_at hl 0 rfl) ?_
      refine lv_bipush (v := 61) hx hb dX7_test_20 (by decide) ?_
      refine sk_contI (sk_runV (As := [.int 61]) (rest := []) C (c_X7_isSign g l 61 M_2 rfl) yo_X7_isSign kw_1363 (sk_recv (ci := 7) C hM rfl rfl) (by omega) hM hS hl.1 rfl rfl (Nat.le_of_ble_eq_true rfl) dX7_test_22) hS (fun H locs hM hS => ?_)
      refine lv_if_ne hx hb dX7_test_25 rfl (fun hc => ?_) (fun hc => ?_)
      · have h := sk_neg h hc
        exact J_5  _ _ _ h (lv_sub hl [0, 1] rfl) hM hS
      · have h := sk_pos h hc
        refine lv_aload_n hx hb dX7_test_28 rfl (lv_at hl 0 rfl) ?_
        refine lv_bipush (v := 62) hx hb dX7_test_29 (by decide) ?_
        refine sk_contI (sk_runV (As := [.int 62]) (rest := []) C (c_X7_isSign g l 62 M_2 rfl) yo_X7_isSign kw_1363 (sk_recv (ci := 7) C hM rfl rfl) (by omega) hM hS hl.1 rfl rfl (Nat.le_of_ble_eq_true rfl) dX7_test_31) hS (fun H locs hM hS => ?_)
        refine lv_if_eq hx hb dX7_test_34 rfl (fun hc => ?_) (fun hc => ?_)
        · have h := sk_pos h hc
          refine lv_iconst (v := 1) hx hb dX7_test_62 (by decide) ?_
          have h := kf_5 _ (Option.some.inj h).symm
          exact sk_zret C hM hS (sk_nz (Or.inr rfl)) (sk_e2 h) dX7_test_63
        · have h := sk_neg h hc
          exact J_5  _ _ _ h (lv_sub hl [0, 1] rfl) hM hS
  · have h := sk_pos h hc
    refine lv_iconst (v := 0) hx hb dX7_test_8 (by decide) ?_
    exact sk_zret C hM hS (sk_nz (Or.inl rfl)) (sk_e2 h) dX7_test_9
set_option maxHeartbeats 4000000 in
set_option maxRecDepth 100000 in
theorem w_X7_sum_L10 {g : sk_G} {l : Launch} {p : Program} {e : Env} {s : State} {m : MethodId} {av : Array Value} {below : List Frame} {meth : Method} {c : Code} (C : sk_C g p s m av meth c cX7_sum 3 RX7 (some .boolean)) (self : Nat → Int32 → sk_M → Option (Int32 × sk_M)) (a1 : Int32) {dy dd : Nat} (hdd : dy + 1 = dd) (hdB : 3 < dd) (ih0 : ∀ (a r : Int32) (M M1 : sk_M), self 0 a M = some (r, M1) → sk_MI g l yX7_either cX7_either 2 (some .boolean) dy [.ref (sk_ad g 88), .int a] M r M1) (ih1 : ∀ (a r : Int32) (M M1 : sk_M), self 1 a M = some (r, M1) → sk_MI g l yX7_both cX7_both 2 (some .boolean) dy [.ref (sk_ad g 88), .int a] M r M1) (ih2 : ∀ (a r : Int32) (M M1 : sk_M), self 2 a M = some (r, M1) → sk_MI g l yX7_test cX7_test 3 (some .boolean) dy [.ref (sk_ad g 88), .int a] M r M1) (ih3 : ∀ (a r : Int32) (M M1 : sk_M), self 3 a M = some (r, M1) → sk_MI g l yX7_sum cX7_sum 3 (some .boolean) dy [.ref (sk_ad g 88), .int a] M r M1) (ih4 : ∀ (a r : Int32) (M M1 : sk_M), self 4 a M = some (r, M1) → sk_MI g l yX7_term cX7_term 3 (some .boolean) dy [.ref (sk_ad g 88), .int a] M r M1) (ih5 : ∀ (a r : Int32) (M M1 : sk_M), self 5 a M = some (r, M1) → sk_MI g l yX7_part0 cX7_part0 2 (some .boolean) dy [.ref (sk_ad g 88), .int a] M r M1) {rr : Int32} {MM : sk_M} :
    ∀ (n : Nat) (M : sk_M) (H : Heap) (locs : List Loc) (ls : Array Slot), lv_has ls 3 [(0, .ref (sk_ad g 88)), (1, .int a1)] → sk_P g M H → va_S (sk_A g) s.heap H locs → ∀ {out : (Int32 × sk_M) ⊕ (sk_M)}, f_X7_sum_L10 self a1 n M = some out → (∀ r, out = Sum.inl r → some r = some (rr, MM)) → (∀ (M1 : sk_M) (H : Heap) (locs : List Loc) (ls : Array Slot), some (Sum.inr M1) = some out → lv_has ls 3 [] → sk_P g M1 H → va_S (sk_A g) s.heap H locs → W p l e (sk_rm dd) s m av below meth c H locs 0 0 (MQ below (sk_QI g rr MM) av s 0 0 (sk_A g)) (F0 m 56 ls [])) → W p l e (sk_rm dd) s m av below meth c H locs 0 0 (MQ below (sk_QI g rr MM) av s 0 0 (sk_A g)) (F0 m 10 ls []) := by
  obtain ⟨hx, hb, hml, hown, hts, hK, hE, hr, hlocks⟩ := id C
  intro n
  induction n with
  | zero =>
    intro M H locs ls hl hM hS out h
    cases h
  | succ n ih =>
    intro M H locs ls hl hM hS out h kr kx
    rw [f_X7_sum_L10] at h
    refine lv_aload_n hx hb dX7_sum_10 rfl (lv_at hl 0 rfl) ?_
    refine lv_bipush (v := 43) hx hb dX7_sum_11 (by decide) ?_
    refine sk_contI (sk_runV (As := [.int 43]) (rest := []) C (c_X7_isSign g l 43 M rfl) yo_X7_isSign kw_1363 (sk_recv (ci := 7) C hM rfl rfl) (by omega) hM hS hl.1 rfl rfl (Nat.le_of_ble_eq_true rfl) dX7_sum_13) hS (fun H locs hM hS => ?_)
    refine lv_if_ne hx hb dX7_sum_16 rfl (fun hc => ?_) (fun hc => ?_)
    · have h := sk_neg h hc
      refine lv_aload_n hx hb dX7_sum_28 rfl (lv_at hl 0 rfl) ?_
      refine sk_getI (o := 88) (ci := 7) (j := 20) C hM rfl rfl (by decide) rfl kw_955 dX7_sum_29 ?_
      refine lv_topi (fun x_5 ex_5 => ?_)
      have h := sk_letU h ex_5
      refine lv_istore_n (lv' := [(2, .int x_5), (0, .ref (sk_ad g 88)), (1, .int a1)]) hx hb dX7_sum_32 rfl hl (by decide) rfl (fun ls hl => ?_)
      refine lv_aload_n hx hb dX7_sum_33 rfl (lv_at hl 1 rfl) ?_
      obtain ⟨M_6, h_7, h⟩ := sk_b1E h
      refine sk_contV (sk_runV (As := []) (rest := []) C (c_X7_nextToken g l  M h_7) yo_X7_nextToken kw_1304 (sk_recv (ci := 7) C hM rfl rfl) (by omega) hM hS hl.1 rfl rfl (Nat.le_of_ble_eq_true rfl) dX7_sum_34) hS (fun H locs hM hS => ?_)
      refine lv_aload_n hx hb dX7_sum_37 rfl (lv_at hl 1 rfl) ?_
      refine lv_iload_n hx hb dX7_sum_38 rfl (lv_at hl 2 rfl) ?_
      obtain ⟨x_8, M_9, h_10, h⟩ := sk_b2E h
      refine sk_contI (sk_runV (As := [.int a1]) (rest := []) C (ih4 a1 _ _ _ h_10) yo_X7_term kw_1348 (sk_recv (ci := 7) C hM rfl rfl) (by omega) hM hS hl.1 rfl rfl (Nat.le_of_ble_eq_true rfl) dX7_sum_39) hS (fun H locs hM hS => ?_)
      refine lv_if_ne hx hb dX7_sum_42 rfl (fun hc => ?_) (fun hc => ?_)
      · have h := sk_neg h hc
        refine lv_aload_n hx hb dX7_sum_47 rfl (lv_at hl 1 rfl) ?_
        refine lv_iconst (v := 2) hx hb dX7_sum_48 (by decide) ?_
        refine lv_iload_n hx hb dX7_sum_49 rfl (lv_at hl 0 rfl) ?_
        obtain ⟨M_11, h_12, h⟩ := sk_b1E h
        refine sk_contV (sk_runV (As := [.int 2, .int x_5]) (rest := []) C (c_X7_step g l 2 x_5 M_9 h_12) yo_X7_step kw_1356 (sk_recv (ci := 7) C hM rfl rfl) (by omega) hM hS hl.1 rfl rfl (Nat.le_of_ble_eq_true rfl) dX7_sum_50) hS (fun H locs hM hS => ?_)
        refine lv_goto hx hb dX7_sum_53 rfl ?_
        exact ih  M_11 _ _ _ (lv_sub hl [1, 2] rfl) hM hS h kr kx
      · have h := sk_pos h hc
        refine lv_iconst (v := 0) hx hb dX7_sum_45 (by decide) ?_
        have h := kr _ (Option.some.inj h).symm
        exact sk_zret C hM hS (sk_nz (Or.inl rfl)) (sk_e2 h) dX7_sum_46
    · have h := sk_pos h hc
      refine lv_aload_n hx hb dX7_sum_19 rfl (lv_at hl 0 rfl) ?_
      refine lv_bipush (v := 45) hx hb dX7_sum_20 (by decide) ?_
      refine sk_contI (sk_runV (As := [.int 45]) (rest := []) C (c_X7_isSign g l 45 M rfl) yo_X7_isSign kw_1363 (sk_recv (ci := 7) C hM rfl rfl) (by omega) hM hS hl.1 rfl rfl (Nat.le_of_ble_eq_true rfl) dX7_sum_22) hS (fun H locs hM hS => ?_)
      refine lv_if_eq hx hb dX7_sum_25 rfl (fun hc => ?_) (fun hc => ?_)
      · have h := sk_pos h hc
        exact kx _ _ _ _ h (lv_sub hl [] rfl) hM hS
      · have h := sk_neg h hc
        refine lv_aload_n hx hb dX7_sum_28 rfl (lv_at hl 0 rfl) ?_
        refine sk_getI (o := 88) (ci := 7) (j := 20) C hM rfl rfl (by decide) rfl kw_955 dX7_sum_29 ?_
        refine lv_topi (fun x_14 ex_14 => ?_)
        have h := sk_letU h ex_14
        refine lv_istore_n (lv' := [(2, .int x_14), (0, .ref (sk_ad g 88)), (1, .int a1)]) hx hb dX7_sum_32 rfl hl (by decide) rfl (fun ls hl => ?_)
        refine lv_aload_n hx hb dX7_sum_33 rfl (lv_at hl 1 rfl) ?_
        obtain ⟨M_15, h_16, h⟩ := sk_b1E h
        refine sk_contV (sk_runV (As := []) (rest := []) C (c_X7_nextToken g l  M h_16) yo_X7_nextToken kw_1304 (sk_recv (ci := 7) C hM rfl rfl) (by omega) hM hS hl.1 rfl rfl (Nat.le_of_ble_eq_true rfl) dX7_sum_34) hS (fun H locs hM hS => ?_)
        refine lv_aload_n hx hb dX7_sum_37 rfl (lv_at hl 1 rfl) ?_
        refine lv_iload_n hx hb dX7_sum_38 rfl (lv_at hl 2 rfl) ?_
        obtain ⟨x_17, M_18, h_19, h⟩ := sk_b2E h
        refine sk_contI (sk_runV (As := [.int a1]) (rest := []) C (ih4 a1 _ _ _ h_19) yo_X7_term kw_1348 (sk_recv (ci := 7) C hM rfl rfl) (by omega) hM hS hl.1 rfl rfl (Nat.le_of_ble_eq_true rfl) dX7_sum_39) hS (fun H locs hM hS => ?_)
        refine lv_if_ne hx hb dX7_sum_42 rfl (fun hc => ?_) (fun hc => ?_)
        · have h := sk_neg h hc
          refine lv_aload_n hx hb dX7_sum_47 rfl (lv_at hl 1 rfl) ?_
          refine lv_iconst (v := 2) hx hb dX7_sum_48 (by decide) ?_
          refine lv_iload_n hx hb dX7_sum_49 rfl (lv_at hl 0 rfl) ?_
          obtain ⟨M_20, h_21, h⟩ := sk_b1E h
          refine sk_contV (sk_runV (As := [.int 2, .int x_14]) (rest := []) C (c_X7_step g l 2 x_14 M_18 h_21) yo_X7_step kw_1356 (sk_recv (ci := 7) C hM rfl rfl) (by omega) hM hS hl.1 rfl rfl (Nat.le_of_ble_eq_true rfl) dX7_sum_50) hS (fun H locs hM hS => ?_)
          refine lv_goto hx hb dX7_sum_53 rfl ?_
          exact ih  M_20 _ _ _ (lv_sub hl [1, 2] rfl) hM hS h kr kx
        · have h := sk_pos h hc
          refine lv_iconst (v := 0) hx hb dX7_sum_45 (by decide) ?_
          have h := kr _ (Option.some.inj h).symm
          exact sk_zret C hM hS (sk_nz (Or.inl rfl)) (sk_e2 h) dX7_sum_46
set_option maxHeartbeats 4000000 in
set_option maxRecDepth 100000 in
theorem w_X7_sum (g : sk_G) (l : Launch) (self : Nat → Int32 → sk_M → Option (Int32 × sk_M)) (a1 : Int32) {dy dd : Nat} (hdd : dy + 1 = dd) (hdB : 3 < dd) (ih0 : ∀ (a r : Int32) (M M1 : sk_M), self 0 a M = some (r, M1) → sk_MI g l yX7_either cX7_either 2 (some .boolean) dy [.ref (sk_ad g 88), .int a] M r M1) (ih1 : ∀ (a r : Int32) (M M1 : sk_M), self 1 a M = some (r, M1) → sk_MI g l yX7_both cX7_both 2 (some .boolean) dy [.ref (sk_ad g 88), .int a] M r M1) (ih2 : ∀ (a r : Int32) (M M1 : sk_M), self 2 a M = some (r, M1) → sk_MI g l yX7_test cX7_test 3 (some .boolean) dy [.ref (sk_ad g 88), .int a] M r M1) (ih3 : ∀ (a r : Int32) (M M1 : sk_M), self 3 a M = some (r, M1) → sk_MI g l yX7_sum cX7_sum 3 (some .boolean) dy [.ref (sk_ad g 88), .int a] M r M1) (ih4 : ∀ (a r : Int32) (M M1 : sk_M), self 4 a M = some (r, M1) → sk_MI g l yX7_term cX7_term 3 (some .boolean) dy [.ref (sk_ad g 88), .int a] M r M1) (ih5 : ∀ (a r : Int32) (M M1 : sk_M), self 5 a M = some (r, M1) → sk_MI g l yX7_part0 cX7_part0 2 (some .boolean) dy [.ref (sk_ad g 88), .int a] M r M1) (M : sk_M) {rr : Int32} {MM : sk_M} (h : f_X7_sum self a1 M = some (rr, MM)) : sk_MI g l yX7_sum cX7_sum 3 (some .boolean) dd [.ref (sk_ad g 88), .int a1] M rr MM := by
  refine sk_go [(0, .ref (sk_ad g 88)), (1, .int a1)] (by decide) (Nat.le_of_ble_eq_true rfl) rfl ?_
  intro p e s m av below meth c C ls hl hM hS
  obtain ⟨hx, hb, hml, hown, hts, hK, hE, hr, hlocks⟩ := id C
  rw [f_X7_sum] at h
  refine lv_aload_n hx hb dX7_sum_0 rfl (lv_at hl 0 rfl) ?_
  refine lv_iload_n hx hb dX7_sum_1 rfl (lv_at hl 1 rfl) ?_
  obtain ⟨x_1, M_2, h_3, h⟩ := sk_b2E h
  refine sk_contI (sk_runV (As := [.int a1]) (rest := []) C (ih4 a1 _ _ _ h_3) yo_X7_term kw_1348 (sk_recv (ci := 7) C hM rfl rfl) (by omega) hM hS hl.1 rfl rfl (Nat.le_of_ble_eq_true rfl) dX7_sum_2) hS (fun H locs hM hS => ?_)
  refine lv_if_ne hx hb dX7_sum_5 rfl (fun hc => ?_) (fun hc => ?_)
  · have h := sk_neg h hc
    obtain ⟨out_24, h_23, kf_25, kg_26⟩ := sk_s1E h
    refine w_X7_sum_L10 C self a1 hdd hdB ih0 ih1 ih2 ih3 ih4 ih5 sk_FU M_2 _ _ _ (lv_sub hl [0, 1] rfl) hM hS h_23 kf_25 (fun M_22 H locs ls he hl hM hS => ?_)
    have h := kg_26 M_22 (Option.some.inj he).symm
    refine lv_iconst (v := 1) hx hb dX7_sum_56 (by decide) ?_
    exact sk_zret C hM hS (sk_nz (Or.inr rfl)) (sk_e2 h) dX7_sum_57
  · have h := sk_pos h hc
    refine lv_iconst (v := 0) hx hb dX7_sum_8 (by decide) ?_
    exact sk_zret C hM hS (sk_nz (Or.inl rfl)) (sk_e2 h) dX7_sum_9
set_option maxHeartbeats 4000000 in
set_option maxRecDepth 100000 in
theorem w_X7_term_L10 {g : sk_G} {l : Launch} {p : Program} {e : Env} {s : State} {m : MethodId} {av : Array Value} {below : List Frame} {meth : Method} {c : Code} (C : sk_C g p s m av meth c cX7_term 3 RX7 (some .boolean)) (self : Nat → Int32 → sk_M → Option (Int32 × sk_M)) (a1 : Int32) {dy dd : Nat} (hdd : dy + 1 = dd) (hdB : 3 < dd) (ih0 : ∀ (a r : Int32) (M M1 : sk_M), self 0 a M = some (r, M1) → sk_MI g l yX7_either cX7_either 2 (some .boolean) dy [.ref (sk_ad g 88), .int a] M r M1) (ih1 : ∀ (a r : Int32) (M M1 : sk_M), self 1 a M = some (r, M1) → sk_MI g l yX7_both cX7_both 2 (some .boolean) dy [.ref (sk_ad g 88), .int a] M r M1) (ih2 : ∀ (a r : Int32) (M M1 : sk_M), self 2 a M = some (r, M1) → sk_MI g l yX7_test cX7_test 3 (some .boolean) dy [.ref (sk_ad g 88), .int a] M r M1) (ih3 : ∀ (a r : Int32) (M M1 : sk_M), self 3 a M = some (r, M1) → sk_MI g l yX7_sum cX7_sum 3 (some .boolean) dy [.ref (sk_ad g 88), .int a] M r M1) (ih4 : ∀ (a r : Int32) (M M1 : sk_M), self 4 a M = some (r, M1) → sk_MI g l yX7_term cX7_term 3 (some .boolean) dy [.ref (sk_ad g 88), .int a] M r M1) (ih5 : ∀ (a r : Int32) (M M1 : sk_M), self 5 a M = some (r, M1) → sk_MI g l yX7_part0 cX7_part0 2 (some .boolean) dy [.ref (sk_ad g 88), .int a] M r M1) {rr : Int32} {MM : sk_M} :
    ∀ (n : Nat) (M : sk_M) (H : Heap) (locs : List Loc) (ls : Array Slot), lv_has ls 3 [(0, .ref (sk_ad g 88)), (1, .int a1)] → sk_P g M H → va_S (sk_A g) s.heap H locs → ∀ {out : (Int32 × sk_M) ⊕ (sk_M)}, f_X7_term_L10 self a1 n M = some out → (∀ r, out = Sum.inl r → some r = some (rr, MM)) → (∀ (M1 : sk_M) (H : Heap) (locs : List Loc) (ls : Array Slot), some (Sum.inr M1) = some out → lv_has ls 3 [] → sk_P g M1 H → va_S (sk_A g) s.heap H locs → W p l e (sk_rm dd) s m av below meth c H locs 0 0 (MQ below (sk_QI g rr MM) av s 0 0 (sk_A g)) (F0 m 56 ls [])) → W p l e (sk_rm dd) s m av below meth c H locs 0 0 (MQ below (sk_QI g rr MM) av s 0 0 (sk_A g)) (F0 m 10 ls []) := by
  obtain ⟨hx, hb, hml, hown, hts, hK, hE, hr, hlocks⟩ := id C
  intro n
  induction n with
  | zero =>
    intro M H locs ls hl hM hS out h
    cases h
  | succ n ih =>
    intro M H locs ls hl hM hS out h kr kx
    rw [f_X7_term_L10] at h
    refine lv_aload_n hx hb dX7_term_10 rfl (lv_at hl 0 rfl) ?_
    refine lv_bipush (v := 42) hx hb dX7_term_11 (by decide) ?_
    refine sk_contI (sk_runV (As := [.int 42]) (rest := []) C (c_X7_isSign g l 42 M rfl) yo_X7_isSign kw_1363 (sk_recv (ci := 7) C hM rfl rfl) (by omega) hM hS hl.1 rfl rfl (Nat.le_of_ble_eq_true rfl) dX7_term_13) hS (fun H locs hM hS => ?_)
    refine lv_if_ne hx hb dX7_term_16 rfl (fun hc => ?_) (fun hc => ?_)
    · have h := sk_neg h hc
      refine lv_aload_n hx hb dX7_term_28 rfl (lv_at hl 0 rfl) ?_
      refine sk_getI (o := 88) (ci := 7) (j := 20) C hM rfl rfl (by decide) rfl kw_955 dX7_term_29 ?_
      refine lv_topi (fun x_5 ex_5 => ?_)
      have h := sk_letU h ex_5
      refine lv_istore_n (lv' := [(2, .int x_5), (0, .ref (sk_ad g 88)), (1, .int a1)]) hx hb dX7_term_32 rfl hl (by decide) rfl (fun ls hl => ?_)
      refine lv_aload_n hx hb dX7_term_33 rfl (lv_at hl 1 rfl) ?_
      obtain ⟨M_6, h_7, h⟩ := sk_b1E h
      refine sk_contV (sk_runV (As := []) (rest := []) C (c_X7_nextToken g l  M h_7) yo_X7_nextToken kw_1304 (sk_recv (ci := 7) C hM rfl rfl) (by omega) hM hS hl.1 rfl rfl (Nat.le_of_ble_eq_true rfl) dX7_term_34) hS (fun H locs hM hS => ?_)
      refine lv_aload_n hx hb dX7_term_37 rfl (lv_at hl 1 rfl) ?_
      refine lv_iload_n hx hb dX7_term_38 rfl (lv_at hl 2 rfl) ?_
      obtain ⟨x_8, M_9, h_10, h⟩ := sk_b2E h
      refine sk_contI (sk_runV (As := [.int a1]) (rest := []) C (ih5 a1 _ _ _ h_10) yo_X7_part0 kw_1352 (sk_recv (ci := 7) C hM rfl rfl) (by omega) hM hS hl.1 rfl rfl (Nat.le_of_ble_eq_true rfl) dX7_term_39) hS (fun H locs hM hS => ?_)
      refine lv_if_ne hx hb dX7_term_42 rfl (fun hc => ?_) (fun hc => ?_)
      · have h := sk_neg h hc
        refine lv_aload_n hx hb dX7_term_47 rfl (lv_at hl 1 rfl) ?_
        refine lv_iconst (v := 2) hx hb dX7_term_48 (by decide) ?_
        refine lv_iload_n hx hb dX7_term_49 rfl (lv_at hl 0 rfl) ?_
        obtain ⟨M_11, h_12, h⟩ := sk_b1E h
        refine sk_contV (sk_runV (As := [.int 2, .int x_5]) (rest := []) C (c_X7_step g l 2 x_5 M_9 h_12) yo_X7_step kw_1356 (sk_recv (ci := 7) C hM rfl rfl) (by omega) hM hS hl.1 rfl rfl (Nat.le_of_ble_eq_true rfl) dX7_term_50) hS (fun H locs hM hS => ?_)
        refine lv_goto hx hb dX7_term_53 rfl ?_
        exact ih  M_11 _ _ _ (lv_sub hl [1, 2] rfl) hM hS h kr kx
      · have h := sk_pos h hc
        refine lv_iconst (v := 0) hx hb dX7_term_45 (by decide) ?_
        have h := kr _ (Option.some.inj h).symm
        exact sk_zret C hM hS (sk_nz (Or.inl rfl)) (sk_e2 h) dX7_term_46
    · have h := sk_pos h hc
      refine lv_aload_n hx hb dX7_term_19 rfl (lv_at hl 0 rfl) ?_
      refine lv_bipush (v := 47) hx hb dX7_term_20 (by decide) ?_
      refine sk_contI (sk_runV (As := [.int 47]) (rest := []) C (c_X7_isSign g l 47 M rfl) yo_X7_isSign kw_1363 (sk_recv (ci := 7) C hM rfl rfl) (by omega) hM hS hl.1 rfl rfl (Nat.le_of_ble_eq_true rfl) dX7_term_22) hS (fun H locs hM hS => ?_)
      refine lv_if_eq hx hb dX7_term_25 rfl (fun hc => ?_) (fun hc => ?_)
      · have h := sk_pos h hc
        exact kx _ _ _ _ h (lv_sub hl [] rfl) hM hS
      · have h := sk_neg h hc
        refine lv_aload_n hx hb dX7_term_28 rfl (lv_at hl 0 rfl) ?_
        refine sk_getI (o := 88) (ci := 7) (j := 20) C hM rfl rfl (by decide) rfl kw_955 dX7_term_29 ?_
        refine lv_topi (fun x_14 ex_14 => ?_)
        have h := sk_letU h ex_14
        refine lv_istore_n (lv' := [(2, .int x_14), (0, .ref (sk_ad g 88)), (1, .int a1)]) hx hb dX7_term_32 rfl hl (by decide) rfl (fun ls hl => ?_)
        refine lv_aload_n hx hb dX7_term_33 rfl (lv_at hl 1 rfl) ?_
        obtain ⟨M_15, h_16, h⟩ := sk_b1E h
        refine sk_contV (sk_runV (As := []) (rest := []) C (c_X7_nextToken g l  M h_16) yo_X7_nextToken kw_1304 (sk_recv (ci := 7) C hM rfl rfl) (by omega) hM hS hl.1 rfl rfl (Nat.le_of_ble_eq_true rfl) dX7_term_34) hS (fun H locs hM hS => ?_)
        refine lv_aload_n hx hb dX7_term_37 rfl (lv_at hl 1 rfl) ?_
        refine lv_iload_n hx hb dX7_term_38 rfl (lv_at hl 2 rfl) ?_
        obtain ⟨x_17, M_18, h_19, h⟩ := sk_b2E h
        refine sk_contI (sk_runV (As := [.int a1]) (rest := []) C (ih5 a1 _ _ _ h_19) yo_X7_part0 kw_1352 (sk_recv (ci := 7) C hM rfl rfl) (by omega) hM hS hl.1 rfl rfl (Nat.le_of_ble_eq_true rfl) dX7_term_39) hS (fun H locs hM hS => ?_)
        refine lv_if_ne hx hb dX7_term_42 rfl (fun hc => ?_) (fun hc => ?_)
        · have h := sk_neg h hc
          refine lv_aload_n hx hb dX7_term_47 rfl (lv_at hl 1 rfl) ?_
          refine lv_iconst (v := 2) hx hb dX7_term_48 (by decide) ?_
          refine lv_iload_n hx hb dX7_term_49 rfl (lv_at hl 0 rfl) ?_
          obtain ⟨M_20, h_21, h⟩ := sk_b1E h
          refine sk_contV (sk_runV (As := [.int 2, .int x_14]) (rest := []) C (c_X7_step g l 2 x_14 M_18 h_21) yo_X7_step kw_1356 (sk_recv (ci := 7) C hM rfl rfl) (by omega) hM hS hl.1 rfl rfl (Nat.le_of_ble_eq_true rfl) dX7_term_50) hS (fun H locs hM hS => ?_)
          refine lv_goto hx hb dX7_term_53 rfl ?_
          exact ih  M_20 _ _ _ (lv_sub hl [1, 2] rfl) hM hS h kr kx
        · have h := sk_pos h hc
          refine lv_iconst (v := 0) hx hb dX7_term_45 (by decide) ?_
          have h := kr _ (Option.some.inj h).symm
          exact sk_zret C hM hS (sk_nz (Or.inl rfl)) (sk_e2 h) dX7_term_46
set_option maxHeartbeats 4000000 in
set_option maxRecDepth 100000 in
theorem w_X7_term (g : sk_G) (l : Launch) (self : Nat → Int32 → sk_M → Option (Int32 × sk_M)) (a1 : Int32) {dy dd : Nat} (hdd : dy + 1 = dd) (hdB : 3 < dd) (ih0 : ∀ (a r : Int32) (M M1 : sk_M), self 0 a M = some (r, M1) → sk_MI g l yX7_either cX7_either 2 (some .boolean) dy [.ref (sk_ad g 88), .int a] M r M1) (ih1 : ∀ (a r : Int32) (M M1 : sk_M), self 1 a M = some (r, M1) → sk_MI g l yX7_both cX7_both 2 (some .boolean) dy [.ref (sk_ad g 88), .int a] M r M1) (ih2 : ∀ (a r : Int32) (M M1 : sk_M), self 2 a M = some (r, M1) → sk_MI g l yX7_test cX7_test 3 (some .boolean) dy [.ref (sk_ad g 88), .int a] M r M1) (ih3 : ∀ (a r : Int32) (M M1 : sk_M), self 3 a M = some (r, M1) → sk_MI g l yX7_sum cX7_sum 3 (some .boolean) dy [.ref (sk_ad g 88), .int a] M r M1) (ih4 : ∀ (a r : Int32) (M M1 : sk_M), self 4 a M = some (r, M1) → sk_MI g l yX7_term cX7_term 3 (some .boolean) dy [.ref (sk_ad g 88), .int a] M r M1) (ih5 : ∀ (a r : Int32) (M M1 : sk_M), self 5 a M = some (r, M1) → sk_MI g l yX7_part0 cX7_part0 2 (some .boolean) dy [.ref (sk_ad g 88), .int a] M r M1) (M : sk_M) {rr : Int32} {MM : sk_M} (h : f_X7_term self a1 M = some (rr, MM)) : sk_MI g l yX7_term cX7_term 3 (some .boolean) dd [.ref (sk_ad g 88), .int a1] M rr MM := by
  refine sk_go [(0, .ref (sk_ad g 88)), (1, .int a1)] (by decide) (Nat.le_of_ble_eq_true rfl) rfl ?_
  intro p e s m av below meth c C ls hl hM hS
  obtain ⟨hx, hb, hml, hown, hts, hK, hE, hr, hlocks⟩ := id C
  rw [f_X7_term] at h
  refine lv_aload_n hx hb dX7_term_0 rfl (lv_at hl 0 rfl) ?_
  refine lv_iload_n hx hb dX7_term_1 rfl (lv_at hl 1 rfl) ?_
  obtain ⟨x_1, M_2, h_3, h⟩ := sk_b2E h
  refine sk_contI (sk_runV (As := [.int a1]) (rest := []) C (ih5 a1 _ _ _ h_3) yo_X7_part0 kw_1352 (sk_recv (ci := 7) C hM rfl rfl) (by omega) hM hS hl.1 rfl rfl (Nat.le_of_ble_eq_true rfl) dX7_term_2) hS (fun H locs hM hS => ?_)
  refine lv_if_ne hx hb dX7_term_5 rfl (fun hc => ?_) (fun hc => ?_)
  · have h := sk_neg h hc
    obtain ⟨out_24, h_23, kf_25, kg_26⟩ := sk_s1E h
    refine w_X7_term_L10 C self a1 hdd hdB ih0 ih1 ih2 ih3 ih4 ih5 sk_FU M_2 _ _ _ (lv_sub hl [0, 1] rfl) hM hS h_23 kf_25 (fun M_22 H locs ls he hl hM hS => ?_)
    have h := kg_26 M_22 (Option.some.inj he).symm
    refine lv_iconst (v := 1) hx hb dX7_term_56 (by decide) ?_
    exact sk_zret C hM hS (sk_nz (Or.inr rfl)) (sk_e2 h) dX7_term_57
  · have h := sk_pos h hc
    refine lv_iconst (v := 0) hx hb dX7_term_8 (by decide) ?_
    exact sk_zret C hM hS (sk_nz (Or.inl rfl)) (sk_e2 h) dX7_term_9
set_option maxHeartbeats 4000000 in
set_option maxRecDepth 100000 in
theorem w_X7_part0 (g : sk_G) (l : Launch) (self : Nat → Int32 → sk_M → Option (Int32 × sk_M)) (a1 : Int32) {dy dd : Nat} (hdd : dy + 1 = dd) (hdB : 3 < dd) (ih0 : ∀ (a r : Int32) (M M1 : sk_M), self 0 a M = some (r, M1) → sk_MI g l yX7_either cX7_either 2 (some .boolean) dy [.ref (sk_ad g 88), .int a] M r M1) (ih1 : ∀ (a r : Int32) (M M1 : sk_M), self 1 a M = some (r, M1) → sk_MI g l yX7_both cX7_both 2 (some .boolean) dy [.ref (sk_ad g 88), .int a] M r M1) (ih2 : ∀ (a r : Int32) (M M1 : sk_M), self 2 a M = some (r, M1) → sk_MI g l yX7_test cX7_test 3 (some .boolean) dy [.ref (sk_ad g 88), .int a] M r M1) (ih3 : ∀ (a r : Int32) (M M1 : sk_M), self 3 a M = some (r, M1) → sk_MI g l yX7_sum cX7_sum 3 (some .boolean) dy [.ref (sk_ad g 88), .int a] M r M1) (ih4 : ∀ (a r : Int32) (M M1 : sk_M), self 4 a M = some (r, M1) → sk_MI g l yX7_term cX7_term 3 (some .boolean) dy [.ref (sk_ad g 88), .int a] M r M1) (ih5 : ∀ (a r : Int32) (M M1 : sk_M), self 5 a M = some (r, M1) → sk_MI g l yX7_part0 cX7_part0 2 (some .boolean) dy [.ref (sk_ad g 88), .int a] M r M1) (M : sk_M) {rr : Int32} {MM : sk_M} (h : f_X7_part0 self a1 M = some (rr, MM)) : sk_MI g l yX7_part0 cX7_part0 2 (some .boolean) dd [.ref (sk_ad g 88), .int a1] M rr MM := by
  refine sk_go [(0, .ref (sk_ad g 88)), (1, .int a1)] (by decide) (Nat.le_of_ble_eq_true rfl) rfl ?_
  intro p e s m av below meth c C ls hl hM hS
  obtain ⟨hx, hb, hml, hown, hts, hK, hE, hr, hlocks⟩ := id C
  rw [f_X7_part0] at h
  refine lv_aload_n hx hb dX7_part0_0 rfl (lv_at hl 0 rfl) ?_
  refine sk_getI (o := 88) (ci := 7) (j := 18) C hM rfl rfl (by decide) rfl kw_953 dX7_part0_1 ?_
  refine lv_iconst (v := 2) hx hb dX7_part0_4 (by decide) ?_
  refine lv_icmp_ne hx hb dX7_part0_5 rfl (fun hc => ?_) (fun hc => ?_)
  · have h := sk_neg h hc
    refine lv_aload_n hx hb dX7_part0_33 rfl (lv_at hl 0 rfl) ?_
    refine sk_getI (o := 88) (ci := 7) (j := 18) C hM rfl rfl (by decide) rfl kw_953 dX7_part0_34 ?_
    refine lv_iconst (v := 1) hx hb dX7_part0_37 (by decide) ?_
    refine lv_icmp_ne hx hb dX7_part0_38 rfl (fun hc => ?_) (fun hc => ?_)
    · have h := sk_neg h hc
      refine lv_aload_n hx hb dX7_part0_84 rfl (lv_at hl 0 rfl) ?_
      refine lv_bipush (v := 33) hx hb dX7_part0_85 (by decide) ?_
      refine sk_contI (sk_runV (As := [.int 33]) (rest := []) C (c_X7_isSign g l 33 M rfl) yo_X7_isSign kw_1363 (sk_recv (ci := 7) C hM rfl rfl) (by omega) hM hS hl.1 rfl rfl (Nat.le_of_ble_eq_true rfl) dX7_part0_87) hS (fun H locs hM hS => ?_)
      refine lv_if_eq hx hb dX7_part0_90 rfl (fun hc => ?_) (fun hc => ?_)
      · have h := sk_pos h hc
        refine lv_aload_n hx hb dX7_part0_145 rfl (lv_at hl 0 rfl) ?_
        refine lv_bipush (v := 40) hx hb dX7_part0_146 (by decide) ?_
        refine sk_contI (sk_runV (As := [.int 40]) (rest := []) C (c_X7_isSign g l 40 M rfl) yo_X7_isSign kw_1363 (sk_recv (ci := 7) C hM rfl rfl) (by omega) hM hS hl.1 rfl rfl (Nat.le_of_ble_eq_true rfl) dX7_part0_148) hS (fun H locs hM hS => ?_)
        refine lv_if_eq hx hb dX7_part0_151 rfl (fun hc => ?_) (fun hc => ?_)
        · have h := sk_pos h hc
          refine lv_iconst (v := 0) hx hb dX7_part0_163 (by decide) ?_
          exact sk_zret C hM hS (sk_nz (Or.inl rfl)) (sk_e2 h) dX7_part0_164
        · have h := sk_neg h hc
          refine lv_aload_n hx hb dX7_part0_154 rfl (lv_at hl 0 rfl) ?_
          refine sk_getI (o := 88) (ci := 7) (j := 21) C hM rfl rfl (by decide) rfl kw_956 dX7_part0_155 ?_
          refine lv_bipush (v := 8) hx hb dX7_part0_158 (by decide) ?_
          refine lv_icmp_ne hx hb dX7_part0_160 rfl (fun hc => ?_) (fun hc => ?_)
          · have h := sk_neg h hc
            refine lv_aload_n hx hb dX7_part0_165 rfl (lv_at hl 0 rfl) ?_
            refine lv_dup hx hb dX7_part0_166 rfl ?_
            refine sk_getI (o := 88) (ci := 7) (j := 21) C hM rfl rfl (by decide) rfl kw_956 dX7_part0_167 ?_
            refine lv_iconst (v := 1) hx hb dX7_part0_170 (by decide) ?_
            refine lv_iadd hx hb dX7_part0_171 ?_
            refine sk_putI (o := 88) (ci := 7) (j := 21) C hM hS rfl rfl (by decide) rfl rfl (tyX7_ok 21 (by decide)) kw_956 dX7_part0_172 (fun M_3 eM_3 H locs hM hS => ?_)
            have h := sk_letU h eM_3
            refine lv_aload_n hx hb dX7_part0_175 rfl (lv_at hl 0 rfl) ?_
            obtain ⟨M_4, h_5, h⟩ := sk_b1E h
            refine sk_contV (sk_runV (As := []) (rest := []) C (c_X7_nextToken g l  M_3 h_5) yo_X7_nextToken kw_1304 (sk_recv (ci := 7) C hM rfl rfl) (by omega) hM hS hl.1 rfl rfl (Nat.le_of_ble_eq_true rfl) dX7_part0_176) hS (fun H locs hM hS => ?_)
            refine lv_aload_n hx hb dX7_part0_179 rfl (lv_at hl 0 rfl) ?_
            refine lv_iload_n hx hb dX7_part0_180 rfl (lv_at hl 1 rfl) ?_
            obtain ⟨x_6, M_7, h_8, h⟩ := sk_b2E h
            refine sk_contI (sk_runV (As := [.int a1]) (rest := []) C (ih0 a1 _ _ _ h_8) yo_X7_either kw_1332 (sk_recv (ci := 7) C hM rfl rfl) (by omega) hM hS hl.1 rfl rfl (Nat.le_of_ble_eq_true rfl) dX7_part0_181) hS (fun H locs hM hS => ?_)
            refine lv_if_eq hx hb dX7_part0_184 rfl (fun hc => ?_) (fun hc => ?_)
            · have h := sk_pos h hc
              refine lv_iconst (v := 0) hx hb dX7_part0_196 (by decide) ?_
              exact sk_zret C hM hS (sk_nz (Or.inl rfl)) (sk_e2 h) dX7_part0_197
            · have h := sk_neg h hc
              refine lv_aload_n hx hb dX7_part0_187 rfl (lv_at hl 0 rfl) ?_
              refine lv_bipush (v := 41) hx hb dX7_part0_188 (by decide) ?_
              refine sk_contI (sk_runV (As := [.int 41]) (rest := []) C (c_X7_isSign g l 41 M_7 rfl) yo_X7_isSign kw_1363 (sk_recv (ci := 7) C hM rfl rfl) (by omega) hM hS hl.1 rfl rfl (Nat.le_of_ble_eq_true rfl) dX7_part0_190) hS (fun H locs hM hS => ?_)
              refine lv_if_ne hx hb dX7_part0_193 rfl (fun hc => ?_) (fun hc => ?_)
              · have h := sk_neg h hc
                refine lv_aload_n hx hb dX7_part0_198 rfl (lv_at hl 0 rfl) ?_
                refine lv_dup hx hb dX7_part0_199 rfl ?_
                refine sk_getI (o := 88) (ci := 7) (j := 21) C hM rfl rfl (by decide) rfl kw_956 dX7_part0_200 ?_
                refine lv_iconst (v := 1) hx hb dX7_part0_203 (by decide) ?_
                refine lv_isub hx hb dX7_part0_204 ?_
                refine sk_putI (o := 88) (ci := 7) (j := 21) C hM hS rfl rfl (by decide) rfl rfl (tyX7_ok 21 (by decide)) kw_956 dX7_part0_205 (fun M_10 eM_10 H locs hM hS => ?_)
                have h := sk_letU h eM_10
                refine lv_aload_n hx hb dX7_part0_208 rfl (lv_at hl 0 rfl) ?_
                obtain ⟨M_11, h_12, h⟩ := sk_b1E h
                refine sk_contV (sk_runV (As := []) (rest := []) C (c_X7_nextToken g l  M_10 h_12) yo_X7_nextToken kw_1304 (sk_recv (ci := 7) C hM rfl rfl) (by omega) hM hS hl.1 rfl rfl (Nat.le_of_ble_eq_true rfl) dX7_part0_209) hS (fun H locs hM hS => ?_)
                refine lv_iconst (v := 1) hx hb dX7_part0_212 (by decide) ?_
                exact sk_zret C hM hS (sk_nz (Or.inr rfl)) (sk_e2 h) dX7_part0_213
              · have h := sk_pos h hc
                refine lv_iconst (v := 0) hx hb dX7_part0_196 (by decide) ?_
                exact sk_zret C hM hS (sk_nz (Or.inl rfl)) (sk_e2 h) dX7_part0_197
          · have h := sk_pos h hc
            refine lv_iconst (v := 0) hx hb dX7_part0_163 (by decide) ?_
            exact sk_zret C hM hS (sk_nz (Or.inl rfl)) (sk_e2 h) dX7_part0_164
      · have h := sk_neg h hc
        refine lv_aload_n hx hb dX7_part0_93 rfl (lv_at hl 0 rfl) ?_
        refine sk_getI (o := 88) (ci := 7) (j := 22) C hM rfl rfl (by decide) rfl kw_957 dX7_part0_94 ?_
        refine lv_bipush (v := 8) hx hb dX7_part0_97 (by decide) ?_
        refine lv_icmp_ge hx hb dX7_part0_99 rfl (fun hc => ?_) (fun hc => ?_)
        · have h := sk_pos h hc
          refine lv_aload_n hx hb dX7_part0_145 rfl (lv_at hl 0 rfl) ?_
          refine lv_bipush (v := 40) hx hb dX7_part0_146 (by decide) ?_
          refine sk_contI (sk_runV (As := [.int 40]) (rest := []) C (c_X7_isSign g l 40 M rfl) yo_X7_isSign kw_1363 (sk_recv (ci := 7) C hM rfl rfl) (by omega) hM hS hl.1 rfl rfl (Nat.le_of_ble_eq_true rfl) dX7_part0_148) hS (fun H locs hM hS => ?_)
          refine lv_if_eq hx hb dX7_part0_151 rfl (fun hc => ?_) (fun hc => ?_)
          · have h := sk_pos h hc
            refine lv_iconst (v := 0) hx hb dX7_part0_163 (by decide) ?_
            exact sk_zret C hM hS (sk_nz (Or.inl rfl)) (sk_e2 h) dX7_part0_164
          · have h := sk_neg h hc
            refine lv_aload_n hx hb dX7_part0_154 rfl (lv_at hl 0 rfl) ?_
            refine sk_getI (o := 88) (ci := 7) (j := 21) C hM rfl rfl (by decide) rfl kw_956 dX7_part0_155 ?_
            refine lv_bipush (v := 8) hx hb dX7_part0_158 (by decide) ?_
            refine lv_icmp_ne hx hb dX7_part0_160 rfl (fun hc => ?_) (fun hc => ?_)
            · have h := sk_neg h hc
              refine lv_aload_n hx hb dX7_part0_165 rfl (lv_at hl 0 rfl) ?_
              refine lv_dup hx hb dX7_part0_166 rfl ?_
              refine sk_getI (o := 88) (ci := 7) (j := 21) C hM rfl rfl (by decide) rfl kw_956 dX7_part0_167 ?_
              refine lv_iconst (v := 1) hx hb dX7_part0_170 (by decide) ?_
              refine lv_iadd hx hb dX7_part0_171 ?_
              refine sk_putI (o := 88) (ci := 7) (j := 21) C hM hS rfl rfl (by decide) rfl rfl (tyX7_ok 21 (by decide)) kw_956 dX7_part0_172 (fun M_14 eM_14 H locs hM hS => ?_)
              have h := sk_letU h eM_14
              refine lv_aload_n hx hb dX7_part0_175 rfl (lv_at hl 0 rfl) ?_
              obtain ⟨M_15, h_16, h⟩ := sk_b1E h
              refine sk_contV (sk_runV (As := []) (rest := []) C (c_X7_nextToken g l  M_14 h_16) yo_X7_nextToken kw_1304 (sk_recv (ci := 7) C hM rfl rfl) (by omega) hM hS hl.1 rfl rfl (Nat.le_of_ble_eq_true rfl) dX7_part0_176) hS (fun H locs hM hS => ?_)
              refine lv_aload_n hx hb dX7_part0_179 rfl (lv_at hl 0 rfl) ?_
              refine lv_iload_n hx hb dX7_part0_180 rfl (lv_at hl 1 rfl) ?_
              obtain ⟨x_17, M_18, h_19, h⟩ := sk_b2E h
              refine sk_contI (sk_runV (As := [.int a1]) (rest := []) C (ih0 a1 _ _ _ h_19) yo_X7_either kw_1332 (sk_recv (ci := 7) C hM rfl rfl) (by omega) hM hS hl.1 rfl rfl (Nat.le_of_ble_eq_true rfl) dX7_part0_181) hS (fun H locs hM hS => ?_)
              refine lv_if_eq hx hb dX7_part0_184 rfl (fun hc => ?_) (fun hc => ?_)
              · have h := sk_pos h hc
                refine lv_iconst (v := 0) hx hb dX7_part0_196 (by decide) ?_
                exact sk_zret C hM hS (sk_nz (Or.inl rfl)) (sk_e2 h) dX7_part0_197
              · have h := sk_neg h hc
                refine lv_aload_n hx hb dX7_part0_187 rfl (lv_at hl 0 rfl) ?_
                refine lv_bipush (v := 41) hx hb dX7_part0_188 (by decide) ?_
                refine sk_contI (sk_runV (As := [.int 41]) (rest := []) C (c_X7_isSign g l 41 M_18 rfl) yo_X7_isSign kw_1363 (sk_recv (ci := 7) C hM rfl rfl) (by omega) hM hS hl.1 rfl rfl (Nat.le_of_ble_eq_true rfl) dX7_part0_190) hS (fun H locs hM hS => ?_)
                refine lv_if_ne hx hb dX7_part0_193 rfl (fun hc => ?_) (fun hc => ?_)
                · have h := sk_neg h hc
                  refine lv_aload_n hx hb dX7_part0_198 rfl (lv_at hl 0 rfl) ?_
                  refine lv_dup hx hb dX7_part0_199 rfl ?_
                  refine sk_getI (o := 88) (ci := 7) (j := 21) C hM rfl rfl (by decide) rfl kw_956 dX7_part0_200 ?_
                  refine lv_iconst (v := 1) hx hb dX7_part0_203 (by decide) ?_
                  refine lv_isub hx hb dX7_part0_204 ?_
                  refine sk_putI (o := 88) (ci := 7) (j := 21) C hM hS rfl rfl (by decide) rfl rfl (tyX7_ok 21 (by decide)) kw_956 dX7_part0_205 (fun M_21 eM_21 H locs hM hS => ?_)
                  have h := sk_letU h eM_21
                  refine lv_aload_n hx hb dX7_part0_208 rfl (lv_at hl 0 rfl) ?_
                  obtain ⟨M_22, h_23, h⟩ := sk_b1E h
                  refine sk_contV (sk_runV (As := []) (rest := []) C (c_X7_nextToken g l  M_21 h_23) yo_X7_nextToken kw_1304 (sk_recv (ci := 7) C hM rfl rfl) (by omega) hM hS hl.1 rfl rfl (Nat.le_of_ble_eq_true rfl) dX7_part0_209) hS (fun H locs hM hS => ?_)
                  refine lv_iconst (v := 1) hx hb dX7_part0_212 (by decide) ?_
                  exact sk_zret C hM hS (sk_nz (Or.inr rfl)) (sk_e2 h) dX7_part0_213
                · have h := sk_pos h hc
                  refine lv_iconst (v := 0) hx hb dX7_part0_196 (by decide) ?_
                  exact sk_zret C hM hS (sk_nz (Or.inl rfl)) (sk_e2 h) dX7_part0_197
            · have h := sk_pos h hc
              refine lv_iconst (v := 0) hx hb dX7_part0_163 (by decide) ?_
              exact sk_zret C hM hS (sk_nz (Or.inl rfl)) (sk_e2 h) dX7_part0_164
        · have h := sk_neg h hc
          refine lv_aload_n hx hb dX7_part0_102 rfl (lv_at hl 0 rfl) ?_
          refine lv_dup hx hb dX7_part0_103 rfl ?_
          refine sk_getI (o := 88) (ci := 7) (j := 22) C hM rfl rfl (by decide) rfl kw_957 dX7_part0_104 ?_
          refine lv_iconst (v := 1) hx hb dX7_part0_107 (by decide) ?_
          refine lv_iadd hx hb dX7_part0_108 ?_
          refine sk_putI (o := 88) (ci := 7) (j := 22) C hM hS rfl rfl (by decide) rfl rfl (tyX7_ok 22 (by decide)) kw_957 dX7_part0_109 (fun M_24 eM_24 H locs hM hS => ?_)
          have h := sk_letU h eM_24
          refine lv_aload_n hx hb dX7_part0_112 rfl (lv_at hl 0 rfl) ?_
          obtain ⟨M_25, h_26, h⟩ := sk_b1E h
          refine sk_contV (sk_runV (As := []) (rest := []) C (c_X7_nextToken g l  M_24 h_26) yo_X7_nextToken kw_1304 (sk_recv (ci := 7) C hM rfl rfl) (by omega) hM hS hl.1 rfl rfl (Nat.le_of_ble_eq_true rfl) dX7_part0_113) hS (fun H locs hM hS => ?_)
          refine lv_aload_n hx hb dX7_part0_116 rfl (lv_at hl 0 rfl) ?_
          refine lv_iload_n hx hb dX7_part0_117 rfl (lv_at hl 1 rfl) ?_
          obtain ⟨x_27, M_28, h_29, h⟩ := sk_b2E h
          refine sk_contI (sk_runV (As := [.int a1]) (rest := []) C (ih5 a1 _ _ _ h_29) yo_X7_part0 kw_1352 (sk_recv (ci := 7) C hM rfl rfl) (by omega) hM hS hl.1 rfl rfl (Nat.le_of_ble_eq_true rfl) dX7_part0_118) hS (fun H locs hM hS => ?_)
          refine lv_if_ne hx hb dX7_part0_121 rfl (fun hc => ?_) (fun hc => ?_)
          · have h := sk_neg h hc
            refine lv_aload_n hx hb dX7_part0_126 rfl (lv_at hl 0 rfl) ?_
            refine lv_dup hx hb dX7_part0_127 rfl ?_
            refine sk_getI (o := 88) (ci := 7) (j := 22) C hM rfl rfl (by decide) rfl kw_957 dX7_part0_128 ?_
            refine lv_iconst (v := 1) hx hb dX7_part0_131 (by decide) ?_
            refine lv_isub hx hb dX7_part0_132 ?_
            refine sk_putI (o := 88) (ci := 7) (j := 22) C hM hS rfl rfl (by decide) rfl rfl (tyX7_ok 22 (by decide)) kw_957 dX7_part0_133 (fun M_30 eM_30 H locs hM hS => ?_)
            have h := sk_letU h eM_30
            refine lv_aload_n hx hb dX7_part0_136 rfl (lv_at hl 0 rfl) ?_
            refine lv_iconst (v := 2) hx hb dX7_part0_137 (by decide) ?_
            refine lv_bipush (v := 33) hx hb dX7_part0_138 (by decide) ?_
            obtain ⟨M_31, h_32, h⟩ := sk_b1E h
            refine sk_contV (sk_runV (As := [.int 2, .int 33]) (rest := []) C (c_X7_step g l 2 33 M_30 h_32) yo_X7_step kw_1356 (sk_recv (ci := 7) C hM rfl rfl) (by omega) hM hS hl.1 rfl rfl (Nat.le_of_ble_eq_true rfl) dX7_part0_140) hS (fun H locs hM hS => ?_)
            refine lv_iconst (v := 1) hx hb dX7_part0_143 (by decide) ?_
            exact sk_zret C hM hS (sk_nz (Or.inr rfl)) (sk_e2 h) dX7_part0_144
          · have h := sk_pos h hc
            refine lv_iconst (v := 0) hx hb dX7_part0_124 (by decide) ?_
            exact sk_zret C hM hS (sk_nz (Or.inl rfl)) (sk_e2 h) dX7_part0_125
    · have h := sk_pos h hc
      refine lv_aload_n hx hb dX7_part0_41 rfl (lv_at hl 0 rfl) ?_
      refine sk_getI (o := 88) (ci := 7) (j := 20) C hM rfl rfl (by decide) rfl kw_955 dX7_part0_42 ?_
      refine lv_if_eq hx hb dX7_part0_45 rfl (fun hc => ?_) (fun hc => ?_)
      · have h := sk_pos h hc
        refine lv_aload_n hx hb dX7_part0_84 rfl (lv_at hl 0 rfl) ?_
        refine lv_bipush (v := 33) hx hb dX7_part0_85 (by decide) ?_
        refine sk_contI (sk_runV (As := [.int 33]) (rest := []) C (c_X7_isSign g l 33 M rfl) yo_X7_isSign kw_1363 (sk_recv (ci := 7) C hM rfl rfl) (by omega) hM hS hl.1 rfl rfl (Nat.le_of_ble_eq_true rfl) dX7_part0_87) hS (fun H locs hM hS => ?_)
        refine lv_if_eq hx hb dX7_part0_90 rfl (fun hc => ?_) (fun hc => ?_)
        · have h := sk_pos h hc
          refine lv_aload_n hx hb dX7_part0_145 rfl (lv_at hl 0 rfl) ?_
          refine lv_bipush (v := 40) hx hb dX7_part0_146 (by decide) ?_
          refine sk_contI (sk_runV (As := [.int 40]) (rest := []) C (c_X7_isSign g l 40 M rfl) yo_X7_isSign kw_1363 (sk_recv (ci := 7) C hM rfl rfl) (by omega) hM hS hl.1 rfl rfl (Nat.le_of_ble_eq_true rfl) dX7_part0_148) hS (fun H locs hM hS => ?_)
          refine lv_if_eq hx hb dX7_part0_151 rfl (fun hc => ?_) (fun hc => ?_)
          · have h := sk_pos h hc
            refine lv_iconst (v := 0) hx hb dX7_part0_163 (by decide) ?_
            exact sk_zret C hM hS (sk_nz (Or.inl rfl)) (sk_e2 h) dX7_part0_164
          · have h := sk_neg h hc
            refine lv_aload_n hx hb dX7_part0_154 rfl (lv_at hl 0 rfl) ?_
            refine sk_getI (o := 88) (ci := 7) (j := 21) C hM rfl rfl (by decide) rfl kw_956 dX7_part0_155 ?_
            refine lv_bipush (v := 8) hx hb dX7_part0_158 (by decide) ?_
            refine lv_icmp_ne hx hb dX7_part0_160 rfl (fun hc => ?_) (fun hc => ?_)
            · have h := sk_neg h hc
              refine lv_aload_n hx hb dX7_part0_165 rfl (lv_at hl 0 rfl) ?_
              refine lv_dup hx hb dX7_part0_166 rfl ?_
              refine sk_getI (o := 88) (ci := 7) (j := 21) C hM rfl rfl (by decide) rfl kw_956 dX7_part0_167 ?_
              refine lv_iconst (v := 1) hx hb dX7_part0_170 (by decide) ?_
              refine lv_iadd hx hb dX7_part0_171 ?_
              refine sk_putI (o := 88) (ci := 7) (j := 21) C hM hS rfl rfl (by decide) rfl rfl (tyX7_ok 21 (by decide)) kw_956 dX7_part0_172 (fun M_35 eM_35 H locs hM hS => ?_)
              have h := sk_letU h eM_35
              refine lv_aload_n hx hb dX7_part0_175 rfl (lv_at hl 0 rfl) ?_
              obtain ⟨M_36, h_37, h⟩ := sk_b1E h
              refine sk_contV (sk_runV (As := []) (rest := []) C (c_X7_nextToken g l  M_35 h_37) yo_X7_nextToken kw_1304 (sk_recv (ci := 7) C hM rfl rfl) (by omega) hM hS hl.1 rfl rfl (Nat.le_of_ble_eq_true rfl) dX7_part0_176) hS (fun H locs hM hS => ?_)
              refine lv_aload_n hx hb dX7_part0_179 rfl (lv_at hl 0 rfl) ?_
              refine lv_iload_n hx hb dX7_part0_180 rfl (lv_at hl 1 rfl) ?_
              obtain ⟨x_38, M_39, h_40, h⟩ := sk_b2E h
              refine sk_contI (sk_runV (As := [.int a1]) (rest := []) C (ih0 a1 _ _ _ h_40) yo_X7_either kw_1332 (sk_recv (ci := 7) C hM rfl rfl) (by omega) hM hS hl.1 rfl rfl (Nat.le_of_ble_eq_true rfl) dX7_part0_181) hS (fun H locs hM hS => ?_)
              refine lv_if_eq hx hb dX7_part0_184 rfl (fun hc => ?_) (fun hc => ?_)
              · have h := sk_pos h hc
                refine lv_iconst (v := 0) hx hb dX7_part0_196 (by decide) ?_
                exact sk_zret C hM hS (sk_nz (Or.inl rfl)) (sk_e2 h) dX7_part0_197
              · have h := sk_neg h hc
                refine lv_aload_n hx hb dX7_part0_187 rfl (lv_at hl 0 rfl) ?_
                refine lv_bipush (v := 41) hx hb dX7_part0_188 (by decide) ?_
                refine sk_contI (sk_runV (As := [.int 41]) (rest := []) C (c_X7_isSign g l 41 M_39 rfl) yo_X7_isSign kw_1363 (sk_recv (ci := 7) C hM rfl rfl) (by omega) hM hS hl.1 rfl rfl (Nat.le_of_ble_eq_true rfl) dX7_part0_190) hS (fun H locs hM hS => ?_)
                refine lv_if_ne hx hb dX7_part0_193 rfl (fun hc => ?_) (fun hc => ?_)
                · have h := sk_neg h hc
                  refine lv_aload_n hx hb dX7_part0_198 rfl (lv_at hl 0 rfl) ?_
                  refine lv_dup hx hb dX7_part0_199 rfl ?_
                  refine sk_getI (o := 88) (ci := 7) (j := 21) C hM rfl rfl (by decide) rfl kw_956 dX7_part0_200 ?_
                  refine lv_iconst (v := 1) hx hb dX7_part0_203 (by decide) ?_
                  refine lv_isub hx hb dX7_part0_204 ?_
                  refine sk_putI (o := 88) (ci := 7) (j := 21) C hM hS rfl rfl (by decide) rfl rfl (tyX7_ok 21 (by decide)) kw_956 dX7_part0_205 (fun M_42 eM_42 H locs hM hS => ?_)
                  have h := sk_letU h eM_42
                  refine lv_aload_n hx hb dX7_part0_208 rfl (lv_at hl 0 rfl) ?_
                  obtain ⟨M_43, h_44, h⟩ := sk_b1E h
                  refine sk_contV (sk_runV (As := []) (rest := []) C (c_X7_nextToken g l  M_42 h_44) yo_X7_nextToken kw_1304 (sk_recv (ci := 7) C hM rfl rfl) (by omega) hM hS hl.1 rfl rfl (Nat.le_of_ble_eq_true rfl) dX7_part0_209) hS (fun H locs hM hS => ?_)
                  refine lv_iconst (v := 1) hx hb dX7_part0_212 (by decide) ?_
                  exact sk_zret C hM hS (sk_nz (Or.inr rfl)) (sk_e2 h) dX7_part0_213
                · have h := sk_pos h hc
                  refine lv_iconst (v := 0) hx hb dX7_part0_196 (by decide) ?_
                  exact sk_zret C hM hS (sk_nz (Or.inl rfl)) (sk_e2 h) dX7_part0_197
            · have h := sk_pos h hc
              refine lv_iconst (v := 0) hx hb dX7_part0_163 (by decide) ?_
              exact sk_zret C hM hS (sk_nz (Or.inl rfl)) (sk_e2 h) dX7_part0_164
        · have h := sk_neg h hc
          refine lv_aload_n hx hb dX7_part0_93 rfl (lv_at hl 0 rfl) ?_
          refine sk_getI (o := 88) (ci := 7) (j := 22) C hM rfl rfl (by decide) rfl kw_957 dX7_part0_94 ?_
          refine lv_bipush (v := 8) hx hb dX7_part0_97 (by decide) ?_
          refine lv_icmp_ge hx hb dX7_part0_99 rfl (fun hc => ?_) (fun hc => ?_)
          · have h := sk_pos h hc
            refine lv_aload_n hx hb dX7_part0_145 rfl (lv_at hl 0 rfl) ?_
            refine lv_bipush (v := 40) hx hb dX7_part0_146 (by decide) ?_
            refine sk_contI (sk_runV (As := [.int 40]) (rest := []) C (c_X7_isSign g l 40 M rfl) yo_X7_isSign kw_1363 (sk_recv (ci := 7) C hM rfl rfl) (by omega) hM hS hl.1 rfl rfl (Nat.le_of_ble_eq_true rfl) dX7_part0_148) hS (fun H locs hM hS => ?_)
            refine lv_if_eq hx hb dX7_part0_151 rfl (fun hc => ?_) (fun hc => ?_)
            · have h := sk_pos h hc
              refine lv_iconst (v := 0) hx hb dX7_part0_163 (by decide) ?_
              exact sk_zret C hM hS (sk_nz (Or.inl rfl)) (sk_e2 h) dX7_part0_164
            · have h := sk_neg h hc
              refine lv_aload_n hx hb dX7_part0_154 rfl (lv_at hl 0 rfl) ?_
              refine sk_getI (o := 88) (ci := 7) (j := 21) C hM rfl rfl (by decide) rfl kw_956 dX7_part0_155 ?_
              refine lv_bipush (v := 8) hx hb dX7_part0_158 (by decide) ?_
              refine lv_icmp_ne hx hb dX7_part0_160 rfl (fun hc => ?_) (fun hc => ?_)
              · have h := sk_neg h hc
                refine lv_aload_n hx hb dX7_part0_165 rfl (lv_at hl 0 rfl) ?_
                refine lv_dup hx hb dX7_part0_166 rfl ?_
                refine sk_getI (o := 88) (ci := 7) (j := 21) C hM rfl rfl (by decide) rfl kw_956 dX7_part0_167 ?_
                refine lv_iconst (v := 1) hx hb dX7_part0_170 (by decide) ?_
                refine lv_iadd hx hb dX7_part0_171 ?_
                refine sk_putI (o := 88) (ci := 7) (j := 21) C hM hS rfl rfl (by decide) rfl rfl (tyX7_ok 21 (by decide)) kw_956 dX7_part0_172 (fun M_46 eM_46 H locs hM hS => ?_)
                have h := sk_letU h eM_46
                refine lv_aload_n hx hb dX7_part0_175 rfl (lv_at hl 0 rfl) ?_
                obtain ⟨M_47, h_48, h⟩ := sk_b1E h
                refine sk_contV (sk_runV (As := []) (rest := []) C (c_X7_nextToken g l  M_46 h_48) yo_X7_nextToken kw_1304 (sk_recv (ci := 7) C hM rfl rfl) (by omega) hM hS hl.1 rfl rfl (Nat.le_of_ble_eq_true rfl) dX7_part0_176) hS (fun H locs hM hS => ?_)
                refine lv_aload_n hx hb dX7_part0_179 rfl (lv_at hl 0 rfl) ?_
                refine lv_iload_n hx hb dX7_part0_180 rfl (lv_at hl 1 rfl) ?_
                obtain ⟨x_49, M_50, h_51, h⟩ := sk_b2E h
                refine sk_contI (sk_runV (As := [.int a1]) (rest := []) C (ih0 a1 _ _ _ h_51) yo_X7_either kw_1332 (sk_recv (ci := 7) C hM rfl rfl) (by omega) hM hS hl.1 rfl rfl (Nat.le_of_ble_eq_true rfl) dX7_part0_181) hS (fun H locs hM hS => ?_)
                refine lv_if_eq hx hb dX7_part0_184 rfl (fun hc => ?_) (fun hc => ?_)
                · have h := sk_pos h hc
                  refine lv_iconst (v := 0) hx hb dX7_part0_196 (by decide) ?_
                  exact sk_zret C hM hS (sk_nz (Or.inl rfl)) (sk_e2 h) dX7_part0_197
                · have h := sk_neg h hc
                  refine lv_aload_n hx hb dX7_part0_187 rfl (lv_at hl 0 rfl) ?_
                  refine lv_bipush (v := 41) hx hb dX7_part0_188 (by decide) ?_
                  refine sk_contI (sk_runV (As := [.int 41]) (rest := []) C (c_X7_isSign g l 41 M_50 rfl) yo_X7_isSign kw_1363 (sk_recv (ci := 7) C hM rfl rfl) (by omega) hM hS hl.1 rfl rfl (Nat.le_of_ble_eq_true rfl) dX7_part0_190) hS (fun H locs hM hS => ?_)
                  refine lv_if_ne hx hb dX7_part0_193 rfl (fun hc => ?_) (fun hc => ?_)
                  · have h := sk_neg h hc
                    refine lv_aload_n hx hb dX7_part0_198 rfl (lv_at hl 0 rfl) ?_
                    refine lv_dup hx hb dX7_part0_199 rfl ?_
                    refine sk_getI (o := 88) (ci := 7) (j := 21) C hM rfl rfl (by decide) rfl kw_956 dX7_part0_200 ?_
                    refine lv_iconst (v := 1) hx hb dX7_part0_203 (by decide) ?_
                    refine lv_isub hx hb dX7_part0_204 ?_
                    refine sk_putI (o := 88) (ci := 7) (j := 21) C hM hS rfl rfl (by decide) rfl rfl (tyX7_ok 21 (by decide)) kw_956 dX7_part0_205 (fun M_53 eM_53 H locs hM hS => ?_)
                    have h := sk_letU h eM_53
                    refine lv_aload_n hx hb dX7_part0_208 rfl (lv_at hl 0 rfl) ?_
                    obtain ⟨M_54, h_55, h⟩ := sk_b1E h
                    refine sk_contV (sk_runV (As := []) (rest := []) C (c_X7_nextToken g l  M_53 h_55) yo_X7_nextToken kw_1304 (sk_recv (ci := 7) C hM rfl rfl) (by omega) hM hS hl.1 rfl rfl (Nat.le_of_ble_eq_true rfl) dX7_part0_209) hS (fun H locs hM hS => ?_)
                    refine lv_iconst (v := 1) hx hb dX7_part0_212 (by decide) ?_
                    exact sk_zret C hM hS (sk_nz (Or.inr rfl)) (sk_e2 h) dX7_part0_213
                  · have h := sk_pos h hc
                    refine lv_iconst (v := 0) hx hb dX7_part0_196 (by decide) ?_
                    exact sk_zret C hM hS (sk_nz (Or.inl rfl)) (sk_e2 h) dX7_part0_197
              · have h := sk_pos h hc
                refine lv_iconst (v := 0) hx hb dX7_part0_163 (by decide) ?_
                exact sk_zret C hM hS (sk_nz (Or.inl rfl)) (sk_e2 h) dX7_part0_164
          · have h := sk_neg h hc
            refine lv_aload_n hx hb dX7_part0_102 rfl (lv_at hl 0 rfl) ?_
            refine lv_dup hx hb dX7_part0_103 rfl ?_
            refine sk_getI (o := 88) (ci := 7) (j := 22) C hM rfl rfl (by decide) rfl kw_957 dX7_part0_104 ?_
            refine lv_iconst (v := 1) hx hb dX7_part0_107 (by decide) ?_
            refine lv_iadd hx hb dX7_part0_108 ?_
            refine sk_putI (o := 88) (ci := 7) (j := 22) C hM hS rfl rfl (by decide) rfl rfl (tyX7_ok 22 (by decide)) kw_957 dX7_part0_109 (fun M_56 eM_56 H locs hM hS => ?_)
            have h := sk_letU h eM_56
            refine lv_aload_n hx hb dX7_part0_112 rfl (lv_at hl 0 rfl) ?_
            obtain ⟨M_57, h_58, h⟩ := sk_b1E h
            refine sk_contV (sk_runV (As := []) (rest := []) C (c_X7_nextToken g l  M_56 h_58) yo_X7_nextToken kw_1304 (sk_recv (ci := 7) C hM rfl rfl) (by omega) hM hS hl.1 rfl rfl (Nat.le_of_ble_eq_true rfl) dX7_part0_113) hS (fun H locs hM hS => ?_)
            refine lv_aload_n hx hb dX7_part0_116 rfl (lv_at hl 0 rfl) ?_
            refine lv_iload_n hx hb dX7_part0_117 rfl (lv_at hl 1 rfl) ?_
            obtain ⟨x_59, M_60, h_61, h⟩ := sk_b2E h
            refine sk_contI (sk_runV (As := [.int a1]) (rest := []) C (ih5 a1 _ _ _ h_61) yo_X7_part0 kw_1352 (sk_recv (ci := 7) C hM rfl rfl) (by omega) hM hS hl.1 rfl rfl (Nat.le_of_ble_eq_true rfl) dX7_part0_118) hS (fun H locs hM hS => ?_)
            refine lv_if_ne hx hb dX7_part0_121 rfl (fun hc => ?_) (fun hc => ?_)
            · have h := sk_neg h hc
              refine lv_aload_n hx hb dX7_part0_126 rfl (lv_at hl 0 rfl) ?_
              refine lv_dup hx hb dX7_part0_127 rfl ?_
              refine sk_getI (o := 88) (ci := 7) (j := 22) C hM rfl rfl (by decide) rfl kw_957 dX7_part0_128 ?_
              refine lv_iconst (v := 1) hx hb dX7_part0_131 (by decide) ?_
              refine lv_isub hx hb dX7_part0_132 ?_
              refine sk_putI (o := 88) (ci := 7) (j := 22) C hM hS rfl rfl (by decide) rfl rfl (tyX7_ok 22 (by decide)) kw_957 dX7_part0_133 (fun M_62 eM_62 H locs hM hS => ?_)
              have h := sk_letU h eM_62
              refine lv_aload_n hx hb dX7_part0_136 rfl (lv_at hl 0 rfl) ?_
              refine lv_iconst (v := 2) hx hb dX7_part0_137 (by decide) ?_
              refine lv_bipush (v := 33) hx hb dX7_part0_138 (by decide) ?_
              obtain ⟨M_63, h_64, h⟩ := sk_b1E h
              refine sk_contV (sk_runV (As := [.int 2, .int 33]) (rest := []) C (c_X7_step g l 2 33 M_62 h_64) yo_X7_step kw_1356 (sk_recv (ci := 7) C hM rfl rfl) (by omega) hM hS hl.1 rfl rfl (Nat.le_of_ble_eq_true rfl) dX7_part0_140) hS (fun H locs hM hS => ?_)
              refine lv_iconst (v := 1) hx hb dX7_part0_143 (by decide) ?_
              exact sk_zret C hM hS (sk_nz (Or.inr rfl)) (sk_e2 h) dX7_part0_144
            · have h := sk_pos h hc
              refine lv_iconst (v := 0) hx hb dX7_part0_124 (by decide) ?_
              exact sk_zret C hM hS (sk_nz (Or.inl rfl)) (sk_e2 h) dX7_part0_125
      · have h := sk_neg h hc
        refine lv_iload_n hx hb dX7_part0_48 rfl (lv_at hl 1 rfl) ?_
        refine lv_aload_n hx hb dX7_part0_49 rfl (lv_at hl 0 rfl) ?_
        refine sk_getI (o := 88) (ci := 7) (j := 20) C hM rfl rfl (by decide) rfl kw_955 dX7_part0_50 ?_
        refine sk_contI (sk_runS (As := [.int a1, .int (M 88 20)]) (rest := []) C (c_X7_isName g l a1 (M 88 20) M rfl) yo_X7_isName kw_1360 (by omega) hM hS hl.1 rfl rfl (Nat.le_of_ble_eq_true rfl) dX7_part0_53) hS (fun H locs hM hS => ?_)
        refine lv_if_eq hx hb dX7_part0_56 rfl (fun hc => ?_) (fun hc => ?_)
        · have h := sk_pos h hc
          refine lv_aload_n hx hb dX7_part0_84 rfl (lv_at hl 0 rfl) ?_
          refine lv_bipush (v := 33) hx hb dX7_part0_85 (by decide) ?_
          refine sk_contI (sk_runV (As := [.int 33]) (rest := []) C (c_X7_isSign g l 33 M rfl) yo_X7_isSign kw_1363 (sk_recv (ci := 7) C hM rfl rfl) (by omega) hM hS hl.1 rfl rfl (Nat.le_of_ble_eq_true rfl) dX7_part0_87) hS (fun H locs hM hS => ?_)
          refine lv_if_eq hx hb dX7_part0_90 rfl (fun hc => ?_) (fun hc => ?_)
          · have h := sk_pos h hc
            refine lv_aload_n hx hb dX7_part0_145 rfl (lv_at hl 0 rfl) ?_
            refine lv_bipush (v := 40) hx hb dX7_part0_146 (by decide) ?_
            refine sk_contI (sk_runV (As := [.int 40]) (rest := []) C (c_X7_isSign g l 40 M rfl) yo_X7_isSign kw_1363 (sk_recv (ci := 7) C hM rfl rfl) (by omega) hM hS hl.1 rfl rfl (Nat.le_of_ble_eq_true rfl) dX7_part0_148) hS (fun H locs hM hS => ?_)
            refine lv_if_eq hx hb dX7_part0_151 rfl (fun hc => ?_) (fun hc => ?_)
            · have h := sk_pos h hc
              refine lv_iconst (v := 0) hx hb dX7_part0_163 (by decide) ?_
              exact sk_zret C hM hS (sk_nz (Or.inl rfl)) (sk_e2 h) dX7_part0_164
            · have h := sk_neg h hc
              refine lv_aload_n hx hb dX7_part0_154 rfl (lv_at hl 0 rfl) ?_
              refine sk_getI (o := 88) (ci := 7) (j := 21) C hM rfl rfl (by decide) rfl kw_956 dX7_part0_155 ?_
              refine lv_bipush (v := 8) hx hb dX7_part0_158 (by decide) ?_
              refine lv_icmp_ne hx hb dX7_part0_160 rfl (fun hc => ?_) (fun hc => ?_)
              · have h := sk_neg h hc
                refine lv_aload_n hx hb dX7_part0_165 rfl (lv_at hl 0 rfl) ?_
                refine lv_dup hx hb dX7_part0_166 rfl ?_
                refine sk_getI (o := 88) (ci := 7) (j := 21) C hM rfl rfl (by decide) rfl kw_956 dX7_part0_167 ?_
                refine lv_iconst (v := 1) hx hb dX7_part0_170 (by decide) ?_
                refine lv_iadd hx hb dX7_part0_171 ?_
                refine sk_putI (o := 88) (ci := 7) (j := 21) C hM hS rfl rfl (by decide) rfl rfl (tyX7_ok 21 (by decide)) kw_956 dX7_part0_172 (fun M_68 eM_68 H locs hM hS => ?_)
                have h := sk_letU h eM_68
                refine lv_aload_n hx hb dX7_part0_175 rfl (lv_at hl 0 rfl) ?_
                obtain ⟨M_69, h_70, h⟩ := sk_b1E h
                refine sk_contV (sk_runV (As := []) (rest := []) C (c_X7_nextToken g l  M_68 h_70) yo_X7_nextToken kw_1304 (sk_recv (ci := 7) C hM rfl rfl) (by omega) hM hS hl.1 rfl rfl (Nat.le_of_ble_eq_true rfl) dX7_part0_176) hS (fun H locs hM hS => ?_)
                refine lv_aload_n hx hb dX7_part0_179 rfl (lv_at hl 0 rfl) ?_
                refine lv_iload_n hx hb dX7_part0_180 rfl (lv_at hl 1 rfl) ?_
                obtain ⟨x_71, M_72, h_73, h⟩ := sk_b2E h
                refine sk_contI (sk_runV (As := [.int a1]) (rest := []) C (ih0 a1 _ _ _ h_73) yo_X7_either kw_1332 (sk_recv (ci := 7) C hM rfl rfl) (by omega) hM hS hl.1 rfl rfl (Nat.le_of_ble_eq_true rfl) dX7_part0_181) hS (fun H locs hM hS => ?_)
                refine lv_if_eq hx hb dX7_part0_184 rfl (fun hc => ?_) (fun hc => ?_)
                · have h := sk_pos h hc
                  refine lv_iconst (v := 0) hx hb dX7_part0_196 (by decide) ?_
                  exact sk_zret C hM hS (sk_nz (Or.inl rfl)) (sk_e2 h) dX7_part0_197
                · have h := sk_neg h hc
                  refine lv_aload_n hx hb dX7_part0_187 rfl (lv_at hl 0 rfl) ?_
                  refine lv_bipush (v := 41) hx hb dX7_part0_188 (by decide) ?_
                  refine sk_contI (sk_runV (As := [.int 41]) (rest := []) C (c_X7_isSign g l 41 M_72 rfl) yo_X7_isSign kw_1363 (sk_recv (ci := 7) C hM rfl rfl) (by omega) hM hS hl.1 rfl rfl (Nat.le_of_ble_eq_true rfl) dX7_part0_190) hS (fun H locs hM hS => ?_)
                  refine lv_if_ne hx hb dX7_part0_193 rfl (fun hc => ?_) (fun hc => ?_)
                  · have h := sk_neg h hc
                    refine lv_aload_n hx hb dX7_part0_198 rfl (lv_at hl 0 rfl) ?_
                    refine lv_dup hx hb dX7_part0_199 rfl ?_
                    refine sk_getI (o := 88) (ci := 7) (j := 21) C hM rfl rfl (by decide) rfl kw_956 dX7_part0_200 ?_
                    refine lv_iconst (v := 1) hx hb dX7_part0_203 (by decide) ?_
                    refine lv_isub hx hb dX7_part0_204 ?_
                    refine sk_putI (o := 88) (ci := 7) (j := 21) C hM hS rfl rfl (by decide) rfl rfl (tyX7_ok 21 (by decide)) kw_956 dX7_part0_205 (fun M_75 eM_75 H locs hM hS => ?_)
                    have h := sk_letU h eM_75
                    refine lv_aload_n hx hb dX7_part0_208 rfl (lv_at hl 0 rfl) ?_
                    obtain ⟨M_76, h_77, h⟩ := sk_b1E h
                    refine sk_contV (sk_runV (As := []) (rest := []) C (c_X7_nextToken g l  M_75 h_77) yo_X7_nextToken kw_1304 (sk_recv (ci := 7) C hM rfl rfl) (by omega) hM hS hl.1 rfl rfl (Nat.le_of_ble_eq_true rfl) dX7_part0_209) hS (fun H locs hM hS => ?_)
                    refine lv_iconst (v := 1) hx hb dX7_part0_212 (by decide) ?_
                    exact sk_zret C hM hS (sk_nz (Or.inr rfl)) (sk_e2 h) dX7_part0_213
                  · have h := sk_pos h hc
                    refine lv_iconst (v := 0) hx hb dX7_part0_196 (by decide) ?_
                    exact sk_zret C hM hS (sk_nz (Or.inl rfl)) (sk_e2 h) dX7_part0_197
              · have h := sk_pos h hc
                refine lv_iconst (v := 0) hx hb dX7_part0_163 (by decide) ?_
                exact sk_zret C hM hS (sk_nz (Or.inl rfl)) (sk_e2 h) dX7_part0_164
          · have h := sk_neg h hc
            refine lv_aload_n hx hb dX7_part0_93 rfl (lv_at hl 0 rfl) ?_
            refine sk_getI (o := 88) (ci := 7) (j := 22) C hM rfl rfl (by decide) rfl kw_957 dX7_part0_94 ?_
            refine lv_bipush (v := 8) hx hb dX7_part0_97 (by decide) ?_
            refine lv_icmp_ge hx hb dX7_part0_99 rfl (fun hc => ?_) (fun hc => ?_)
            · have h := sk_pos h hc
              refine lv_aload_n hx hb dX7_part0_145 rfl (lv_at hl 0 rfl) ?_
              refine lv_bipush (v := 40) hx hb dX7_part0_146 (by decide) ?_
              refine sk_contI (sk_runV (As := [.int 40]) (rest := []) C (c_X7_isSign g l 40 M rfl) yo_X7_isSign kw_1363 (sk_recv (ci := 7) C hM rfl rfl) (by omega) hM hS hl.1 rfl rfl (Nat.le_of_ble_eq_true rfl) dX7_part0_148) hS (fun H locs hM hS => ?_)
              refine lv_if_eq hx hb dX7_part0_151 rfl (fun hc => ?_) (fun hc => ?_)
              · have h := sk_pos h hc
                refine lv_iconst (v := 0) hx hb dX7_part0_163 (by decide) ?_
                exact sk_zret C hM hS (sk_nz (Or.inl rfl)) (sk_e2 h) dX7_part0_164
              · have h := sk_neg h hc
                refine lv_aload_n hx hb dX7_part0_154 rfl (lv_at hl 0 rfl) ?_
                refine sk_getI (o := 88) (ci := 7) (j := 21) C hM rfl rfl (by decide) rfl kw_956 dX7_part0_155 ?_
                refine lv_bipush (v := 8) hx hb dX7_part0_158 (by decide) ?_
                refine lv_icmp_ne hx hb dX7_part0_160 rfl (fun hc => ?_) (fun hc => ?_)
                · have h := sk_neg h hc
                  refine lv_aload_n hx hb dX7_part0_165 rfl (lv_at hl 0 rfl) ?_
                  refine lv_dup hx hb dX7_part0_166 rfl ?_
                  refine sk_getI (o := 88) (ci := 7) (j := 21) C hM rfl rfl (by decide) rfl kw_956 dX7_part0_167 ?_
                  refine lv_iconst (v := 1) hx hb dX7_part0_170 (by decide) ?_
                  refine lv_iadd hx hb dX7_part0_171 ?_
                  refine sk_putI (o := 88) (ci := 7) (j := 21) C hM hS rfl rfl (by decide) rfl rfl (tyX7_ok 21 (by decide)) kw_956 dX7_part0_172 (fun M_79 eM_79 H locs hM hS => ?_)
                  have h := sk_letU h eM_79
                  refine lv_aload_n hx hb dX7_part0_175 rfl (lv_at hl 0 rfl) ?_
                  obtain ⟨M_80, h_81, h⟩ := sk_b1E h
                  refine sk_contV (sk_runV (As := []) (rest := []) C (c_X7_nextToken g l  M_79 h_81) yo_X7_nextToken kw_1304 (sk_recv (ci := 7) C hM rfl rfl) (by omega) hM hS hl.1 rfl rfl (Nat.le_of_ble_eq_true rfl) dX7_part0_176) hS (fun H locs hM hS => ?_)
                  refine lv_aload_n hx hb dX7_part0_179 rfl (lv_at hl 0 rfl) ?_
                  refine lv_iload_n hx hb dX7_part0_180 rfl (lv_at hl 1 rfl) ?_
                  obtain ⟨x_82, M_83, h_84, h⟩ := sk_b2E h
                  refine sk_contI (sk_runV (As := [.int a1]) (rest := []) C (ih0 a1 _ _ _ h_84) yo_X7_either kw_1332 (sk_recv (ci := 7) C hM rfl rfl) (by omega) hM hS hl.1 rfl rfl (Nat.le_of_ble_eq_true rfl) dX7_part0_181) hS (fun H locs hM hS => ?_)
                  refine lv_if_eq hx hb dX7_part0_184 rfl (fun hc => ?_) (fun hc => ?_)
                  · have h := sk_pos h hc
                    refine lv_iconst (v := 0) hx hb dX7_part0_196 (by decide) ?_
                    exact sk_zret C hM hS (sk_nz (Or.inl rfl)) (sk_e2 h) dX7_part0_197
                  · have h := sk_neg h hc
                    refine lv_aload_n hx hb dX7_part0_187 rfl (lv_at hl 0 rfl) ?_
                    refine lv_bipush (v := 41) hx hb dX7_part0_188 (by decide) ?_
                    refine sk_contI (sk_runV (As := [.int 41]) (rest := []) C (c_X7_isSign g l 41 M_83 rfl) yo_X7_isSign kw_1363 (sk_recv (ci := 7) C hM rfl rfl) (by omega) hM hS hl.1 rfl rfl (Nat.le_of_ble_eq_true rfl) dX7_part0_190) hS (fun H locs hM hS => ?_)
                    refine lv_if_ne hx hb dX7_part0_193 rfl (fun hc => ?_) (fun hc => ?_)
                    · have h := sk_neg h hc
                      refine lv_aload_n hx hb dX7_part0_198 rfl (lv_at hl 0 rfl) ?_
                      refine lv_dup hx hb dX7_part0_199 rfl ?_
                      refine sk_getI (o := 88) (ci := 7) (j := 21) C hM rfl rfl (by decide) rfl kw_956 dX7_part0_200 ?_
                      refine lv_iconst (v := 1) hx hb dX7_part0_203 (by decide) ?_
                      refine lv_isub hx hb dX7_part0_204 ?_
                      refine sk_putI (o := 88) (ci := 7) (j := 21) C hM hS rfl rfl (by decide) rfl rfl (tyX7_ok 21 (by decide)) kw_956 dX7_part0_205 (fun M_86 eM_86 H locs hM hS => ?_)
                      have h := sk_letU h eM_86
                      refine lv_aload_n hx hb dX7_part0_208 rfl (lv_at hl 0 rfl) ?_
                      obtain ⟨M_87, h_88, h⟩ := sk_b1E h
                      refine sk_contV (sk_runV (As := []) (rest := []) C (c_X7_nextToken g l  M_86 h_88) yo_X7_nextToken kw_1304 (sk_recv (ci := 7) C hM rfl rfl) (by omega) hM hS hl.1 rfl rfl (Nat.le_of_ble_eq_true rfl) dX7_part0_209) hS (fun H locs hM hS => ?_)
                      refine lv_iconst (v := 1) hx hb dX7_part0_212 (by decide) ?_
                      exact sk_zret C hM hS (sk_nz (Or.inr rfl)) (sk_e2 h) dX7_part0_213
                    · have h := sk_pos h hc
                      refine lv_iconst (v := 0) hx hb dX7_part0_196 (by decide) ?_
                      exact sk_zret C hM hS (sk_nz (Or.inl rfl)) (sk_e2 h) dX7_part0_197
                · have h := sk_pos h hc
                  refine lv_iconst (v := 0) hx hb dX7_part0_163 (by decide) ?_
                  exact sk_zret C hM hS (sk_nz (Or.inl rfl)) (sk_e2 h) dX7_part0_164
            · have h := sk_neg h hc
              refine lv_aload_n hx hb dX7_part0_102 rfl (lv_at hl 0 rfl) ?_
              refine lv_dup hx hb dX7_part0_103 rfl ?_
              refine sk_getI (o := 88) (ci := 7) (j := 22) C hM rfl rfl (by decide) rfl kw_957 dX7_part0_104 ?_
              refine lv_iconst (v := 1) hx hb dX7_part0_107 (by decide) ?_
              refine lv_iadd hx hb dX7_part0_108 ?_
              refine sk_putI (o := 88) (ci := 7) (j := 22) C hM hS rfl rfl (by decide) rfl rfl (tyX7_ok 22 (by decide)) kw_957 dX7_part0_109 (fun M_89 eM_89 H locs hM hS => ?_)
              have h := sk_letU h eM_89
              refine lv_aload_n hx hb dX7_part0_112 rfl (lv_at hl 0 rfl) ?_
              obtain ⟨M_90, h_91, h⟩ := sk_b1E h
              refine sk_contV (sk_runV (As := []) (rest := []) C (c_X7_nextToken g l  M_89 h_91) yo_X7_nextToken kw_1304 (sk_recv (ci := 7) C hM rfl rfl) (by omega) hM hS hl.1 rfl rfl (Nat.le_of_ble_eq_true rfl) dX7_part0_113) hS (fun H locs hM hS => ?_)
              refine lv_aload_n hx hb dX7_part0_116 rfl (lv_at hl 0 rfl) ?_
              refine lv_iload_n hx hb dX7_part0_117 rfl (lv_at hl 1 rfl) ?_
              obtain ⟨x_92, M_93, h_94, h⟩ := sk_b2E h
              refine sk_contI (sk_runV (As := [.int a1]) (rest := []) C (ih5 a1 _ _ _ h_94) yo_X7_part0 kw_1352 (sk_recv (ci := 7) C hM rfl rfl) (by omega) hM hS hl.1 rfl rfl (Nat.le_of_ble_eq_true rfl) dX7_part0_118) hS (fun H locs hM hS => ?_)
              refine lv_if_ne hx hb dX7_part0_121 rfl (fun hc => ?_) (fun hc => ?_)
              · have h := sk_neg h hc
                refine lv_aload_n hx hb dX7_part0_126 rfl (lv_at hl 0 rfl) ?_
                refine lv_dup hx hb dX7_part0_127 rfl ?_
                refine sk_getI (o := 88) (ci := 7) (j := 22) C hM rfl rfl (by decide) rfl kw_957 dX7_part0_128 ?_
                refine lv_iconst (v := 1) hx hb dX7_part0_131 (by decide) ?_
                refine lv_isub hx hb dX7_part0_132 ?_
                refine sk_putI (o := 88) (ci := 7) (j := 22) C hM hS rfl rfl (by decide) rfl rfl (tyX7_ok 22 (by decide)) kw_957 dX7_part0_133 (fun M_95 eM_95 H locs hM hS => ?_)
                have h := sk_letU h eM_95
                refine lv_aload_n hx hb dX7_part0_136 rfl (lv_at hl 0 rfl) ?_
                refine lv_iconst (v := 2) hx hb dX7_part0_137 (by decide) ?_
                refine lv_bipush (v := 33) hx hb dX7_part0_138 (by decide) ?_
                obtain ⟨M_96, h_97, h⟩ := sk_b1E h
                refine sk_contV (sk_runV (As := [.int 2, .int 33]) (rest := []) C (c_X7_step g l 2 33 M_95 h_97) yo_X7_step kw_1356 (sk_recv (ci := 7) C hM rfl rfl) (by omega) hM hS hl.1 rfl rfl (Nat.le_of_ble_eq_true rfl) dX7_part0_140) hS (fun H locs hM hS => ?_)
                refine lv_iconst (v := 1) hx hb dX7_part0_143 (by decide) ?_
                exact sk_zret C hM hS (sk_nz (Or.inr rfl)) (sk_e2 h) dX7_part0_144
              · have h := sk_pos h hc
                refine lv_iconst (v := 0) hx hb dX7_part0_124 (by decide) ?_
                exact sk_zret C hM hS (sk_nz (Or.inl rfl)) (sk_e2 h) dX7_part0_125
        · have h := sk_neg h hc
          refine lv_aload_n hx hb dX7_part0_59 rfl (lv_at hl 0 rfl) ?_
          refine lv_iconst (v := 1) hx hb dX7_part0_60 (by decide) ?_
          refine lv_aload_n hx hb dX7_part0_61 rfl (lv_at hl 0 rfl) ?_
          refine sk_getI (o := 88) (ci := 7) (j := 20) C hM rfl rfl (by decide) rfl kw_955 dX7_part0_62 ?_
          obtain ⟨M_98, h_99, h⟩ := sk_b1E h
          refine sk_contV (sk_runV (As := [.int 1, .int (M 88 20)]) (rest := []) C (c_X7_step g l 1 (M 88 20) M h_99) yo_X7_step kw_1356 (sk_recv (ci := 7) C hM rfl rfl) (by omega) hM hS hl.1 rfl rfl (Nat.le_of_ble_eq_true rfl) dX7_part0_65) hS (fun H locs hM hS => ?_)
          refine lv_aload_n hx hb dX7_part0_68 rfl (lv_at hl 0 rfl) ?_
          refine lv_dup hx hb dX7_part0_69 rfl ?_
          refine sk_getI (o := 88) (ci := 7) (j := 25) C hM rfl rfl (by decide) rfl kw_960 dX7_part0_70 ?_
          refine lv_iconst (v := 1) hx hb dX7_part0_73 (by decide) ?_
          refine lv_iadd hx hb dX7_part0_74 ?_
          refine sk_putI (o := 88) (ci := 7) (j := 25) C hM hS rfl rfl (by decide) rfl rfl (tyX7_ok 25 (by decide)) kw_960 dX7_part0_75 (fun M_100 eM_100 H locs hM hS => ?_)
          have h := sk_letU h eM_100
          refine lv_aload_n hx hb dX7_part0_78 rfl (lv_at hl 0 rfl) ?_
          obtain ⟨M_101, h_102, h⟩ := sk_b1E h
          refine sk_contV (sk_runV (As := []) (rest := []) C (c_X7_nextToken g l  M_100 h_102) yo_X7_nextToken kw_1304 (sk_recv (ci := 7) C hM rfl rfl) (by omega) hM hS hl.1 rfl rfl (Nat.le_of_ble_eq_true rfl) dX7_part0_79) hS (fun H locs hM hS => ?_)
          refine lv_iconst (v := 1) hx hb dX7_part0_82 (by decide) ?_
          exact sk_zret C hM hS (sk_nz (Or.inr rfl)) (sk_e2 h) dX7_part0_83
  · have h := sk_pos h hc
    refine lv_aload_n hx hb dX7_part0_8 rfl (lv_at hl 0 rfl) ?_
    refine lv_iconst (v := 0) hx hb dX7_part0_9 (by decide) ?_
    refine lv_aload_n hx hb dX7_part0_10 rfl (lv_at hl 0 rfl) ?_
    refine sk_getI (o := 88) (ci := 7) (j := 19) C hM rfl rfl (by decide) rfl kw_954 dX7_part0_11 ?_
    obtain ⟨M_103, h_104, h⟩ := sk_b1E h
    refine sk_contV (sk_runV (As := [.int 0, .int (M 88 19)]) (rest := []) C (c_X7_step g l 0 (M 88 19) M h_104) yo_X7_step kw_1356 (sk_recv (ci := 7) C hM rfl rfl) (by omega) hM hS hl.1 rfl rfl (Nat.le_of_ble_eq_true rfl) dX7_part0_14) hS (fun H locs hM hS => ?_)
    refine lv_aload_n hx hb dX7_part0_17 rfl (lv_at hl 0 rfl) ?_
    refine lv_dup hx hb dX7_part0_18 rfl ?_
    refine sk_getI (o := 88) (ci := 7) (j := 25) C hM rfl rfl (by decide) rfl kw_960 dX7_part0_19 ?_
    refine lv_iconst (v := 1) hx hb dX7_part0_22 (by decide) ?_
    refine lv_iadd hx hb dX7_part0_23 ?_
    refine sk_putI (o := 88) (ci := 7) (j := 25) C hM hS rfl rfl (by decide) rfl rfl (tyX7_ok 25 (by decide)) kw_960 dX7_part0_24 (fun M_105 eM_105 H locs hM hS => ?_)
    have h := sk_letU h eM_105
    refine lv_aload_n hx hb dX7_part0_27 rfl (lv_at hl 0 rfl) ?_
    obtain ⟨M_106, h_107, h⟩ := sk_b1E h
    refine sk_contV (sk_runV (As := []) (rest := []) C (c_X7_nextToken g l  M_105 h_107) yo_X7_nextToken kw_1304 (sk_recv (ci := 7) C hM rfl rfl) (by omega) hM hS hl.1 rfl rfl (Nat.le_of_ble_eq_true rfl) dX7_part0_28) hS (fun H locs hM hS => ?_)
    refine lv_iconst (v := 1) hx hb dX7_part0_31 (by decide) ?_
    exact sk_zret C hM hS (sk_nz (Or.inr rfl)) (sk_e2 h) dX7_part0_32
theorem k_G7 (g : sk_G) (l : Launch) : ∀ n : Nat, (∀ (a r : Int32) (M M1 : sk_M), f_G7 n 0 a M = some (r, M1) → sk_MI g l yX7_either cX7_either 2 (some .boolean) (3 + n) [.ref (sk_ad g 88), .int a] M r M1) ∧ (∀ (a r : Int32) (M M1 : sk_M), f_G7 n 1 a M = some (r, M1) → sk_MI g l yX7_both cX7_both 2 (some .boolean) (3 + n) [.ref (sk_ad g 88), .int a] M r M1) ∧ (∀ (a r : Int32) (M M1 : sk_M), f_G7 n 2 a M = some (r, M1) → sk_MI g l yX7_test cX7_test 3 (some .boolean) (3 + n) [.ref (sk_ad g 88), .int a] M r M1) ∧ (∀ (a r : Int32) (M M1 : sk_M), f_G7 n 3 a M = some (r, M1) → sk_MI g l yX7_sum cX7_sum 3 (some .boolean) (3 + n) [.ref (sk_ad g 88), .int a] M r M1) ∧ (∀ (a r : Int32) (M M1 : sk_M), f_G7 n 4 a M = some (r, M1) → sk_MI g l yX7_term cX7_term 3 (some .boolean) (3 + n) [.ref (sk_ad g 88), .int a] M r M1) ∧ (∀ (a r : Int32) (M M1 : sk_M), f_G7 n 5 a M = some (r, M1) → sk_MI g l yX7_part0 cX7_part0 2 (some .boolean) (3 + n) [.ref (sk_ad g 88), .int a] M r M1) := by
  intro n
  induction n with
  | zero => exact ⟨fun _ _ _ _ h => (by cases h), fun _ _ _ _ h => (by cases h), fun _ _ _ _ h => (by cases h), fun _ _ _ _ h => (by cases h), fun _ _ _ _ h => (by cases h), fun _ _ _ _ h => (by cases h)⟩
  | succ n ih =>
    obtain ⟨ih0, ih1, ih2, ih3, ih4, ih5⟩ := ih
    exact ⟨fun a r M M1 h => w_X7_either g l (f_G7 n) a (dy := 3 + n) (dd := 3 + (n + 1)) rfl (by omega) ih0 ih1 ih2 ih3 ih4 ih5 M h, fun a r M M1 h => w_X7_both g l (f_G7 n) a (dy := 3 + n) (dd := 3 + (n + 1)) rfl (by omega) ih0 ih1 ih2 ih3 ih4 ih5 M h, fun a r M M1 h => w_X7_test g l (f_G7 n) a (dy := 3 + n) (dd := 3 + (n + 1)) rfl (by omega) ih0 ih1 ih2 ih3 ih4 ih5 M h, fun a r M M1 h => w_X7_sum g l (f_G7 n) a (dy := 3 + n) (dd := 3 + (n + 1)) rfl (by omega) ih0 ih1 ih2 ih3 ih4 ih5 M h, fun a r M M1 h => w_X7_term g l (f_G7 n) a (dy := 3 + n) (dd := 3 + (n + 1)) rfl (by omega) ih0 ih1 ih2 ih3 ih4 ih5 M h, fun a r M M1 h => w_X7_part0 g l (f_G7 n) a (dy := 3 + n) (dd := 3 + (n + 1)) rfl (by omega) ih0 ih1 ih2 ih3 ih4 ih5 M h⟩
theorem c_X7_either (g : sk_G) (l : Launch) (a1 : Int32) (M : sk_M) {rr : Int32} {MM : sk_M} (h : f_G7 sk_RD 0 a1 M = some (rr, MM)) : sk_MI g l yX7_either cX7_either 2 (some .boolean) 123 [.ref (sk_ad g 88), .int a1] M rr MM := (k_G7 g l sk_RD).1 a1 rr M MM h
theorem c_X7_both (g : sk_G) (l : Launch) (a1 : Int32) (M : sk_M) {rr : Int32} {MM : sk_M} (h : f_G7 sk_RD 1 a1 M = some (rr, MM)) : sk_MI g l yX7_both cX7_both 2 (some .boolean) 123 [.ref (sk_ad g 88), .int a1] M rr MM := (k_G7 g l sk_RD).2.1 a1 rr M MM h
theorem c_X7_test (g : sk_G) (l : Launch) (a1 : Int32) (M : sk_M) {rr : Int32} {MM : sk_M} (h : f_G7 sk_RD 2 a1 M = some (rr, MM)) : sk_MI g l yX7_test cX7_test 3 (some .boolean) 123 [.ref (sk_ad g 88), .int a1] M rr MM := (k_G7 g l sk_RD).2.2.1 a1 rr M MM h
theorem c_X7_sum (g : sk_G) (l : Launch) (a1 : Int32) (M : sk_M) {rr : Int32} {MM : sk_M} (h : f_G7 sk_RD 3 a1 M = some (rr, MM)) : sk_MI g l yX7_sum cX7_sum 3 (some .boolean) 123 [.ref (sk_ad g 88), .int a1] M rr MM := (k_G7 g l sk_RD).2.2.2.1 a1 rr M MM h
theorem c_X7_term (g : sk_G) (l : Launch) (a1 : Int32) (M : sk_M) {rr : Int32} {MM : sk_M} (h : f_G7 sk_RD 4 a1 M = some (rr, MM)) : sk_MI g l yX7_term cX7_term 3 (some .boolean) 123 [.ref (sk_ad g 88), .int a1] M rr MM := (k_G7 g l sk_RD).2.2.2.2.1 a1 rr M MM h
theorem c_X7_part0 (g : sk_G) (l : Launch) (a1 : Int32) (M : sk_M) {rr : Int32} {MM : sk_M} (h : f_G7 sk_RD 5 a1 M = some (rr, MM)) : sk_MI g l yX7_part0 cX7_part0 2 (some .boolean) 123 [.ref (sk_ad g 88), .int a1] M rr MM := (k_G7 g l sk_RD).2.2.2.2.2 a1 rr M MM h
theorem dX7_parse_0 : decode cX7_parse 0 = .ok (.aload_n 0, 1) := by decide +kernel
theorem dX7_parse_1 : decode cX7_parse 1 = .ok (.iconst 0, 1) := by decide +kernel
theorem dX7_parse_2 : decode cX7_parse 2 = .ok (.putfield 204, 3) := by decide +kernel
theorem dX7_parse_5 : decode cX7_parse 5 = .ok (.aload_n 0, 1) := by decide +kernel
theorem dX7_parse_6 : decode cX7_parse 6 = .ok (.iconst 3, 1) := by decide +kernel
theorem dX7_parse_7 : decode cX7_parse 7 = .ok (.putfield 207, 3) := by decide +kernel
theorem dX7_parse_10 : decode cX7_parse 10 = .ok (.aload_n 0, 1) := by decide +kernel
theorem dX7_parse_11 : decode cX7_parse 11 = .ok (.iconst 0, 1) := by decide +kernel
theorem dX7_parse_12 : decode cX7_parse 12 = .ok (.putfield 272, 3) := by decide +kernel
theorem dX7_parse_15 : decode cX7_parse 15 = .ok (.aload_n 0, 1) := by decide +kernel
theorem dX7_parse_16 : decode cX7_parse 16 = .ok (.iconst 0, 1) := by decide +kernel
theorem dX7_parse_17 : decode cX7_parse 17 = .ok (.putfield 269, 3) := by decide +kernel
theorem dX7_parse_20 : decode cX7_parse 20 = .ok (.aload_n 0, 1) := by decide +kernel
theorem dX7_parse_21 : decode cX7_parse 21 = .ok (.iconst 0, 1) := by decide +kernel
theorem dX7_parse_22 : decode cX7_parse 22 = .ok (.putfield 236, 3) := by decide +kernel
theorem dX7_parse_25 : decode cX7_parse 25 = .ok (.aload_n 0, 1) := by decide +kernel
theorem dX7_parse_26 : decode cX7_parse 26 = .ok (.iconst 0, 1) := by decide +kernel
theorem dX7_parse_27 : decode cX7_parse 27 = .ok (.putfield 263, 3) := by decide +kernel
theorem dX7_parse_30 : decode cX7_parse 30 = .ok (.aload_n 0, 1) := by decide +kernel
theorem dX7_parse_31 : decode cX7_parse 31 = .ok (.aload_n 0, 1) := by decide +kernel
theorem dX7_parse_32 : decode cX7_parse 32 = .ok (.getfield 7, 3) := by decide +kernel
theorem dX7_parse_35 : decode cX7_parse 35 = .ok (.iconst 3, 1) := by decide +kernel
theorem dX7_parse_36 : decode cX7_parse 36 = .ok (.iaload, 1) := by decide +kernel
theorem dX7_parse_37 : decode cX7_parse 37 = .ok (.bipush 14, 2) := by decide +kernel
theorem dX7_parse_39 : decode cX7_parse 39 = .ok (.if_icmp .ge 18, 3) := by decide +kernel
theorem dX7_parse_42 : decode cX7_parse 42 = .ok (.aload_n 0, 1) := by decide +kernel
theorem dX7_parse_43 : decode cX7_parse 43 = .ok (.aload_n 0, 1) := by decide +kernel
theorem dX7_parse_44 : decode cX7_parse 44 = .ok (.getfield 7, 3) := by decide +kernel
theorem dX7_parse_47 : decode cX7_parse 47 = .ok (.iconst 3, 1) := by decide +kernel
theorem dX7_parse_48 : decode cX7_parse 48 = .ok (.iaload, 1) := by decide +kernel
theorem dX7_parse_49 : decode cX7_parse 49 = .ok (.invokevirtual 278, 3) := by decide +kernel
theorem dX7_parse_52 : decode cX7_parse 52 = .ok (.iconst 4, 1) := by decide +kernel
theorem dX7_parse_53 : decode cX7_parse 53 = .ok (.iadd, 1) := by decide +kernel
theorem dX7_parse_54 : decode cX7_parse 54 = .ok (.goto 6, 3) := by decide +kernel
theorem dX7_parse_57 : decode cX7_parse 57 = .ok (.sipush 2909, 3) := by decide +kernel
theorem dX7_parse_60 : decode cX7_parse 60 = .ok (.putfield 233, 3) := by decide +kernel
theorem dX7_parse_63 : decode cX7_parse 63 = .ok (.aload_n 0, 1) := by decide +kernel
theorem dX7_parse_64 : decode cX7_parse 64 = .ok (.invokevirtual 245, 3) := by decide +kernel
theorem dX7_parse_67 : decode cX7_parse 67 = .ok (.aload_n 0, 1) := by decide +kernel
theorem dX7_parse_68 : decode cX7_parse 68 = .ok (.invokevirtual 281, 3) := by decide +kernel
theorem dX7_parse_71 : decode cX7_parse 71 = .ok (.istore_n 1, 1) := by decide +kernel
theorem dX7_parse_72 : decode cX7_parse 72 = .ok (.iload_n 1, 1) := by decide +kernel
theorem dX7_parse_73 : decode cX7_parse 73 = .ok (.ifCond .lt 7, 3) := by decide +kernel
theorem dX7_parse_76 : decode cX7_parse 76 = .ok (.iconst 1, 1) := by decide +kernel
theorem dX7_parse_77 : decode cX7_parse 77 = .ok (.goto 4, 3) := by decide +kernel
theorem dX7_parse_80 : decode cX7_parse 80 = .ok (.iconst 0, 1) := by decide +kernel
theorem dX7_parse_81 : decode cX7_parse 81 = .ok (.istore_n 2, 1) := by decide +kernel
theorem dX7_parse_82 : decode cX7_parse 82 = .ok (.iload_n 2, 1) := by decide +kernel
theorem dX7_parse_83 : decode cX7_parse 83 = .ok (.ifCond .eq 28, 3) := by decide +kernel
theorem dX7_parse_86 : decode cX7_parse 86 = .ok (.aload_n 0, 1) := by decide +kernel
theorem dX7_parse_87 : decode cX7_parse 87 = .ok (.invokevirtual 245, 3) := by decide +kernel
theorem dX7_parse_90 : decode cX7_parse 90 = .ok (.aload_n 0, 1) := by decide +kernel
theorem dX7_parse_91 : decode cX7_parse 91 = .ok (.iload_n 1, 1) := by decide +kernel
theorem dX7_parse_92 : decode cX7_parse 92 = .ok (.invokevirtual 275, 3) := by decide +kernel
theorem dX7_parse_95 : decode cX7_parse 95 = .ok (.ifCond .eq 14, 3) := by decide +kernel
theorem dX7_parse_98 : decode cX7_parse 98 = .ok (.aload_n 0, 1) := by decide +kernel
theorem dX7_parse_99 : decode cX7_parse 99 = .ok (.getfield 207, 3) := by decide +kernel
theorem dX7_parse_102 : decode cX7_parse 102 = .ok (.ifCond .ne 7, 3) := by decide +kernel
theorem dX7_parse_105 : decode cX7_parse 105 = .ok (.iconst 1, 1) := by decide +kernel
theorem dX7_parse_106 : decode cX7_parse 106 = .ok (.goto 4, 3) := by decide +kernel
theorem dX7_parse_109 : decode cX7_parse 109 = .ok (.iconst 0, 1) := by decide +kernel
theorem dX7_parse_110 : decode cX7_parse 110 = .ok (.istore_n 2, 1) := by decide +kernel
theorem dX7_parse_111 : decode cX7_parse 111 = .ok (.aload_n 0, 1) := by decide +kernel
theorem dX7_parse_112 : decode cX7_parse 112 = .ok (.iconst 0, 1) := by decide +kernel
theorem dX7_parse_113 : decode cX7_parse 113 = .ok (.putfield 192, 3) := by decide +kernel
theorem dX7_parse_116 : decode cX7_parse 116 = .ok (.iload_n 2, 1) := by decide +kernel
theorem dX7_parse_117 : decode cX7_parse 117 = .ok (.ifCond .eq 7, 3) := by decide +kernel
theorem dX7_parse_120 : decode cX7_parse 120 = .ok (.iload_n 1, 1) := by decide +kernel
theorem dX7_parse_121 : decode cX7_parse 121 = .ok (.goto 4, 3) := by decide +kernel
theorem dX7_parse_124 : decode cX7_parse 124 = .ok (.iconst (-1), 1) := by decide +kernel
theorem dX7_parse_125 : decode cX7_parse 125 = .ok (.ireturn, 1) := by decide +kernel
set_option maxHeartbeats 4000000 in
set_option maxRecDepth 100000 in
theorem c_X7_parse (g : sk_G) (l : Launch)  (M : sk_M) {rr : Int32} {MM : sk_M} (h : f_X7_parse M = some (rr, MM)) : sk_MI g l yX7_parse cX7_parse 3 (some .int) 124 [.ref (sk_ad g 88)] M rr MM := by
  refine sk_go [(0, .ref (sk_ad g 88))] (by decide) (Nat.le_of_ble_eq_true rfl) rfl ?_
  intro p e s m av below meth c C ls hl hM hS
  obtain ⟨hx, hb, hml, hown, hts, hK, hE, hr, hlocks⟩ := id C
  rw [f_X7_parse] at h
  refine lv_aload_n hx hb dX7_parse_0 rfl (lv_at hl 0 rfl) ?_
  refine lv_iconst (v := 0) hx hb dX7_parse_1 (by decide) ?_
  refine sk_putI (o := 88) (ci := 7) (j := 17) C hM hS rfl rfl (by decide) rfl rfl (tyX7_ok 17 (by decide)) kw_952 dX7_parse_2 (fun M_1 eM_1 H locs hM hS => ?_)
  have h := sk_letU h eM_1
  refine lv_aload_n hx hb dX7_parse_5 rfl (lv_at hl 0 rfl) ?_
  refine lv_iconst (v := 3) hx hb dX7_parse_6 (by decide) ?_
  refine sk_putI (o := 88) (ci := 7) (j := 18) C hM hS rfl rfl (by decide) rfl rfl (tyX7_ok 18 (by decide)) kw_953 dX7_parse_7 (fun M_2 eM_2 H locs hM hS => ?_)
  have h := sk_letU h eM_2
  refine lv_aload_n hx hb dX7_parse_10 rfl (lv_at hl 0 rfl) ?_
  refine lv_iconst (v := 0) hx hb dX7_parse_11 (by decide) ?_
  refine sk_putI (o := 88) (ci := 7) (j := 21) C hM hS rfl rfl (by decide) rfl rfl (tyX7_ok 21 (by decide)) kw_956 dX7_parse_12 (fun M_3 eM_3 H locs hM hS => ?_)
  have h := sk_letU h eM_3
  refine lv_aload_n hx hb dX7_parse_15 rfl (lv_at hl 0 rfl) ?_
  refine lv_iconst (v := 0) hx hb dX7_parse_16 (by decide) ?_
  refine sk_putI (o := 88) (ci := 7) (j := 22) C hM hS rfl rfl (by decide) rfl rfl (tyX7_ok 22 (by decide)) kw_957 dX7_parse_17 (fun M_4 eM_4 H locs hM hS => ?_)
  have h := sk_letU h eM_4
  refine lv_aload_n hx hb dX7_parse_20 rfl (lv_at hl 0 rfl) ?_
  refine lv_iconst (v := 0) hx hb dX7_parse_21 (by decide) ?_
  refine sk_putI (o := 88) (ci := 7) (j := 23) C hM hS rfl rfl (by decide) rfl rfl (tyX7_ok 23 (by decide)) kw_958 dX7_parse_22 (fun M_5 eM_5 H locs hM hS => ?_)
  have h := sk_letU h eM_5
  refine lv_aload_n hx hb dX7_parse_25 rfl (lv_at hl 0 rfl) ?_
  refine lv_iconst (v := 0) hx hb dX7_parse_26 (by decide) ?_
  refine sk_putI (o := 88) (ci := 7) (j := 25) C hM hS rfl rfl (by decide) rfl rfl (tyX7_ok 25 (by decide)) kw_960 dX7_parse_27 (fun M_6 eM_6 H locs hM hS => ?_)
  have h := sk_letU h eM_6
  refine lv_aload_n hx hb dX7_parse_30 rfl (lv_at hl 0 rfl) ?_
  refine lv_aload_n hx hb dX7_parse_31 rfl (lv_at hl 0 rfl) ?_
  refine sk_getR (o := 88) (ci := 7) (j := 0) (t := 89) C hM rfl rfl (by decide) rfl rfl kw_935 dX7_parse_32 ?_
  refine lv_iconst (v := 3) hx hb dX7_parse_35 (by decide) ?_
  refine sk_iald (o := 89) C hM rfl (by decide) dX7_parse_36 ?_
  refine W.eq (g2 := F0 m 37 ls [.int (M_6 89 3), .ref (sk_ad g 88)]) rfl ?_
  refine lv_bipush (v := 14) hx hb dX7_parse_37 (by decide) ?_
  have J : ∀ (vv : Int32) (H : Heap) (locs : List Loc), (if 14 ≤ (M_6 89 3) then 2909 else ((f_X7_textAt (M_6 89 3)) + 4) : Int32) = vv → sk_P g M_6 H → va_S (sk_A g) s.heap H locs → W p l e (sk_rm 124) s m av below meth c H locs 0 0 (MQ below (sk_QI g rr MM) av s 0 0 (sk_A g)) (F0 m 60 ls [.int vv, .ref (sk_ad g 88)]) := by
    intro vv H locs hvv hM hS
    subst hvv
    refine sk_putI (o := 88) (ci := 7) (j := 24) C hM hS rfl rfl (by decide) rfl rfl (tyX7_ok 24 (by decide)) kw_959 dX7_parse_60 (fun M_8 eM_8 H locs hM hS => ?_)
    have h := sk_letU h eM_8
    refine lv_aload_n hx hb dX7_parse_63 rfl (lv_at hl 0 rfl) ?_
    obtain ⟨M_9, h_10, h⟩ := sk_b1E h
    refine sk_contV (sk_runV (As := []) (rest := []) C (c_X7_nextToken g l  M_8 h_10) yo_X7_nextToken kw_1304 (sk_recv (ci := 7) C hM rfl rfl) (by decide) hM hS hl.1 rfl rfl (Nat.le_of_ble_eq_true rfl) dX7_parse_64) hS (fun H locs hM hS => ?_)
    refine lv_aload_n hx hb dX7_parse_67 rfl (lv_at hl 0 rfl) ?_
    obtain ⟨x_11, h_12, h⟩ := sk_b1E h
    refine sk_contI (sk_runV (As := []) (rest := []) C (c_X7_key g l  M_9 h_12) yo_X7_key kw_1320 (sk_recv (ci := 7) C hM rfl rfl) (by decide) hM hS hl.1 rfl rfl (Nat.le_of_ble_eq_true rfl) dX7_parse_68) hS (fun H locs hM hS => ?_)
    refine lv_istore_n (lv' := [(1, .int x_11), (0, .ref (sk_ad g 88))]) hx hb dX7_parse_71 rfl hl (by decide) rfl (fun ls hl => ?_)
    refine lv_iload_n hx hb dX7_parse_72 rfl (lv_at hl 0 rfl) ?_
    have J : ∀ (vv : Int32) (H : Heap) (locs : List Loc), (if x_11 < 0 then 0 else 1 : Int32) = vv → sk_P g M_9 H → va_S (sk_A g) s.heap H locs → W p l e (sk_rm 124) s m av below meth c H locs 0 0 (MQ below (sk_QI g rr MM) av s 0 0 (sk_A g)) (F0 m 81 ls [.int vv]) := by
      intro vv H locs hvv hM hS
      subst hvv
      refine lv_topi (fun x_13 ex_13 => ?_)
      have h := sk_letU h ex_13
      refine lv_istore_n (lv' := [(2, .int x_13), (1, .int x_11), (0, .ref (sk_ad g 88))]) hx hb dX7_parse_81 rfl hl (by decide) rfl (fun ls hl => ?_)
      refine lv_iload_n hx hb dX7_parse_82 rfl (lv_at hl 0 rfl) ?_
      obtain ⟨y0_14, y1_14, h_14, kg_14⟩ := sk_b2E h
      have J_14 : ∀ (x_21 : Int32) (M_22 : sk_M) (H : Heap) (locs : List Loc) (ls : Array Slot), some (x_21, M_22) = some (y0_14, y1_14) → lv_has ls 3 [(0, .ref (sk_ad g 88)), (1, .int x_11), (2, .int x_21)] → sk_P g M_22 H → va_S (sk_A g) s.heap H locs → W p l e (sk_rm 124) s m av below meth c H locs 0 0 (MQ below (sk_QI g rr MM) av s 0 0 (sk_A g)) (F0 m 111 ls []) := by
        intro x_21 M_22 H locs ls he hl hM hS
        obtain ⟨rfl, rfl⟩ := sk_e2 he
        have h := kg_14
        refine lv_aload_n hx hb dX7_parse_111 rfl (lv_at hl 0 rfl) ?_
        refine lv_iconst (v := 0) hx hb dX7_parse_112 (by decide) ?_
        refine sk_putI (o := 88) (ci := 7) (j := 15) C hM hS rfl rfl (by decide) rfl rfl (tyX7_ok 15 (by decide)) kw_950 dX7_parse_113 (fun M_23 eM_23 H locs hM hS => ?_)
        have h := sk_letU h eM_23
        refine lv_iload_n hx hb dX7_parse_116 rfl (lv_at hl 2 rfl) ?_
        have J : ∀ (vv : Int32) (H : Heap) (locs : List Loc), (if x_21 = 0 then (-1) else x_11 : Int32) = vv → sk_P g M_23 H → va_S (sk_A g) s.heap H locs → W p l e (sk_rm 124) s m av below meth c H locs 0 0 (MQ below (sk_QI g rr MM) av s 0 0 (sk_A g)) (F0 m 125 ls [.int vv]) := by
          intro vv H locs hvv hM hS
          subst hvv
          exact sk_iret C hM hS (sk_e2 h) dX7_parse_125
        refine lv_if_eq hx hb dX7_parse_117 rfl (fun hc => ?_) (fun hc => ?_)
        · have J := fun vv H locs q => J vv H locs ((if_pos hc).trans q)
          refine lv_iconst (v := (-1)) hx hb dX7_parse_124 (by decide) ?_
          exact J _ _ _ rfl hM hS
        · have J := fun vv H locs q => J vv H locs ((if_neg hc).trans q)
          refine lv_iload_n hx hb dX7_parse_120 rfl (lv_at hl 1 rfl) ?_
          refine lv_goto hx hb dX7_parse_121 rfl ?_
          exact J _ _ _ rfl hM hS
      have h := h_14
      refine lv_if_eq hx hb dX7_parse_83 rfl (fun hc => ?_) (fun hc => ?_)
      · have h := sk_pos h hc
        exact J_14 _ _ _ _ _ h (lv_sub hl [2, 1, 0] rfl) hM hS
      · have h := sk_neg h hc
        refine lv_aload_n hx hb dX7_parse_86 rfl (lv_at hl 2 rfl) ?_
        obtain ⟨M_15, h_16, h⟩ := sk_b1E h
        refine sk_contV (sk_runV (As := []) (rest := []) C (c_X7_nextToken g l  M_9 h_16) yo_X7_nextToken kw_1304 (sk_recv (ci := 7) C hM rfl rfl) (by decide) hM hS hl.1 rfl rfl (Nat.le_of_ble_eq_true rfl) dX7_parse_87) hS (fun H locs hM hS => ?_)
        refine lv_aload_n hx hb dX7_parse_90 rfl (lv_at hl 2 rfl) ?_
        refine lv_iload_n hx hb dX7_parse_91 rfl (lv_at hl 1 rfl) ?_
        obtain ⟨x_17, M_18, h_19, h⟩ := sk_b2E h
        refine sk_contI (sk_runV (As := [.int x_11]) (rest := []) C (c_X7_either g l x_11 M_15 h_19) yo_X7_either kw_1332 (sk_recv (ci := 7) C hM rfl rfl) (by decide) hM hS hl.1 rfl rfl (Nat.le_of_ble_eq_true rfl) dX7_parse_92) hS (fun H locs hM hS => ?_)
        have J : ∀ (vv : Int32) (H : Heap) (locs : List Loc), (if x_17 = 0 then 0 else (if (M_18 88 18) = 0 then 1 else 0 : Int32) : Int32) = vv → sk_P g M_18 H → va_S (sk_A g) s.heap H locs → W p l e (sk_rm 124) s m av below meth c H locs 0 0 (MQ below (sk_QI g rr MM) av s 0 0 (sk_A g)) (F0 m 110 ls [.int vv]) := by
          intro vv H locs hvv hM hS
          subst hvv
          refine lv_topi (fun x_20 ex_20 => ?_)
          have h := sk_letU h ex_20
          refine lv_istore_n (lv' := [(2, .int x_20), (1, .int x_11), (0, .ref (sk_ad g 88))]) hx hb dX7_parse_110 rfl hl (by decide) rfl (fun ls hl => ?_)
          exact J_14 _ _ _ _ _ h (lv_sub hl [2, 1, 0] rfl) hM hS
        refine lv_if_eq hx hb dX7_parse_95 rfl (fun hc => ?_) (fun hc => ?_)
        · have J := fun vv H locs q => J vv H locs ((if_pos hc).trans q)
          refine lv_iconst (v := 0) hx hb dX7_parse_109 (by decide) ?_
          exact J _ _ _ rfl hM hS
        · have J := fun vv H locs q => J vv H locs ((if_neg hc).trans q)
          refine lv_aload_n hx hb dX7_parse_98 rfl (lv_at hl 2 rfl) ?_
          refine sk_getI (o := 88) (ci := 7) (j := 18) C hM rfl rfl (by decide) rfl kw_953 dX7_parse_99 ?_
          refine lv_if_ne hx hb dX7_parse_102 rfl (fun hc => ?_) (fun hc => ?_)
          · have J := fun vv H locs q => J vv H locs ((if_neg hc).trans q)
            refine lv_iconst (v := 0) hx hb dX7_parse_109 (by decide) ?_
            exact J _ _ _ rfl hM hS
          · have J := fun vv H locs q => J vv H locs ((if_pos hc).trans q)
            refine lv_iconst (v := 1) hx hb dX7_parse_105 (by decide) ?_
            refine lv_goto hx hb dX7_parse_106 rfl ?_
            exact J _ _ _ rfl hM hS
    refine lv_if_lt hx hb dX7_parse_73 rfl (fun hc => ?_) (fun hc => ?_)
    · have J := fun vv H locs q => J vv H locs ((if_pos hc).trans q)
      refine lv_iconst (v := 0) hx hb dX7_parse_80 (by decide) ?_
      exact J _ _ _ rfl hM hS
    · have J := fun vv H locs q => J vv H locs ((if_neg hc).trans q)
      refine lv_iconst (v := 1) hx hb dX7_parse_76 (by decide) ?_
      refine lv_goto hx hb dX7_parse_77 rfl ?_
      exact J _ _ _ rfl hM hS
  refine lv_icmp_ge hx hb dX7_parse_39 rfl (fun hc => ?_) (fun hc => ?_)
  · have J := fun vv H locs q => J vv H locs ((if_pos hc).trans q)
    refine lv_sipush (v := 2909) hx hb dX7_parse_57 (by decide) ?_
    exact J _ _ _ rfl hM hS
  · have J := fun vv H locs q => J vv H locs ((if_neg hc).trans q)
    refine lv_aload_n hx hb dX7_parse_42 rfl (lv_at hl 0 rfl) ?_
    refine lv_aload_n hx hb dX7_parse_43 rfl (lv_at hl 0 rfl) ?_
    refine sk_getR (o := 88) (ci := 7) (j := 0) (t := 89) C hM rfl rfl (by decide) rfl rfl kw_935 dX7_parse_44 ?_
    refine lv_iconst (v := 3) hx hb dX7_parse_47 (by decide) ?_
    refine sk_iald (o := 89) C hM rfl (by decide) dX7_parse_48 ?_
    refine W.eq (g2 := F0 m 49 ls [.int (M_6 89 3), .ref (sk_ad g 88), .ref (sk_ad g 88)]) rfl ?_
    refine sk_contI (sk_runV (As := [.int (M_6 89 3)]) (rest := [.ref (sk_ad g 88)]) C (c_X7_textAt g l (M_6 89 3) M_6 rfl) yo_X7_textAt kw_1157 (sk_recv (ci := 7) C hM rfl rfl) (by decide) hM hS hl.1 rfl rfl (Nat.le_of_ble_eq_true rfl) dX7_parse_49) hS (fun H locs hM hS => ?_)
    refine lv_iconst (v := 4) hx hb dX7_parse_52 (by decide) ?_
    refine lv_iadd hx hb dX7_parse_53 ?_
    refine lv_goto hx hb dX7_parse_54 rfl ?_
    exact J _ _ _ rfl hM hS
theorem dX7_text_0 : decode cX7_text 0 = .ok (.aload_n 0, 1) := by decide +kernel
theorem dX7_text_1 : decode cX7_text 1 = .ok (.invokevirtual 284, 3) := by decide +kernel
theorem dX7_text_4 : decode cX7_text 4 = .ok (.istore_n 1, 1) := by decide +kernel
theorem dX7_text_5 : decode cX7_text 5 = .ok (.iload_n 1, 1) := by decide +kernel
theorem dX7_text_6 : decode cX7_text 6 = .ok (.ifCond .ge 11, 3) := by decide +kernel
theorem dX7_text_9 : decode cX7_text 9 = .ok (.bipush (-100), 2) := by decide +kernel
theorem dX7_text_11 : decode cX7_text 11 = .ok (.aload_n 0, 1) := by decide +kernel
theorem dX7_text_12 : decode cX7_text 12 = .ok (.getfield 210, 3) := by decide +kernel
theorem dX7_text_15 : decode cX7_text 15 = .ok (.isub, 1) := by decide +kernel
theorem dX7_text_16 : decode cX7_text 16 = .ok (.ireturn, 1) := by decide +kernel
theorem dX7_text_17 : decode cX7_text 17 = .ok (.aload_n 0, 1) := by decide +kernel
theorem dX7_text_18 : decode cX7_text 18 = .ok (.getfield 7, 3) := by decide +kernel
theorem dX7_text_21 : decode cX7_text 21 = .ok (.iconst 3, 1) := by decide +kernel
theorem dX7_text_22 : decode cX7_text 22 = .ok (.iaload, 1) := by decide +kernel
theorem dX7_text_23 : decode cX7_text 23 = .ok (.bipush 14, 2) := by decide +kernel
theorem dX7_text_25 : decode cX7_text 25 = .ok (.if_icmp .ne 6, 3) := by decide +kernel
theorem dX7_text_28 : decode cX7_text 28 = .ok (.ldc 81, 2) := by decide +kernel
theorem dX7_text_30 : decode cX7_text 30 = .ok (.ireturn, 1) := by decide +kernel
theorem dX7_text_31 : decode cX7_text 31 = .ok (.aload_n 0, 1) := by decide +kernel
theorem dX7_text_32 : decode cX7_text 32 = .ok (.aload_n 0, 1) := by decide +kernel
theorem dX7_text_33 : decode cX7_text 33 = .ok (.getfield 7, 3) := by decide +kernel
theorem dX7_text_36 : decode cX7_text 36 = .ok (.iconst 3, 1) := by decide +kernel
theorem dX7_text_37 : decode cX7_text 37 = .ok (.iaload, 1) := by decide +kernel
theorem dX7_text_38 : decode cX7_text 38 = .ok (.invokevirtual 278, 3) := by decide +kernel
theorem dX7_text_41 : decode cX7_text 41 = .ok (.istore_n 2, 1) := by decide +kernel
theorem dX7_text_42 : decode cX7_text 42 = .ok (.aload_n 0, 1) := by decide +kernel
theorem dX7_text_43 : decode cX7_text 43 = .ok (.getfield 7, 3) := by decide +kernel
theorem dX7_text_46 : decode cX7_text 46 = .ok (.iload_n 2, 1) := by decide +kernel
theorem dX7_text_47 : decode cX7_text 47 = .ok (.iconst 0, 1) := by decide +kernel
theorem dX7_text_48 : decode cX7_text 48 = .ok (.iadd, 1) := by decide +kernel
theorem dX7_text_49 : decode cX7_text 49 = .ok (.iload_n 1, 1) := by decide +kernel
theorem dX7_text_50 : decode cX7_text 50 = .ok (.iastore, 1) := by decide +kernel
theorem dX7_text_51 : decode cX7_text 51 = .ok (.aload_n 0, 1) := by decide +kernel
theorem dX7_text_52 : decode cX7_text 52 = .ok (.getfield 7, 3) := by decide +kernel
theorem dX7_text_55 : decode cX7_text 55 = .ok (.iload_n 2, 1) := by decide +kernel
theorem dX7_text_56 : decode cX7_text 56 = .ok (.iconst 1, 1) := by decide +kernel
theorem dX7_text_57 : decode cX7_text 57 = .ok (.iadd, 1) := by decide +kernel
theorem dX7_text_58 : decode cX7_text 58 = .ok (.aload_n 0, 1) := by decide +kernel
theorem dX7_text_59 : decode cX7_text 59 = .ok (.getfield 263, 3) := by decide +kernel
theorem dX7_text_62 : decode cX7_text 62 = .ok (.iastore, 1) := by decide +kernel
theorem dX7_text_63 : decode cX7_text 63 = .ok (.aload_n 0, 1) := by decide +kernel
theorem dX7_text_64 : decode cX7_text 64 = .ok (.getfield 7, 3) := by decide +kernel
theorem dX7_text_67 : decode cX7_text 67 = .ok (.iload_n 2, 1) := by decide +kernel
theorem dX7_text_68 : decode cX7_text 68 = .ok (.iconst 2, 1) := by decide +kernel
theorem dX7_text_69 : decode cX7_text 69 = .ok (.iadd, 1) := by decide +kernel
theorem dX7_text_70 : decode cX7_text 70 = .ok (.aload_n 0, 1) := by decide +kernel
theorem dX7_text_71 : decode cX7_text 71 = .ok (.getfield 236, 3) := by decide +kernel
theorem dX7_text_74 : decode cX7_text 74 = .ok (.iastore, 1) := by decide +kernel
theorem dX7_text_75 : decode cX7_text 75 = .ok (.aload_n 0, 1) := by decide +kernel
theorem dX7_text_76 : decode cX7_text 76 = .ok (.getfield 7, 3) := by decide +kernel
theorem dX7_text_79 : decode cX7_text 79 = .ok (.iconst 3, 1) := by decide +kernel
theorem dX7_text_80 : decode cX7_text 80 = .ok (.dup2, 1) := by decide +kernel
theorem dX7_text_81 : decode cX7_text 81 = .ok (.iaload, 1) := by decide +kernel
theorem dX7_text_82 : decode cX7_text 82 = .ok (.iconst 1, 1) := by decide +kernel
theorem dX7_text_83 : decode cX7_text 83 = .ok (.iadd, 1) := by decide +kernel
theorem dX7_text_84 : decode cX7_text 84 = .ok (.iastore, 1) := by decide +kernel
theorem dX7_text_85 : decode cX7_text 85 = .ok (.aload_n 0, 1) := by decide +kernel
theorem dX7_text_86 : decode cX7_text 86 = .ok (.getfield 7, 3) := by decide +kernel
theorem dX7_text_89 : decode cX7_text 89 = .ok (.iconst 3, 1) := by decide +kernel
theorem dX7_text_90 : decode cX7_text 90 = .ok (.iaload, 1) := by decide +kernel
theorem dX7_text_91 : decode cX7_text 91 = .ok (.iconst 1, 1) := by decide +kernel
theorem dX7_text_92 : decode cX7_text 92 = .ok (.isub, 1) := by decide +kernel
theorem dX7_text_93 : decode cX7_text 93 = .ok (.ireturn, 1) := by decide +kernel
set_option maxHeartbeats 4000000 in
set_option maxRecDepth 100000 in
theorem c_X7_text (g : sk_G) (l : Launch)  (M : sk_M) {rr : Int32} {MM : sk_M} (h : f_X7_text M = some (rr, MM)) : sk_MI g l yX7_text cX7_text 3 (some .int) 125 [.ref (sk_ad g 88)] M rr MM := by
  refine sk_go [(0, .ref (sk_ad g 88))] (by decide) (Nat.le_of_ble_eq_true rfl) rfl ?_
  intro p e s m av below meth c C ls hl hM hS
  obtain ⟨hx, hb, hml, hown, hts, hK, hE, hr, hlocks⟩ := id C
  rw [f_X7_text] at h
  refine lv_aload_n hx hb dX7_text_0 rfl (lv_at hl 0 rfl) ?_
  obtain ⟨x_1, M_2, h_3, h⟩ := sk_b2E h
  refine sk_contI (sk_runV (As := []) (rest := []) C (c_X7_parse g l  M h_3) yo_X7_parse kw_1300 (sk_recv (ci := 7) C hM rfl rfl) (by decide) hM hS hl.1 rfl rfl (Nat.le_of_ble_eq_true rfl) dX7_text_1) hS (fun H locs hM hS => ?_)
  refine lv_istore_n (lv' := [(1, .int x_1), (0, .ref (sk_ad g 88))]) hx hb dX7_text_4 rfl hl (by decide) rfl (fun ls hl => ?_)
  refine lv_iload_n hx hb dX7_text_5 rfl (lv_at hl 0 rfl) ?_
  refine lv_if_ge hx hb dX7_text_6 rfl (fun hc => ?_) (fun hc => ?_)
  · have h := sk_pos h hc
    refine lv_aload_n hx hb dX7_text_17 rfl (lv_at hl 1 rfl) ?_
    refine sk_getR (o := 88) (ci := 7) (j := 0) (t := 89) C hM rfl rfl (by decide) rfl rfl kw_935 dX7_text_18 ?_
    refine lv_iconst (v := 3) hx hb dX7_text_21 (by decide) ?_
    refine sk_iald (o := 89) C hM rfl (by decide) dX7_text_22 ?_
    refine W.eq (g2 := F0 m 23 ls [.int (M_2 89 3)]) rfl ?_
    refine lv_bipush (v := 14) hx hb dX7_text_23 (by decide) ?_
    refine lv_icmp_ne hx hb dX7_text_25 rfl (fun hc => ?_) (fun hc => ?_)
    · have h := sk_neg h hc
      refine lv_aload_n hx hb dX7_text_31 rfl (lv_at hl 1 rfl) ?_
      refine lv_aload_n hx hb dX7_text_32 rfl (lv_at hl 1 rfl) ?_
      refine sk_getR (o := 88) (ci := 7) (j := 0) (t := 89) C hM rfl rfl (by decide) rfl rfl kw_935 dX7_text_33 ?_
      refine lv_iconst (v := 3) hx hb dX7_text_36 (by decide) ?_
      refine sk_iald (o := 89) C hM rfl (by decide) dX7_text_37 ?_
      refine W.eq (g2 := F0 m 38 ls [.int (M_2 89 3), .ref (sk_ad g 88)]) rfl ?_
      refine sk_contI (sk_runV (As := [.int (M_2 89 3)]) (rest := []) C (c_X7_textAt g l (M_2 89 3) M_2 rfl) yo_X7_textAt kw_1157 (sk_recv (ci := 7) C hM rfl rfl) (by decide) hM hS hl.1 rfl rfl (Nat.le_of_ble_eq_true rfl) dX7_text_38) hS (fun H locs hM hS => ?_)
      refine lv_topi (fun x_5 ex_5 => ?_)
      have h := sk_letU h ex_5
      refine lv_istore_n (lv' := [(2, .int x_5), (1, .int x_1), (0, .ref (sk_ad g 88))]) hx hb dX7_text_41 rfl hl (by decide) rfl (fun ls hl => ?_)
      refine lv_aload_n hx hb dX7_text_42 rfl (lv_at hl 2 rfl) ?_
      refine sk_getR (o := 88) (ci := 7) (j := 0) (t := 89) C hM rfl rfl (by decide) rfl rfl kw_935 dX7_text_43 ?_
      refine lv_iload_n hx hb dX7_text_46 rfl (lv_at hl 0 rfl) ?_
      refine lv_iconst (v := 0) hx hb dX7_text_47 (by decide) ?_
      refine lv_iadd hx hb dX7_text_48 ?_
      refine lv_iload_n hx hb dX7_text_49 rfl (lv_at hl 1 rfl) ?_
      obtain ⟨i_6, h⟩ := sk_chkE h
      refine sk_iast (o := 89) C hM hS rfl i_6 dX7_text_50 (fun M_7 eM_7 H locs hM hS => ?_)
      have h := sk_letU h eM_7
      refine lv_aload_n hx hb dX7_text_51 rfl (lv_at hl 2 rfl) ?_
      refine sk_getR (o := 88) (ci := 7) (j := 0) (t := 89) C hM rfl rfl (by decide) rfl rfl kw_935 dX7_text_52 ?_
      refine lv_iload_n hx hb dX7_text_55 rfl (lv_at hl 0 rfl) ?_
      refine lv_iconst (v := 1) hx hb dX7_text_56 (by decide) ?_
      refine lv_iadd hx hb dX7_text_57 ?_
      refine lv_aload_n hx hb dX7_text_58 rfl (lv_at hl 2 rfl) ?_
      refine sk_getI (o := 88) (ci := 7) (j := 25) C hM rfl rfl (by decide) rfl kw_960 dX7_text_59 ?_
      obtain ⟨i_8, h⟩ := sk_chkE h
      refine sk_iast (o := 89) C hM hS rfl i_8 dX7_text_62 (fun M_9 eM_9 H locs hM hS => ?_)
      have h := sk_letU h eM_9
      refine lv_aload_n hx hb dX7_text_63 rfl (lv_at hl 2 rfl) ?_
      refine sk_getR (o := 88) (ci := 7) (j := 0) (t := 89) C hM rfl rfl (by decide) rfl rfl kw_935 dX7_text_64 ?_
      refine lv_iload_n hx hb dX7_text_67 rfl (lv_at hl 0 rfl) ?_
      refine lv_iconst (v := 2) hx hb dX7_text_68 (by decide) ?_
      refine lv_iadd hx hb dX7_text_69 ?_
      refine lv_aload_n hx hb dX7_text_70 rfl (lv_at hl 2 rfl) ?_
      refine sk_getI (o := 88) (ci := 7) (j := 23) C hM rfl rfl (by decide) rfl kw_958 dX7_text_71 ?_
      obtain ⟨i_10, h⟩ := sk_chkE h
      refine sk_iast (o := 89) C hM hS rfl i_10 dX7_text_74 (fun M_11 eM_11 H locs hM hS => ?_)
      have h := sk_letU h eM_11
      refine lv_aload_n hx hb dX7_text_75 rfl (lv_at hl 2 rfl) ?_
      refine sk_getR (o := 88) (ci := 7) (j := 0) (t := 89) C hM rfl rfl (by decide) rfl rfl kw_935 dX7_text_76 ?_
      refine lv_iconst (v := 3) hx hb dX7_text_79 (by decide) ?_
      refine lv_dup2_11 hx hb dX7_text_80 rfl rfl ?_
      refine sk_iald (o := 89) C hM rfl (by decide) dX7_text_81 ?_
      refine W.eq (g2 := F0 m 82 ls [.int (M_11 89 3), .int 3, .ref (sk_ad g 89)]) rfl ?_
      refine lv_iconst (v := 1) hx hb dX7_text_82 (by decide) ?_
      refine lv_iadd hx hb dX7_text_83 ?_
      refine sk_iast (o := 89) C hM hS rfl (by decide) dX7_text_84 (fun M_12 eM_12 H locs hM hS => ?_)
      have h := sk_letU h eM_12
      refine lv_aload_n hx hb dX7_text_85 rfl (lv_at hl 2 rfl) ?_
      refine sk_getR (o := 88) (ci := 7) (j := 0) (t := 89) C hM rfl rfl (by decide) rfl rfl kw_935 dX7_text_86 ?_
      refine lv_iconst (v := 3) hx hb dX7_text_89 (by decide) ?_
      refine sk_iald (o := 89) C hM rfl (by decide) dX7_text_90 ?_
      refine W.eq (g2 := F0 m 91 ls [.int (M_12 89 3)]) rfl ?_
      refine lv_iconst (v := 1) hx hb dX7_text_91 (by decide) ?_
      refine lv_isub hx hb dX7_text_92 ?_
      exact sk_iret C hM hS (sk_e2 h) dX7_text_93
    · have h := sk_pos h hc
      refine lv_ldc (v := (-1000000003)) hx hb hown (hts _ kw_1045) dX7_text_28 ?_
      exact sk_iret C hM hS (sk_e2 h) dX7_text_30
  · have h := sk_neg h hc
    refine lv_bipush (v := (-100)) hx hb dX7_text_9 (by decide) ?_
    refine lv_aload_n hx hb dX7_text_11 rfl (lv_at hl 1 rfl) ?_
    refine sk_getI (o := 88) (ci := 7) (j := 16) C hM rfl rfl (by decide) rfl kw_951 dX7_text_12 ?_
    refine lv_isub hx hb dX7_text_15 ?_
    exact sk_iret C hM hS (sk_e2 h) dX7_text_16
theorem dX7_textTold_0 : decode cX7_textTold 0 = .ok (.aload_n 0, 1) := by decide +kernel
theorem dX7_textTold_1 : decode cX7_textTold 1 = .ok (.iload_n 1, 1) := by decide +kernel
theorem dX7_textTold_2 : decode cX7_textTold 2 = .ok (.invokevirtual 287, 3) := by decide +kernel
theorem dX7_textTold_5 : decode cX7_textTold 5 = .ok (.ifCond .eq 13, 3) := by decide +kernel
theorem dX7_textTold_8 : decode cX7_textTold 8 = .ok (.iload_n 2, 1) := by decide +kernel
theorem dX7_textTold_9 : decode cX7_textTold 9 = .ok (.i2l, 1) := by decide +kernel
theorem dX7_textTold_10 : decode cX7_textTold 10 = .ok (.lconst 0, 1) := by decide +kernel
theorem dX7_textTold_11 : decode cX7_textTold 11 = .ok (.lconst 1, 1) := by decide +kernel
theorem dX7_textTold_12 : decode cX7_textTold 12 = .ok (.invokestatic 71, 3) := by decide +kernel
theorem dX7_textTold_15 : decode cX7_textTold 15 = .ok (.ifCond .ne 6, 3) := by decide +kernel
theorem dX7_textTold_18 : decode cX7_textTold 18 = .ok (.ldc 80, 2) := by decide +kernel
theorem dX7_textTold_20 : decode cX7_textTold 20 = .ok (.ireturn, 1) := by decide +kernel
theorem dX7_textTold_21 : decode cX7_textTold 21 = .ok (.aload_n 0, 1) := by decide +kernel
theorem dX7_textTold_22 : decode cX7_textTold 22 = .ok (.getfield 7, 3) := by decide +kernel
theorem dX7_textTold_25 : decode cX7_textTold 25 = .ok (.aload_n 0, 1) := by decide +kernel
theorem dX7_textTold_26 : decode cX7_textTold 26 = .ok (.iload_n 1, 1) := by decide +kernel
theorem dX7_textTold_27 : decode cX7_textTold 27 = .ok (.invokevirtual 278, 3) := by decide +kernel
theorem dX7_textTold_30 : decode cX7_textTold 30 = .ok (.iload_n 2, 1) := by decide +kernel
theorem dX7_textTold_31 : decode cX7_textTold 31 = .ok (.iadd, 1) := by decide +kernel
theorem dX7_textTold_32 : decode cX7_textTold 32 = .ok (.iaload, 1) := by decide +kernel
theorem dX7_textTold_33 : decode cX7_textTold 33 = .ok (.ireturn, 1) := by decide +kernel
set_option maxHeartbeats 4000000 in
set_option maxRecDepth 100000 in
theorem c_X7_textTold (g : sk_G) (l : Launch) (a1 : Int32) (a2 : Int32) (M : sk_M) {rr : Int32} (h : f_X7_textTold a1 a2 M = some rr) : sk_MI g l yX7_textTold cX7_textTold 3 (some .int) 3 [.ref (sk_ad g 88), .int a1, .int a2] M rr M := by
  refine sk_go [(0, .ref (sk_ad g 88)), (1, .int a1), (2, .int a2)] (by decide) (Nat.le_of_ble_eq_true rfl) rfl ?_
  intro p e s m av below meth c C ls hl hM hS
  obtain ⟨hx, hb, hml, hown, hts, hK, hE, hr, hlocks⟩ := id C
  rw [f_X7_textTold] at h
  refine lv_aload_n hx hb dX7_textTold_0 rfl (lv_at hl 0 rfl) ?_
  refine lv_iload_n hx hb dX7_textTold_1 rfl (lv_at hl 1 rfl) ?_
  refine sk_contI (sk_runV (As := [.int a1]) (rest := []) C (c_X7_isText g l a1 M rfl) yo_X7_isText kw_1371 (sk_recv (ci := 7) C hM rfl rfl) (by decide) hM hS hl.1 rfl rfl (Nat.le_of_ble_eq_true rfl) dX7_textTold_2) hS (fun H locs hM hS => ?_)
  refine lv_if_eq hx hb dX7_textTold_5 rfl (fun hc => ?_) (fun hc => ?_)
  · have h := sk_pos h hc
    refine lv_ldc (v := (-1000000001)) hx hb hown (hts _ kw_1044) dX7_textTold_18 ?_
    exact sk_iret C hM hS ⟨Option.some.inj h, rfl⟩ dX7_textTold_20
  · have h := sk_neg h hc
    refine lv_iload_n hx hb dX7_textTold_8 rfl (lv_at hl 2 rfl) ?_
    refine lv_i2l (v := a2.toInt64) hx hb dX7_textTold_9 rfl ?_
    refine lv_lconst (v := 0) hx hb dX7_textTold_10 (by decide) ?_
    refine lv_lconst (v := 1) hx hb dX7_textTold_11 (by decide) ?_
    refine sk_contI (sk_runS (As := [.long (a2.toInt64), .long 0, .long 1]) (rest := []) C (c_X7_isIn g l (a2.toInt64) 0 1 M rfl) yo_X7_isIn kw_1040 (by decide) hM hS hl.1 rfl rfl (Nat.le_of_ble_eq_true rfl) dX7_textTold_12) hS (fun H locs hM hS => ?_)
    refine lv_if_ne hx hb dX7_textTold_15 rfl (fun hc => ?_) (fun hc => ?_)
    · have h := sk_neg h hc
      refine lv_aload_n hx hb dX7_textTold_21 rfl (lv_at hl 0 rfl) ?_
      refine sk_getR (o := 88) (ci := 7) (j := 0) (t := 89) C hM rfl rfl (by decide) rfl rfl kw_935 dX7_textTold_22 ?_
      refine lv_aload_n hx hb dX7_textTold_25 rfl (lv_at hl 0 rfl) ?_
      refine lv_iload_n hx hb dX7_textTold_26 rfl (lv_at hl 1 rfl) ?_
      refine sk_contI (sk_runV (As := [.int a1]) (rest := [.ref (sk_ad g 89)]) C (c_X7_textAt g l a1 M rfl) yo_X7_textAt kw_1157 (sk_recv (ci := 7) C hM rfl rfl) (by decide) hM hS hl.1 rfl rfl (Nat.le_of_ble_eq_true rfl) dX7_textTold_27) hS (fun H locs hM hS => ?_)
      refine lv_iload_n hx hb dX7_textTold_30 rfl (lv_at hl 2 rfl) ?_
      refine lv_iadd hx hb dX7_textTold_31 ?_
      obtain ⟨i_4, h⟩ := sk_chkE h
      refine sk_iald (o := 89) C hM rfl i_4 dX7_textTold_32 ?_
      exact sk_iret C hM hS ⟨Option.some.inj h, rfl⟩ dX7_textTold_33
    · have h := sk_pos h hc
      refine lv_ldc (v := (-1000000001)) hx hb hown (hts _ kw_1044) dX7_textTold_18 ?_
      exact sk_iret C hM hS ⟨Option.some.inj h, rfl⟩ dX7_textTold_20
theorem dX7_why_0 : decode cX7_why 0 = .ok (.iload_n 1, 1) := by decide +kernel
theorem dX7_why_1 : decode cX7_why 1 = .ok (.i2l, 1) := by decide +kernel
theorem dX7_why_2 : decode cX7_why 2 = .ok (.lconst 0, 1) := by decide +kernel
theorem dX7_why_3 : decode cX7_why 3 = .ok (.ldc2_w 290, 3) := by decide +kernel
theorem dX7_why_6 : decode cX7_why 6 = .ok (.invokestatic 71, 3) := by decide +kernel
theorem dX7_why_9 : decode cX7_why 9 = .ok (.ifCond .eq 14, 3) := by decide +kernel
theorem dX7_why_12 : decode cX7_why 12 = .ok (.aload_n 0, 1) := by decide +kernel
theorem dX7_why_13 : decode cX7_why 13 = .ok (.iload_n 1, 1) := by decide +kernel
theorem dX7_why_14 : decode cX7_why 14 = .ok (.invokevirtual 90, 3) := by decide +kernel
theorem dX7_why_17 : decode cX7_why 17 = .ok (.invokestatic 157, 3) := by decide +kernel
theorem dX7_why_20 : decode cX7_why 20 = .ok (.goto 5, 3) := by decide +kernel
theorem dX7_why_23 : decode cX7_why 23 = .ok (.ldc 80, 2) := by decide +kernel
theorem dX7_why_25 : decode cX7_why 25 = .ok (.ireturn, 1) := by decide +kernel
set_option maxHeartbeats 4000000 in
set_option maxRecDepth 100000 in
theorem c_X7_why (g : sk_G) (l : Launch) (a1 : Int32) (M : sk_M) {rr : Int32} (h : f_X7_why a1 M = some rr) : sk_MI g l yX7_why cX7_why 2 (some .int) 3 [.ref (sk_ad g 88), .int a1] M rr M := by
  refine sk_go [(0, .ref (sk_ad g 88)), (1, .int a1)] (by decide) (Nat.le_of_ble_eq_true rfl) rfl ?_
  intro p e s m av below meth c C ls hl hM hS
  obtain ⟨hx, hb, hml, hown, hts, hK, hE, hr, hlocks⟩ := id C
  rw [f_X7_why] at h
  refine lv_iload_n hx hb dX7_why_0 rfl (lv_at hl 1 rfl) ?_
  refine lv_i2l (v := a1.toInt64) hx hb dX7_why_1 rfl ?_
  refine lv_lconst (v := 0) hx hb dX7_why_2 (by decide) ?_
  refine lv_ldc2 (v := 2) hx hb hown (hts _ kw_1379) dX7_why_3 ?_
  refine sk_contI (sk_runS (As := [.long (a1.toInt64), .long 0, .long 2]) (rest := []) C (c_X7_isIn g l (a1.toInt64) 0 2 M rfl) yo_X7_isIn kw_1040 (by decide) hM hS hl.1 rfl rfl (Nat.le_of_ble_eq_true rfl) dX7_why_6) hS (fun H locs hM hS => ?_)
  refine lv_if_eq hx hb dX7_why_9 rfl (fun hc => ?_) (fun hc => ?_)
  · have h := sk_pos h hc
    refine lv_ldc (v := (-1000000001)) hx hb hown (hts _ kw_1044) dX7_why_23 ?_
    exact sk_iret C hM hS ⟨Option.some.inj h, rfl⟩ dX7_why_25
  · have h := sk_neg h hc
    refine lv_aload_n hx hb dX7_why_12 rfl (lv_at hl 0 rfl) ?_
    refine lv_iload_n hx hb dX7_why_13 rfl (lv_at hl 1 rfl) ?_
    obtain ⟨x_2, h_3, h⟩ := sk_b1E h
    refine sk_contI (sk_runV (As := [.int a1]) (rest := []) C (c_X7_counts g l a1 M h_3) yo_X7_counts kw_1153 (sk_recv (ci := 7) C hM rfl rfl) (by decide) hM hS hl.1 rfl rfl (Nat.le_of_ble_eq_true rfl) dX7_why_14) hS (fun H locs hM hS => ?_)
    refine sk_contI (sk_runS (As := [.int x_2]) (rest := []) C (c_X7_orNone g l x_2 M rfl) yo_X7_orNone kw_1209 (by decide) hM hS hl.1 rfl rfl (Nat.le_of_ble_eq_true rfl) dX7_why_17) hS (fun H locs hM hS => ?_)
    refine lv_goto hx hb dX7_why_20 rfl ?_
    exact sk_iret C hM hS ⟨Option.some.inj h, rfl⟩ dX7_why_25
theorem dX7_isSheet_0 : decode cX7_isSheet 0 = .ok (.iload_n 0, 1) := by decide +kernel
theorem dX7_isSheet_1 : decode cX7_isSheet 1 = .ok (.i2l, 1) := by decide +kernel
theorem dX7_isSheet_2 : decode cX7_isSheet 2 = .ok (.lconst 0, 1) := by decide +kernel
theorem dX7_isSheet_3 : decode cX7_isSheet 3 = .ok (.ldc2_w 111, 3) := by decide +kernel
theorem dX7_isSheet_6 : decode cX7_isSheet 6 = .ok (.invokestatic 71, 3) := by decide +kernel
theorem dX7_isSheet_9 : decode cX7_isSheet 9 = .ok (.ireturn, 1) := by decide +kernel
set_option maxHeartbeats 4000000 in
set_option maxRecDepth 100000 in
theorem c_X7_isSheet (g : sk_G) (l : Launch) (a0 : Int32) (M : sk_M) {rr : Int32} (h : f_X7_isSheet a0 = rr) : sk_MI g l yX7_isSheet cX7_isSheet 1 (some .boolean) 2 [.int a0] M rr M := by
  refine sk_go [(0, .int a0)] (by decide) (Nat.le_of_ble_eq_true rfl) rfl ?_
  intro p e s m av below meth c C ls hl hM hS
  obtain ⟨hx, hb, hml, hown, hts, hK, hE, hr, hlocks⟩ := id C
  rw [f_X7_isSheet] at h
  refine lv_iload_n hx hb dX7_isSheet_0 rfl (lv_at hl 0 rfl) ?_
  refine lv_i2l (v := a0.toInt64) hx hb dX7_isSheet_1 rfl ?_
  refine lv_lconst (v := 0) hx hb dX7_isSheet_2 (by decide) ?_
  refine lv_ldc2 (v := 3) hx hb hown (hts _ kw_1058) dX7_isSheet_3 ?_
  refine sk_contI (sk_runS (As := [.long (a0.toInt64), .long 0, .long 3]) (rest := []) C (c_X7_isIn g l (a0.toInt64) 0 3 M rfl) yo_X7_isIn kw_1040 (by decide) hM hS hl.1 rfl rfl (Nat.le_of_ble_eq_true rfl) dX7_isSheet_6) hS (fun H locs hM hS => ?_)
  exact sk_zret C hM hS (sk_nz (fz_X7_isIn (a0.toInt64) 0 3)) ⟨h, rfl⟩ dX7_isSheet_9
theorem dX7_sheet_0 : decode cX7_sheet 0 = .ok (.iload_n 1, 1) := by decide +kernel
theorem dX7_sheet_1 : decode cX7_sheet 1 = .ok (.invokestatic 296, 3) := by decide +kernel
theorem dX7_sheet_4 : decode cX7_sheet 4 = .ok (.ifCond .eq 25, 3) := by decide +kernel
theorem dX7_sheet_7 : decode cX7_sheet 7 = .ok (.iload_n 2, 1) := by decide +kernel
theorem dX7_sheet_8 : decode cX7_sheet 8 = .ok (.i2l, 1) := by decide +kernel
theorem dX7_sheet_9 : decode cX7_sheet 9 = .ok (.ldc2_w 299, 3) := by decide +kernel
theorem dX7_sheet_12 : decode cX7_sheet 12 = .ok (.lconst 1, 1) := by decide +kernel
theorem dX7_sheet_13 : decode cX7_sheet 13 = .ok (.invokestatic 71, 3) := by decide +kernel
theorem dX7_sheet_16 : decode cX7_sheet 16 = .ok (.ifCond .eq 13, 3) := by decide +kernel
theorem dX7_sheet_19 : decode cX7_sheet 19 = .ok (.iload_n 2, 1) := by decide +kernel
theorem dX7_sheet_20 : decode cX7_sheet 20 = .ok (.ifCond .lt 12, 3) := by decide +kernel
theorem dX7_sheet_23 : decode cX7_sheet 23 = .ok (.iload_n 3, 1) := by decide +kernel
theorem dX7_sheet_24 : decode cX7_sheet 24 = .ok (.bipush 24, 2) := by decide +kernel
theorem dX7_sheet_26 : decode cX7_sheet 26 = .ok (.if_icmp .le 6, 3) := by decide +kernel
theorem dX7_sheet_29 : decode cX7_sheet 29 = .ok (.ldc 80, 2) := by decide +kernel
theorem dX7_sheet_31 : decode cX7_sheet 31 = .ok (.ireturn, 1) := by decide +kernel
theorem dX7_sheet_32 : decode cX7_sheet 32 = .ok (.iload_n 2, 1) := by decide +kernel
theorem dX7_sheet_33 : decode cX7_sheet 33 = .ok (.ifCond .lt 11, 3) := by decide +kernel
theorem dX7_sheet_36 : decode cX7_sheet 36 = .ok (.iload_n 3, 1) := by decide +kernel
theorem dX7_sheet_37 : decode cX7_sheet 37 = .ok (.ifCond .ge 7, 3) := by decide +kernel
theorem dX7_sheet_40 : decode cX7_sheet 40 = .ok (.ldc_w 301, 3) := by decide +kernel
theorem dX7_sheet_43 : decode cX7_sheet 43 = .ok (.ireturn, 1) := by decide +kernel
theorem dX7_sheet_44 : decode cX7_sheet 44 = .ok (.aload_n 0, 1) := by decide +kernel
theorem dX7_sheet_45 : decode cX7_sheet 45 = .ok (.getfield 19, 3) := by decide +kernel
theorem dX7_sheet_48 : decode cX7_sheet 48 = .ok (.iload_n 1, 1) := by decide +kernel
theorem dX7_sheet_49 : decode cX7_sheet 49 = .ok (.iload_n 2, 1) := by decide +kernel
theorem dX7_sheet_50 : decode cX7_sheet 50 = .ok (.iastore, 1) := by decide +kernel
theorem dX7_sheet_51 : decode cX7_sheet 51 = .ok (.aload_n 0, 1) := by decide +kernel
theorem dX7_sheet_52 : decode cX7_sheet 52 = .ok (.getfield 22, 3) := by decide +kernel
theorem dX7_sheet_55 : decode cX7_sheet 55 = .ok (.iload_n 1, 1) := by decide +kernel
theorem dX7_sheet_56 : decode cX7_sheet 56 = .ok (.iload_n 2, 1) := by decide +kernel
theorem dX7_sheet_57 : decode cX7_sheet 57 = .ok (.ifCond .ge 7, 3) := by decide +kernel
theorem dX7_sheet_60 : decode cX7_sheet 60 = .ok (.iconst 0, 1) := by decide +kernel
theorem dX7_sheet_61 : decode cX7_sheet 61 = .ok (.goto 4, 3) := by decide +kernel
theorem dX7_sheet_64 : decode cX7_sheet 64 = .ok (.iload_n 3, 1) := by decide +kernel
theorem dX7_sheet_65 : decode cX7_sheet 65 = .ok (.iastore, 1) := by decide +kernel
theorem dX7_sheet_66 : decode cX7_sheet 66 = .ok (.iconst 0, 1) := by decide +kernel
theorem dX7_sheet_67 : decode cX7_sheet 67 = .ok (.istore 4, 2) := by decide +kernel
theorem dX7_sheet_69 : decode cX7_sheet 69 = .ok (.iload 4, 2) := by decide +kernel
theorem dX7_sheet_71 : decode cX7_sheet 71 = .ok (.bipush 24, 2) := by decide +kernel
theorem dX7_sheet_73 : decode cX7_sheet 73 = .ok (.if_icmp .ge 22, 3) := by decide +kernel
theorem dX7_sheet_76 : decode cX7_sheet 76 = .ok (.aload_n 0, 1) := by decide +kernel
theorem dX7_sheet_77 : decode cX7_sheet 77 = .ok (.getfield 25, 3) := by decide +kernel
theorem dX7_sheet_80 : decode cX7_sheet 80 = .ok (.bipush 24, 2) := by decide +kernel
theorem dX7_sheet_82 : decode cX7_sheet 82 = .ok (.iload_n 1, 1) := by decide +kernel
theorem dX7_sheet_83 : decode cX7_sheet 83 = .ok (.imul, 1) := by decide +kernel
theorem dX7_sheet_84 : decode cX7_sheet 84 = .ok (.iload 4, 2) := by decide +kernel
theorem dX7_sheet_86 : decode cX7_sheet 86 = .ok (.iadd, 1) := by decide +kernel
theorem dX7_sheet_87 : decode cX7_sheet 87 = .ok (.iconst 0, 1) := by decide +kernel
theorem dX7_sheet_88 : decode cX7_sheet 88 = .ok (.iastore, 1) := by decide +kernel
theorem dX7_sheet_89 : decode cX7_sheet 89 = .ok (.iinc 4 1, 3) := by decide +kernel
theorem dX7_sheet_92 : decode cX7_sheet 92 = .ok (.goto (-23), 3) := by decide +kernel
theorem dX7_sheet_95 : decode cX7_sheet 95 = .ok (.aload_n 0, 1) := by decide +kernel
theorem dX7_sheet_96 : decode cX7_sheet 96 = .ok (.getfield 22, 3) := by decide +kernel
theorem dX7_sheet_99 : decode cX7_sheet 99 = .ok (.iload_n 1, 1) := by decide +kernel
theorem dX7_sheet_100 : decode cX7_sheet 100 = .ok (.iaload, 1) := by decide +kernel
theorem dX7_sheet_101 : decode cX7_sheet 101 = .ok (.ireturn, 1) := by decide +kernel
set_option maxHeartbeats 4000000 in
set_option maxRecDepth 100000 in
theorem w_X7_sheet_L69 {g : sk_G} {l : Launch} {p : Program} {e : Env} {s : State} {m : MethodId} {av : Array Value} {below : List Frame} {meth : Method} {c : Code} (C : sk_C g p s m av meth c cX7_sheet 5 RX7 (some .int)) (a1 : Int32) {rr : Int32} {MM : sk_M} :
    ∀ (n : Nat) (a4 : Int32) (M : sk_M) (H : Heap) (locs : List Loc) (ls : Array Slot), lv_has ls 5 [(0, .ref (sk_ad g 88)), (1, .int a1), (4, .int a4)] → sk_P g M H → va_S (sk_A g) s.heap H locs → ∀ {out : sk_M}, f_X7_sheet_L69 a1 n a4 M = some out → (∀ (M1 : sk_M) (H : Heap) (locs : List Loc) (ls : Array Slot), some M1 = some out → lv_has ls 5 [(0, .ref (sk_ad g 88)), (1, .int a1)] → sk_P g M1 H → va_S (sk_A g) s.heap H locs → W p l e (sk_rm 3) s m av below meth c H locs 0 0 (MQ below (sk_QI g rr MM) av s 0 0 (sk_A g)) (F0 m 95 ls [])) → W p l e (sk_rm 3) s m av below meth c H locs 0 0 (MQ below (sk_QI g rr MM) av s 0 0 (sk_A g)) (F0 m 69 ls []) := by
  obtain ⟨hx, hb, hml, hown, hts, hK, hE, hr, hlocks⟩ := id C
  intro n
  induction n with
  | zero =>
    intro a4 M H locs ls hl hM hS out h
    cases h
  | succ n ih =>
    intro a4 M H locs ls hl hM hS out h kx
    rw [f_X7_sheet_L69] at h
    refine lv_iload hx hb dX7_sheet_69 (lv_at hl 2 rfl) ?_
    refine lv_bipush (v := 24) hx hb dX7_sheet_71 (by decide) ?_
    refine lv_icmp_ge hx hb dX7_sheet_73 rfl (fun hc => ?_) (fun hc => ?_)
    · have h := sk_pos h hc
      exact kx _ _ _ _ h (lv_sub hl [0, 1] rfl) hM hS
    · have h := sk_neg h hc
      refine lv_aload_n hx hb dX7_sheet_76 rfl (lv_at hl 0 rfl) ?_
      refine sk_getR (o := 88) (ci := 7) (j := 6) (t := 94) C hM rfl rfl (by decide) rfl rfl kw_941 dX7_sheet_77 ?_
      refine lv_bipush (v := 24) hx hb dX7_sheet_80 (by decide) ?_
      refine lv_iload_n hx hb dX7_sheet_82 rfl (lv_at hl 1 rfl) ?_
      refine lv_imul hx hb dX7_sheet_83 ?_
      refine lv_iload hx hb dX7_sheet_84 (lv_at hl 2 rfl) ?_
      refine lv_iadd hx hb dX7_sheet_86 ?_
      refine lv_iconst (v := 0) hx hb dX7_sheet_87 (by decide) ?_
      obtain ⟨i_9, h⟩ := sk_chkE h
      refine sk_iast (o := 94) C hM hS rfl i_9 dX7_sheet_88 (fun M_10 eM_10 H locs hM hS => ?_)
      have h := sk_letU h eM_10
      refine lv_iinc (v := (a4 + 1)) (lv' := [(4, .int (a4 + 1)), (0, .ref (sk_ad g 88)), (1, .int a1)]) hx hb dX7_sheet_89 hl (k := 2) rfl rfl (by decide) rfl (fun ls hl => ?_)
      refine lv_goto hx hb dX7_sheet_92 rfl ?_
      exact ih (a4 + 1) M_10 _ _ _ (lv_sub hl [1, 2, 0] rfl) hM hS h kx
set_option maxHeartbeats 4000000 in
set_option maxRecDepth 100000 in
theorem c_X7_sheet (g : sk_G) (l : Launch) (a1 : Int32) (a2 : Int32) (a3 : Int32) (M : sk_M) {rr : Int32} {MM : sk_M} (h : f_X7_sheet a1 a2 a3 M = some (rr, MM)) : sk_MI g l yX7_sheet cX7_sheet 5 (some .int) 3 [.ref (sk_ad g 88), .int a1, .int a2, .int a3] M rr MM := by
  refine sk_go [(0, .ref (sk_ad g 88)), (1, .int a1), (2, .int a2), (3, .int a3)] (by decide) (Nat.le_of_ble_eq_true rfl) rfl ?_
  intro p e s m av below meth c C ls hl hM hS
  obtain ⟨hx, hb, hml, hown, hts, hK, hE, hr, hlocks⟩ := id C
  rw [f_X7_sheet] at h
  refine lv_iload_n hx hb dX7_sheet_0 rfl (lv_at hl 1 rfl) ?_
  refine sk_contI (sk_runS (As := [.int a1]) (rest := []) C (c_X7_isSheet g l a1 M rfl) yo_X7_isSheet kw_1384 (by decide) hM hS hl.1 rfl rfl (Nat.le_of_ble_eq_true rfl) dX7_sheet_1) hS (fun H locs hM hS => ?_)
  refine lv_if_eq hx hb dX7_sheet_4 rfl (fun hc => ?_) (fun hc => ?_)
  · have h := sk_pos h hc
    refine lv_ldc (v := (-1000000001)) hx hb hown (hts _ kw_1044) dX7_sheet_29 ?_
    exact sk_iret C hM hS (sk_e2 h) dX7_sheet_31
  · have h := sk_neg h hc
    refine lv_iload_n hx hb dX7_sheet_7 rfl (lv_at hl 2 rfl) ?_
    refine lv_i2l (v := a2.toInt64) hx hb dX7_sheet_8 rfl ?_
    refine lv_ldc2 (v := (-1)) hx hb hown (hts _ kw_1387) dX7_sheet_9 ?_
    refine lv_lconst (v := 1) hx hb dX7_sheet_12 (by decide) ?_
    refine sk_contI (sk_runS (As := [.long (a2.toInt64), .long (-1), .long 1]) (rest := []) C (c_X7_isIn g l (a2.toInt64) (-1) 1 M rfl) yo_X7_isIn kw_1040 (by decide) hM hS hl.1 rfl rfl (Nat.le_of_ble_eq_true rfl) dX7_sheet_13) hS (fun H locs hM hS => ?_)
    refine lv_if_eq hx hb dX7_sheet_16 rfl (fun hc => ?_) (fun hc => ?_)
    · have h := sk_pos h hc
      refine lv_ldc (v := (-1000000001)) hx hb hown (hts _ kw_1044) dX7_sheet_29 ?_
      exact sk_iret C hM hS (sk_e2 h) dX7_sheet_31
    · have h := sk_neg h hc
      refine lv_iload_n hx hb dX7_sheet_19 rfl (lv_at hl 2 rfl) ?_
      obtain ⟨out_3, h_3, kf_3, kg_3⟩ := sk_s0E h
      have J_3 : ∀  (H : Heap) (locs : List Loc) (ls : Array Slot), some (Sum.inr ()) = some out_3 → lv_has ls 5 [(0, .ref (sk_ad g 88)), (1, .int a1), (2, .int a2), (3, .int a3)] → sk_P g M H → va_S (sk_A g) s.heap H locs → W p l e (sk_rm 3) s m av below meth c H locs 0 0 (MQ below (sk_QI g rr MM) av s 0 0 (sk_A g)) (F0 m 32 ls []) := by
        intro  H locs ls he hl hM hS
        have h := kg_3  (Option.some.inj he).symm
        refine lv_iload_n hx hb dX7_sheet_32 rfl (lv_at hl 2 rfl) ?_
        obtain ⟨out_4, h_4, kf_4, kg_4⟩ := sk_s0E h
        have J_4 : ∀  (H : Heap) (locs : List Loc) (ls : Array Slot), some (Sum.inr ()) = some out_4 → lv_has ls 5 [(0, .ref (sk_ad g 88)), (1, .int a1), (2, .int a2), (3, .int a3)] → sk_P g M H → va_S (sk_A g) s.heap H locs → W p l e (sk_rm 3) s m av below meth c H locs 0 0 (MQ below (sk_QI g rr MM) av s 0 0 (sk_A g)) (F0 m 44 ls []) := by
          intro  H locs ls he hl hM hS
          have h := kg_4  (Option.some.inj he).symm
          refine lv_aload_n hx hb dX7_sheet_44 rfl (lv_at hl 0 rfl) ?_
          refine sk_getR (o := 88) (ci := 7) (j := 4) (t := 92) C hM rfl rfl (by decide) rfl rfl kw_939 dX7_sheet_45 ?_
          refine lv_iload_n hx hb dX7_sheet_48 rfl (lv_at hl 1 rfl) ?_
          refine lv_iload_n hx hb dX7_sheet_49 rfl (lv_at hl 2 rfl) ?_
          obtain ⟨i_5, h⟩ := sk_chkE h
          refine sk_iast (o := 92) C hM hS rfl i_5 dX7_sheet_50 (fun M_6 eM_6 H locs hM hS => ?_)
          have h := sk_letU h eM_6
          refine lv_aload_n hx hb dX7_sheet_51 rfl (lv_at hl 0 rfl) ?_
          refine sk_getR (o := 88) (ci := 7) (j := 5) (t := 93) C hM rfl rfl (by decide) rfl rfl kw_940 dX7_sheet_52 ?_
          refine lv_iload_n hx hb dX7_sheet_55 rfl (lv_at hl 1 rfl) ?_
          refine lv_iload_n hx hb dX7_sheet_56 rfl (lv_at hl 2 rfl) ?_
          have J : ∀ (vv : Int32) (H : Heap) (locs : List Loc), (if 0 ≤ a2 then a3 else 0 : Int32) = vv → sk_P g M_6 H → va_S (sk_A g) s.heap H locs → W p l e (sk_rm 3) s m av below meth c H locs 0 0 (MQ below (sk_QI g rr MM) av s 0 0 (sk_A g)) (F0 m 65 ls [.int vv, .int a1, .ref (sk_ad g 93)]) := by
            intro vv H locs hvv hM hS
            subst hvv
            obtain ⟨i_7, h⟩ := sk_chkE h
            refine sk_iast (o := 93) C hM hS rfl i_7 dX7_sheet_65 (fun M_8 eM_8 H locs hM hS => ?_)
            have h := sk_letU h eM_8
            refine lv_iconst (v := 0) hx hb dX7_sheet_66 (by decide) ?_
            refine lv_istore (lv' := [(4, .int 0), (0, .ref (sk_ad g 88)), (1, .int a1), (2, .int a2), (3, .int a3)]) hx hb dX7_sheet_67 hl (by decide) rfl (fun ls hl => ?_)
            obtain ⟨M_11, h_13, h⟩ := sk_b1E h
            refine w_X7_sheet_L69 C a1 sk_FU 0 M_8 _ _ _ (lv_sub hl [1, 2, 0] rfl) hM hS h_13 (fun y_14 H locs ls he hl hM hS => ?_)
            obtain rfl := Option.some.inj he
            refine lv_aload_n hx hb dX7_sheet_95 rfl (lv_at hl 0 rfl) ?_
            refine sk_getR (o := 88) (ci := 7) (j := 5) (t := 93) C hM rfl rfl (by decide) rfl rfl kw_940 dX7_sheet_96 ?_
            refine lv_iload_n hx hb dX7_sheet_99 rfl (lv_at hl 1 rfl) ?_
            obtain ⟨i_12, h⟩ := sk_chkE h
            refine sk_iald (o := 93) C hM rfl i_12 dX7_sheet_100 ?_
            exact sk_iret C hM hS (sk_e2 h) dX7_sheet_101
          refine lv_if_ge hx hb dX7_sheet_57 rfl (fun hc => ?_) (fun hc => ?_)
          · have J := fun vv H locs q => J vv H locs ((if_pos hc).trans q)
            refine lv_iload_n hx hb dX7_sheet_64 rfl (lv_at hl 3 rfl) ?_
            exact J _ _ _ rfl hM hS
          · have J := fun vv H locs q => J vv H locs ((if_neg hc).trans q)
            refine lv_iconst (v := 0) hx hb dX7_sheet_60 (by decide) ?_
            refine lv_goto hx hb dX7_sheet_61 rfl ?_
            exact J _ _ _ rfl hM hS
        have h := h_4
        refine lv_if_lt hx hb dX7_sheet_33 rfl (fun hc => ?_) (fun hc => ?_)
        · have h := sk_pos h hc
          exact J_4  _ _ _ h (lv_sub hl [0, 1, 2, 3] rfl) hM hS
        · have h := sk_neg h hc
          refine lv_iload_n hx hb dX7_sheet_36 rfl (lv_at hl 3 rfl) ?_
          refine lv_if_ge hx hb dX7_sheet_37 rfl (fun hc => ?_) (fun hc => ?_)
          · have h := sk_pos h hc
            exact J_4  _ _ _ h (lv_sub hl [0, 1, 2, 3] rfl) hM hS
          · have h := sk_neg h hc
            refine lv_ldcw (v := (-1000000014)) hx hb hown (hts _ kw_1388) dX7_sheet_40 ?_
            have h := kf_4 _ (Option.some.inj h).symm
            exact sk_iret C hM hS (sk_e2 h) dX7_sheet_43
      have h := h_3
      refine lv_if_lt hx hb dX7_sheet_20 rfl (fun hc => ?_) (fun hc => ?_)
      · have h := sk_pos h hc
        exact J_3  _ _ _ h (lv_sub hl [0, 1, 2, 3] rfl) hM hS
      · have h := sk_neg h hc
        refine lv_iload_n hx hb dX7_sheet_23 rfl (lv_at hl 3 rfl) ?_
        refine lv_bipush (v := 24) hx hb dX7_sheet_24 (by decide) ?_
        refine lv_icmp_le hx hb dX7_sheet_26 rfl (fun hc => ?_) (fun hc => ?_)
        · have h := sk_pos h hc
          exact J_3  _ _ _ h (lv_sub hl [0, 1, 2, 3] rfl) hM hS
        · have h := sk_neg h hc
          refine lv_ldc (v := (-1000000001)) hx hb hown (hts _ kw_1044) dX7_sheet_29 ?_
          have h := kf_3 _ (Option.some.inj h).symm
          exact sk_iret C hM hS (sk_e2 h) dX7_sheet_31
