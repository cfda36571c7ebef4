theorem dX7_word_0 : decode cX7_word 0 = .ok (.iload_n 1, 1) := by decide +kernel
theorem dX7_word_1 : decode cX7_word 1 = .ok (.i2l, 1) := by decide +kernel
theorem dX7_word_2 : decode cX7_word 2 = .ok (.lconst 1, 1) := by decide +kernel
theorem dX7_word_3 : decode cX7_word 3 = .ok (.iconst 1, 1) := by decide +kernel
theorem dX7_word_4 : decode cX7_word 4 = .ok (.aload_n 0, 1) := by decide +kernel
theorem dX7_word_5 : decode cX7_word 5 = .ok (.getfield 7, 3) := by decide +kernel
theorem dX7_word_8 : decode cX7_word 8 = .ok (.iconst 0, 1) := by decide +kernel
theorem dX7_word_9 : decode cX7_word 9 = .ok (.iaload, 1) := by decide +kernel
theorem dX7_word_10 : decode cX7_word 10 = .ok (.ishl, 1) := by decide +kernel
theorem dX7_word_11 : decode cX7_word 11 = .ok (.iconst 1, 1) := by decide +kernel
theorem dX7_word_12 : decode cX7_word 12 = .ok (.isub, 1) := by decide +kernel
theorem dX7_word_13 : decode cX7_word 13 = .ok (.i2l, 1) := by decide +kernel
theorem dX7_word_14 : decode cX7_word 14 = .ok (.invokestatic 71, 3) := by decide +kernel
theorem dX7_word_17 : decode cX7_word 17 = .ok (.ifCond .ne 6, 3) := by decide +kernel
theorem dX7_word_20 : decode cX7_word 20 = .ok (.ldc 80, 2) := by decide +kernel
theorem dX7_word_22 : decode cX7_word 22 = .ok (.ireturn, 1) := by decide +kernel
theorem dX7_word_23 : decode cX7_word 23 = .ok (.aload_n 0, 1) := by decide +kernel
theorem dX7_word_24 : decode cX7_word 24 = .ok (.getfield 7, 3) := by decide +kernel
theorem dX7_word_27 : decode cX7_word 27 = .ok (.iconst 2, 1) := by decide +kernel
theorem dX7_word_28 : decode cX7_word 28 = .ok (.iaload, 1) := by decide +kernel
theorem dX7_word_29 : decode cX7_word 29 = .ok (.bipush 12, 2) := by decide +kernel
theorem dX7_word_31 : decode cX7_word 31 = .ok (.if_icmp .ne 6, 3) := by decide +kernel
theorem dX7_word_34 : decode cX7_word 34 = .ok (.ldc 81, 2) := by decide +kernel
theorem dX7_word_36 : decode cX7_word 36 = .ok (.ireturn, 1) := by decide +kernel
theorem dX7_word_37 : decode cX7_word 37 = .ok (.aload_n 0, 1) := by decide +kernel
theorem dX7_word_38 : decode cX7_word 38 = .ok (.getfield 7, 3) := by decide +kernel
theorem dX7_word_41 : decode cX7_word 41 = .ok (.bipush 97, 2) := by decide +kernel
theorem dX7_word_43 : decode cX7_word 43 = .ok (.aload_n 0, 1) := by decide +kernel
theorem dX7_word_44 : decode cX7_word 44 = .ok (.getfield 7, 3) := by decide +kernel
theorem dX7_word_47 : decode cX7_word 47 = .ok (.iconst 2, 1) := by decide +kernel
theorem dX7_word_48 : decode cX7_word 48 = .ok (.iaload, 1) := by decide +kernel
theorem dX7_word_49 : decode cX7_word 49 = .ok (.iadd, 1) := by decide +kernel
theorem dX7_word_50 : decode cX7_word 50 = .ok (.iload_n 1, 1) := by decide +kernel
theorem dX7_word_51 : decode cX7_word 51 = .ok (.iastore, 1) := by decide +kernel
theorem dX7_word_52 : decode cX7_word 52 = .ok (.aload_n 0, 1) := by decide +kernel
theorem dX7_word_53 : decode cX7_word 53 = .ok (.getfield 7, 3) := by decide +kernel
theorem dX7_word_56 : decode cX7_word 56 = .ok (.iconst 2, 1) := by decide +kernel
theorem dX7_word_57 : decode cX7_word 57 = .ok (.dup2, 1) := by decide +kernel
theorem dX7_word_58 : decode cX7_word 58 = .ok (.iaload, 1) := by decide +kernel
theorem dX7_word_59 : decode cX7_word 59 = .ok (.iconst 1, 1) := by decide +kernel
theorem dX7_word_60 : decode cX7_word 60 = .ok (.iadd, 1) := by decide +kernel
theorem dX7_word_61 : decode cX7_word 61 = .ok (.iastore, 1) := by decide +kernel
theorem dX7_word_62 : decode cX7_word 62 = .ok (.aload_n 0, 1) := by decide +kernel
theorem dX7_word_63 : decode cX7_word 63 = .ok (.getfield 7, 3) := by decide +kernel
theorem dX7_word_66 : decode cX7_word 66 = .ok (.iconst 2, 1) := by decide +kernel
theorem dX7_word_67 : decode cX7_word 67 = .ok (.iaload, 1) := by decide +kernel
theorem dX7_word_68 : decode cX7_word 68 = .ok (.iconst 1, 1) := by decide +kernel
theorem dX7_word_69 : decode cX7_word 69 = .ok (.isub, 1) := by decide +kernel
theorem dX7_word_70 : decode cX7_word 70 = .ok (.ireturn, 1) := by decide +kernel
set_option maxHeartbeats 4000000 in
set_option maxRecDepth 100000 in
theorem c_X7_word (g : sk_G) (l : Launch) (a1 : Int32) (M : sk_M) {rr : Int32} {MM : sk_M} (h : f_X7_word a1 M = some (rr, MM)) : sk_MI g l yX7_word cX7_word 2 (some .int) 2 [.ref (sk_ad g 88), .int a1] M rr MM := by
  refine sk_go [(0, .ref (sk_ad g 88)), (1, .int a1)] (by decide) (Nat.le_of_ble_eq_true rfl) rfl ?_
  intro p e s m av below meth c C ls hl hM hS
  obtain ⟨hx, hb, hml, hown, hts, hK, hE, hr, hlocks⟩ := id C
  rw [f_X7_word] at h
  refine lv_iload_n hx hb dX7_word_0 rfl (lv_at hl 1 rfl) ?_
  refine lv_i2l (v := a1.toInt64) hx hb dX7_word_1 rfl ?_
  refine lv_lconst (v := 1) hx hb dX7_word_2 (by decide) ?_
  refine lv_iconst (v := 1) hx hb dX7_word_3 (by decide) ?_
  refine lv_aload_n hx hb dX7_word_4 rfl (lv_at hl 0 rfl) ?_
  refine sk_getR (o := 88) (ci := 7) (j := 0) (t := 89) C hM rfl rfl (by decide) rfl rfl kw_935 dX7_word_5 ?_
  refine lv_iconst (v := 0) hx hb dX7_word_8 (by decide) ?_
  refine sk_iald (o := 89) C hM rfl (by decide) dX7_word_9 ?_
  refine W.eq (g2 := F0 m 10 ls [.int (M 89 0), .int 1, .long 1, .long (a1.toInt64)]) rfl ?_
  refine lv_ishl hx hb dX7_word_10 ?_
  refine lv_iconst (v := 1) hx hb dX7_word_11 (by decide) ?_
  refine lv_isub hx hb dX7_word_12 ?_
  refine lv_i2l (v := (((1 <<< ((M 89 0) &&& 31)) - 1)).toInt64) hx hb dX7_word_13 rfl ?_
  refine sk_contI (sk_runS (As := [.long (a1.toInt64), .long 1, .long ((((1 <<< ((M 89 0) &&& 31)) - 1)).toInt64)]) (rest := []) C (c_X7_isIn g l (a1.toInt64) 1 ((((1 <<< ((M 89 0) &&& 31)) - 1)).toInt64) M rfl) yo_X7_isIn kw_1040 (by decide) hM hS hl.1 rfl rfl (Nat.le_of_ble_eq_true rfl) dX7_word_14) hS (fun H locs hM hS => ?_)
  refine lv_if_ne hx hb dX7_word_17 rfl (fun hc => ?_) (fun hc => ?_)
  · have h := sk_neg h hc
    refine lv_aload_n hx hb dX7_word_23 rfl (lv_at hl 0 rfl) ?_
    refine sk_getR (o := 88) (ci := 7) (j := 0) (t := 89) C hM rfl rfl (by decide) rfl rfl kw_935 dX7_word_24 ?_
    refine lv_iconst (v := 2) hx hb dX7_word_27 (by decide) ?_
    refine sk_iald (o := 89) C hM rfl (by decide) dX7_word_28 ?_
    refine W.eq (g2 := F0 m 29 ls [.int (M 89 2)]) rfl ?_
    refine lv_bipush (v := 12) hx hb dX7_word_29 (by decide) ?_
    refine lv_icmp_ne hx hb dX7_word_31 rfl (fun hc => ?_) (fun hc => ?_)
    · have h := sk_neg h hc
      refine lv_aload_n hx hb dX7_word_37 rfl (lv_at hl 0 rfl) ?_
      refine sk_getR (o := 88) (ci := 7) (j := 0) (t := 89) C hM rfl rfl (by decide) rfl rfl kw_935 dX7_word_38 ?_
      refine lv_bipush (v := 97) hx hb dX7_word_41 (by decide) ?_
      refine lv_aload_n hx hb dX7_word_43 rfl (lv_at hl 0 rfl) ?_
      refine sk_getR (o := 88) (ci := 7) (j := 0) (t := 89) C hM rfl rfl (by decide) rfl rfl kw_935 dX7_word_44 ?_
      refine lv_iconst (v := 2) hx hb dX7_word_47 (by decide) ?_
      refine sk_iald (o := 89) C hM rfl (by decide) dX7_word_48 ?_
      refine W.eq (g2 := F0 m 49 ls [.int (M 89 2), .int 97, .ref (sk_ad g 89)]) rfl ?_
      refine lv_iadd hx hb dX7_word_49 ?_
      refine lv_iload_n hx hb dX7_word_50 rfl (lv_at hl 1 rfl) ?_
      obtain ⟨i_2, h⟩ := sk_chkE h
      refine sk_iast (o := 89) C hM hS rfl i_2 dX7_word_51 (fun M_3 eM_3 H locs hM hS => ?_)
      have h := sk_letU h eM_3
      refine lv_aload_n hx hb dX7_word_52 rfl (lv_at hl 0 rfl) ?_
      refine sk_getR (o := 88) (ci := 7) (j := 0) (t := 89) C hM rfl rfl (by decide) rfl rfl kw_935 dX7_word_53 ?_
      refine lv_iconst (v := 2) hx hb dX7_word_56 (by decide) ?_
      refine lv_dup2_11 hx hb dX7_word_57 rfl rfl ?_
      refine sk_iald (o := 89) C hM rfl (by decide) dX7_word_58 ?_
      refine W.eq (g2 := F0 m 59 ls [.int (M_3 89 2), .int 2, .ref (sk_ad g 89)]) rfl ?_
      refine lv_iconst (v := 1) hx hb dX7_word_59 (by decide) ?_
      refine lv_iadd hx hb dX7_word_60 ?_
      refine sk_iast (o := 89) C hM hS rfl (by decide) dX7_word_61 (fun M_4 eM_4 H locs hM hS => ?_)
      have h := sk_letU h eM_4
      refine lv_aload_n hx hb dX7_word_62 rfl (lv_at hl 0 rfl) ?_
      refine sk_getR (o := 88) (ci := 7) (j := 0) (t := 89) C hM rfl rfl (by decide) rfl rfl kw_935 dX7_word_63 ?_
      refine lv_iconst (v := 2) hx hb dX7_word_66 (by decide) ?_
      refine sk_iald (o := 89) C hM rfl (by decide) dX7_word_67 ?_
      refine W.eq (g2 := F0 m 68 ls [.int (M_4 89 2)]) rfl ?_
      refine lv_iconst (v := 1) hx hb dX7_word_68 (by decide) ?_
      refine lv_isub hx hb dX7_word_69 ?_
      exact sk_iret C hM hS (sk_e2 h) dX7_word_70
    · have h := sk_pos h hc
      refine lv_ldc (v := (-1000000003)) hx hb hown (hts _ kw_1045) dX7_word_34 ?_
      exact sk_iret C hM hS (sk_e2 h) dX7_word_36
  · have h := sk_pos h hc
    refine lv_ldc (v := (-1000000001)) hx hb hown (hts _ kw_1044) dX7_word_20 ?_
    exact sk_iret C hM hS (sk_e2 h) dX7_word_22
theorem dX7_wordOf_0 : decode cX7_wordOf 0 = .ok (.aload_n 0, 1) := by decide +kernel
theorem dX7_wordOf_1 : decode cX7_wordOf 1 = .ok (.iload_n 1, 1) := by decide +kernel
theorem dX7_wordOf_2 : decode cX7_wordOf 2 = .ok (.invokevirtual 129, 3) := by decide +kernel
theorem dX7_wordOf_5 : decode cX7_wordOf 5 = .ok (.ifCond .eq 15, 3) := by decide +kernel
theorem dX7_wordOf_8 : decode cX7_wordOf 8 = .ok (.aload_n 0, 1) := by decide +kernel
theorem dX7_wordOf_9 : decode cX7_wordOf 9 = .ok (.getfield 7, 3) := by decide +kernel
theorem dX7_wordOf_12 : decode cX7_wordOf 12 = .ok (.bipush 97, 2) := by decide +kernel
theorem dX7_wordOf_14 : decode cX7_wordOf 14 = .ok (.iload_n 1, 1) := by decide +kernel
theorem dX7_wordOf_15 : decode cX7_wordOf 15 = .ok (.iadd, 1) := by decide +kernel
theorem dX7_wordOf_16 : decode cX7_wordOf 16 = .ok (.iaload, 1) := by decide +kernel
theorem dX7_wordOf_17 : decode cX7_wordOf 17 = .ok (.goto 5, 3) := by decide +kernel
theorem dX7_wordOf_20 : decode cX7_wordOf 20 = .ok (.ldc 80, 2) := by decide +kernel
theorem dX7_wordOf_22 : decode cX7_wordOf 22 = .ok (.ireturn, 1) := by decide +kernel
set_option maxHeartbeats 4000000 in
set_option maxRecDepth 100000 in
theorem c_X7_wordOf (g : sk_G) (l : Launch) (a1 : Int32) (M : sk_M) {rr : Int32} (h : f_X7_wordOf a1 M = some rr) : sk_MI g l yX7_wordOf cX7_wordOf 2 (some .int) 3 [.ref (sk_ad g 88), .int a1] M rr M := by
  refine sk_go [(0, .ref (sk_ad g 88)), (1, .int a1)] (by decide) (Nat.le_of_ble_eq_true rfl) rfl ?_
  intro p e s m av below meth c C ls hl hM hS
  obtain ⟨hx, hb, hml, hown, hts, hK, hE, hr, hlocks⟩ := id C
  rw [f_X7_wordOf] at h
  refine lv_aload_n hx hb dX7_wordOf_0 rfl (lv_at hl 0 rfl) ?_
  refine lv_iload_n hx hb dX7_wordOf_1 rfl (lv_at hl 1 rfl) ?_
  refine sk_contI (sk_runV (As := [.int a1]) (rest := []) C (c_X7_isSaid g l a1 M rfl) yo_X7_isSaid kw_1107 (sk_recv (ci := 7) C hM rfl rfl) (by decide) hM hS hl.1 rfl rfl (Nat.le_of_ble_eq_true rfl) dX7_wordOf_2) hS (fun H locs hM hS => ?_)
  refine lv_if_eq hx hb dX7_wordOf_5 rfl (fun hc => ?_) (fun hc => ?_)
  · have h := sk_pos h hc
    refine lv_ldc (v := (-1000000001)) hx hb hown (hts _ kw_1044) dX7_wordOf_20 ?_
    exact sk_iret C hM hS ⟨Option.some.inj h, rfl⟩ dX7_wordOf_22
  · have h := sk_neg h hc
    refine lv_aload_n hx hb dX7_wordOf_8 rfl (lv_at hl 0 rfl) ?_
    refine sk_getR (o := 88) (ci := 7) (j := 0) (t := 89) C hM rfl rfl (by decide) rfl rfl kw_935 dX7_wordOf_9 ?_
    refine lv_bipush (v := 97) hx hb dX7_wordOf_12 (by decide) ?_
    refine lv_iload_n hx hb dX7_wordOf_14 rfl (lv_at hl 1 rfl) ?_
    refine lv_iadd hx hb dX7_wordOf_15 ?_
    obtain ⟨i_2, h⟩ := sk_chkE h
    refine sk_iald (o := 89) C hM rfl i_2 dX7_wordOf_16 ?_
    refine lv_goto hx hb dX7_wordOf_17 rfl ?_
    exact sk_iret C hM hS ⟨Option.some.inj h, rfl⟩ dX7_wordOf_22
theorem dX7_deal_0 : decode cX7_deal 0 = .ok (.iload_n 1, 1) := by decide +kernel
theorem dX7_deal_1 : decode cX7_deal 1 = .ok (.i2l, 1) := by decide +kernel
theorem dX7_deal_2 : decode cX7_deal 2 = .ok (.lconst 1, 1) := by decide +kernel
theorem dX7_deal_3 : decode cX7_deal 3 = .ok (.ldc2_w 132, 3) := by decide +kernel
theorem dX7_deal_6 : decode cX7_deal 6 = .ok (.invokestatic 71, 3) := by decide +kernel
theorem dX7_deal_9 : decode cX7_deal 9 = .ok (.ifCond .ne 6, 3) := by decide +kernel
theorem dX7_deal_12 : decode cX7_deal 12 = .ok (.ldc 80, 2) := by decide +kernel
theorem dX7_deal_14 : decode cX7_deal 14 = .ok (.ireturn, 1) := by decide +kernel
theorem dX7_deal_15 : decode cX7_deal 15 = .ok (.iconst 0, 1) := by decide +kernel
theorem dX7_deal_16 : decode cX7_deal 16 = .ok (.istore_n 2, 1) := by decide +kernel
theorem dX7_deal_17 : decode cX7_deal 17 = .ok (.iload_n 2, 1) := by decide +kernel
theorem dX7_deal_18 : decode cX7_deal 18 = .ok (.iload_n 1, 1) := by decide +kernel
theorem dX7_deal_19 : decode cX7_deal 19 = .ok (.if_icmp .ge 40, 3) := by decide +kernel
theorem dX7_deal_22 : decode cX7_deal 22 = .ok (.aload_n 0, 1) := by decide +kernel
theorem dX7_deal_23 : decode cX7_deal 23 = .ok (.getfield 7, 3) := by decide +kernel
theorem dX7_deal_26 : decode cX7_deal 26 = .ok (.iconst 0, 1) := by decide +kernel
theorem dX7_deal_27 : decode cX7_deal 27 = .ok (.iaload, 1) := by decide +kernel
theorem dX7_deal_28 : decode cX7_deal 28 = .ok (.bipush 9, 2) := by decide +kernel
theorem dX7_deal_30 : decode cX7_deal 30 = .ok (.if_icmp .ge 29, 3) := by decide +kernel
theorem dX7_deal_33 : decode cX7_deal 33 = .ok (.aload_n 0, 1) := by decide +kernel
theorem dX7_deal_34 : decode cX7_deal 34 = .ok (.invokevirtual 134, 3) := by decide +kernel
theorem dX7_deal_37 : decode cX7_deal 37 = .ok (.bipush 6, 2) := by decide +kernel
theorem dX7_deal_39 : decode cX7_deal 39 = .ok (.irem, 1) := by decide +kernel
theorem dX7_deal_40 : decode cX7_deal 40 = .ok (.istore_n 3, 1) := by decide +kernel
theorem dX7_deal_41 : decode cX7_deal 41 = .ok (.aload_n 0, 1) := by decide +kernel
theorem dX7_deal_42 : decode cX7_deal 42 = .ok (.iload_n 3, 1) := by decide +kernel
theorem dX7_deal_43 : decode cX7_deal 43 = .ok (.aload_n 0, 1) := by decide +kernel
theorem dX7_deal_44 : decode cX7_deal 44 = .ok (.invokevirtual 134, 3) := by decide +kernel
theorem dX7_deal_47 : decode cX7_deal 47 = .ok (.bipush 51, 2) := by decide +kernel
theorem dX7_deal_49 : decode cX7_deal 49 = .ok (.irem, 1) := by decide +kernel
theorem dX7_deal_50 : decode cX7_deal 50 = .ok (.invokevirtual 82, 3) := by decide +kernel
theorem dX7_deal_53 : decode cX7_deal 53 = .ok (.iinc 2 1, 3) := by decide +kernel
theorem dX7_deal_56 : decode cX7_deal 56 = .ok (.goto (-39), 3) := by decide +kernel
theorem dX7_deal_59 : decode cX7_deal 59 = .ok (.iload_n 2, 1) := by decide +kernel
theorem dX7_deal_60 : decode cX7_deal 60 = .ok (.ireturn, 1) := by decide +kernel
set_option maxHeartbeats 4000000 in
set_option maxRecDepth 100000 in
theorem w_X7_deal_L17 {g : sk_G} {l : Launch} {p : Program} {e : Env} {s : State} {m : MethodId} {av : Array Value} {below : List Frame} {meth : Method} {c : Code} (C : sk_C g p s m av meth c cX7_deal 4 RX7 (some .int)) (a1 : Int32) {rr : Int32} {MM : sk_M} :
    ∀ (n : Nat) (a2 : Int32) (M : sk_M) (H : Heap) (locs : List Loc) (ls : Array Slot), lv_has ls 4 [(0, .ref (sk_ad g 88)), (1, .int a1), (2, .int a2)] → sk_P g M H → va_S (sk_A g) s.heap H locs → ∀ {out : Int32 × sk_M}, f_X7_deal_L17 a1 n a2 M = some out → (∀ (x2 : Int32) (M1 : sk_M) (H : Heap) (locs : List Loc) (ls : Array Slot), some (x2, M1) = some out → lv_has ls 4 [(2, .int x2)] → sk_P g M1 H → va_S (sk_A g) s.heap H locs → W p l e (sk_rm 2) s m av below meth c H locs 0 0 (MQ below (sk_QI g rr MM) av s 0 0 (sk_A g)) (F0 m 59 ls [])) → W p l e (sk_rm 2) s m av below meth c H locs 0 0 (MQ below (sk_QI g rr MM) av s 0 0 (sk_A g)) (F0 m 17 ls []) := by
  obtain ⟨hx, hb, hml, hown, hts, hK, hE, hr, hlocks⟩ := id C
  intro n
  induction n with
  | zero =>
    intro a2 M H locs ls hl hM hS out h
    cases h
  | succ n ih =>
    intro a2 M H locs ls hl hM hS out h kx
    rw [f_X7_deal_L17] at h
    refine lv_iload_n hx hb dX7_deal_17 rfl (lv_at hl 2 rfl) ?_
    refine lv_iload_n hx hb dX7_deal_18 rfl (lv_at hl 1 rfl) ?_
    refine lv_icmp_ge hx hb dX7_deal_19 rfl (fun hc => ?_) (fun hc => ?_)
    · have h := sk_pos h hc
      exact kx _ _ _ _ _ h (lv_sub hl [2] rfl) hM hS
    · have h := sk_neg h hc
      refine lv_aload_n hx hb dX7_deal_22 rfl (lv_at hl 0 rfl) ?_
      refine sk_getR (o := 88) (ci := 7) (j := 0) (t := 89) C hM rfl rfl (by decide) rfl rfl kw_935 dX7_deal_23 ?_
      refine lv_iconst (v := 0) hx hb dX7_deal_26 (by decide) ?_
      refine sk_iald (o := 89) C hM rfl (by decide) dX7_deal_27 ?_
      refine W.eq (g2 := F0 m 28 ls [.int (M 89 0)]) rfl ?_
      refine lv_bipush (v := 9) hx hb dX7_deal_28 (by decide) ?_
      refine lv_icmp_ge hx hb dX7_deal_30 rfl (fun hc => ?_) (fun hc => ?_)
      · have h := sk_pos h hc
        exact kx _ _ _ _ _ h (lv_sub hl [2] rfl) hM hS
      · have h := sk_neg h hc
        refine lv_aload_n hx hb dX7_deal_33 rfl (lv_at hl 0 rfl) ?_
        obtain ⟨x_2, M_3, h_4, h⟩ := sk_b2E h
        refine sk_contI (sk_runV (As := []) (rest := []) C (c_X7_drawn g l  M h_4) yo_X7_drawn kw_1116 (sk_recv (ci := 7) C hM rfl rfl) (by decide) hM hS hl.1 rfl rfl (Nat.le_of_ble_eq_true rfl) dX7_deal_34) hS (fun H locs hM hS => ?_)
        refine lv_bipush (v := 6) hx hb dX7_deal_37 (by decide) ?_
        refine lv_irem hx hb dX7_deal_39 (by decide) ?_
        refine lv_topi (fun x_5 ex_5 => ?_)
        have h := sk_letU h ex_5
        refine lv_istore_n (lv' := [(3, .int x_5), (0, .ref (sk_ad g 88)), (1, .int a1), (2, .int a2)]) hx hb dX7_deal_40 rfl hl (by decide) rfl (fun ls hl => ?_)
        refine lv_aload_n hx hb dX7_deal_41 rfl (lv_at hl 1 rfl) ?_
        refine lv_iload_n hx hb dX7_deal_42 rfl (lv_at hl 0 rfl) ?_
        refine lv_aload_n hx hb dX7_deal_43 rfl (lv_at hl 1 rfl) ?_
        obtain ⟨x_6, M_7, h_8, h⟩ := sk_b2E h
        refine sk_contI (sk_runV (As := []) (rest := [.int x_5, .ref (sk_ad g 88)]) C (c_X7_drawn g l  M_3 h_8) yo_X7_drawn kw_1116 (sk_recv (ci := 7) C hM rfl rfl) (by decide) hM hS hl.1 rfl rfl (Nat.le_of_ble_eq_true rfl) dX7_deal_44) hS (fun H locs hM hS => ?_)
        refine lv_bipush (v := 51) hx hb dX7_deal_47 (by decide) ?_
        refine lv_irem hx hb dX7_deal_49 (by decide) ?_
        obtain ⟨M_9, h_10, h⟩ := sk_b1E h
        refine sk_contV (sk_runV (As := [.int x_5, .int (x_6 - x_6 / 51 * 51)]) (rest := []) C (c_X7_comes g l x_5 (x_6 - x_6 / 51 * 51) M_7 h_10) yo_X7_comes kw_1046 (sk_recv (ci := 7) C hM rfl rfl) (by decide) hM hS hl.1 rfl rfl (Nat.le_of_ble_eq_true rfl) dX7_deal_50) hS (fun H locs hM hS => ?_)
        refine lv_iinc (v := (a2 + 1)) (lv' := [(2, .int (a2 + 1)), (3, .int x_5), (0, .ref (sk_ad g 88)), (1, .int a1)]) hx hb dX7_deal_53 hl (k := 3) rfl rfl (by decide) rfl (fun ls hl => ?_)
        refine lv_goto hx hb dX7_deal_56 rfl ?_
        exact ih (a2 + 1) M_9 _ _ _ (lv_sub hl [2, 3, 0] rfl) hM hS h kx
set_option maxHeartbeats 4000000 in
set_option maxRecDepth 100000 in
theorem c_X7_deal (g : sk_G) (l : Launch) (a1 : Int32) (M : sk_M) {rr : Int32} {MM : sk_M} (h : f_X7_deal a1 M = some (rr, MM)) : sk_MI g l yX7_deal cX7_deal 4 (some .int) 2 [.ref (sk_ad g 88), .int a1] M rr MM := by
  refine sk_go [(0, .ref (sk_ad g 88)), (1, .int a1)] (by decide) (Nat.le_of_ble_eq_true rfl) rfl ?_
  intro p e s m av below meth c C ls hl hM hS
  obtain ⟨hx, hb, hml, hown, hts, hK, hE, hr, hlocks⟩ := id C
  rw [f_X7_deal] at h
  refine lv_iload_n hx hb dX7_deal_0 rfl (lv_at hl 1 rfl) ?_
  refine lv_i2l (v := a1.toInt64) hx hb dX7_deal_1 rfl ?_
  refine lv_lconst (v := 1) hx hb dX7_deal_2 (by decide) ?_
  refine lv_ldc2 (v := 9) hx hb hown (hts _ kw_1115) dX7_deal_3 ?_
  refine sk_contI (sk_runS (As := [.long (a1.toInt64), .long 1, .long 9]) (rest := []) C (c_X7_isIn g l (a1.toInt64) 1 9 M rfl) yo_X7_isIn kw_1040 (by decide) hM hS hl.1 rfl rfl (Nat.le_of_ble_eq_true rfl) dX7_deal_6) hS (fun H locs hM hS => ?_)
  refine lv_if_ne hx hb dX7_deal_9 rfl (fun hc => ?_) (fun hc => ?_)
  · have h := sk_neg h hc
    refine lv_iconst (v := 0) hx hb dX7_deal_15 (by decide) ?_
    refine lv_istore_n (lv' := [(2, .int 0), (0, .ref (sk_ad g 88)), (1, .int a1)]) hx hb dX7_deal_16 rfl hl (by decide) rfl (fun ls hl => ?_)
    obtain ⟨x_11, M_12, h_13, h⟩ := sk_b2E h
    refine w_X7_deal_L17 C a1 sk_FU 0 M _ _ _ (lv_sub hl [1, 2, 0] rfl) hM hS h_13 (fun y_14 y_15 H locs ls he hl hM hS => ?_)
    obtain ⟨rfl, rfl⟩ := sk_e2 he
    refine lv_iload_n hx hb dX7_deal_59 rfl (lv_at hl 0 rfl) ?_
    exact sk_iret C hM hS (sk_e2 h) dX7_deal_60
  · have h := sk_pos h hc
    refine lv_ldc (v := (-1000000001)) hx hb hown (hts _ kw_1044) dX7_deal_12 ?_
    exact sk_iret C hM hS (sk_e2 h) dX7_deal_14
theorem dX7_seed_0 : decode cX7_seed 0 = .ok (.aload_n 0, 1) := by decide +kernel
theorem dX7_seed_1 : decode cX7_seed 1 = .ok (.iconst 5, 1) := by decide +kernel
theorem dX7_seed_2 : decode cX7_seed 2 = .ok (.iload_n 1, 1) := by decide +kernel
theorem dX7_seed_3 : decode cX7_seed 3 = .ok (.invokevirtual 121, 3) := by decide +kernel
theorem dX7_seed_6 : decode cX7_seed 6 = .ok (.ireturn, 1) := by decide +kernel
set_option maxHeartbeats 4000000 in
set_option maxRecDepth 100000 in
theorem c_X7_seed (g : sk_G) (l : Launch) (a1 : Int32) (M : sk_M) {rr : Int32} {MM : sk_M} (h : f_X7_seed a1 M = some (rr, MM)) : sk_MI g l yX7_seed cX7_seed 2 (some .int) 2 [.ref (sk_ad g 88), .int a1] M rr MM := by
  refine sk_go [(0, .ref (sk_ad g 88)), (1, .int a1)] (by decide) (Nat.le_of_ble_eq_true rfl) rfl ?_
  intro p e s m av below meth c C ls hl hM hS
  obtain ⟨hx, hb, hml, hown, hts, hK, hE, hr, hlocks⟩ := id C
  rw [f_X7_seed] at h
  refine lv_aload_n hx hb dX7_seed_0 rfl (lv_at hl 0 rfl) ?_
  refine lv_iconst (v := 5) hx hb dX7_seed_1 (by decide) ?_
  refine lv_iload_n hx hb dX7_seed_2 rfl (lv_at hl 1 rfl) ?_
  obtain ⟨x_1, M_2, h_3, h⟩ := sk_b2E h
  refine sk_contI (sk_runV (As := [.int 5, .int a1]) (rest := []) C (c_X7_becomes g l 5 a1 M h_3) yo_X7_becomes kw_1079 (sk_recv (ci := 7) C hM rfl rfl) (by decide) hM hS hl.1 rfl rfl (Nat.le_of_ble_eq_true rfl) dX7_seed_3) hS (fun H locs hM hS => ?_)
  exact sk_iret C hM hS (sk_e2 h) dX7_seed_6
theorem dX7_cloth_0 : decode cX7_cloth 0 = .ok (.aload_n 0, 1) := by decide +kernel
theorem dX7_cloth_1 : decode cX7_cloth 1 = .ok (.getfield 7, 3) := by decide +kernel
theorem dX7_cloth_4 : decode cX7_cloth 4 = .ok (.iconst 1, 1) := by decide +kernel
theorem dX7_cloth_5 : decode cX7_cloth 5 = .ok (.iaload, 1) := by decide +kernel
theorem dX7_cloth_6 : decode cX7_cloth 6 = .ok (.bipush 6, 2) := by decide +kernel
theorem dX7_cloth_8 : decode cX7_cloth 8 = .ok (.if_icmp .ne 6, 3) := by decide +kernel
theorem dX7_cloth_11 : decode cX7_cloth 11 = .ok (.ldc 81, 2) := by decide +kernel
theorem dX7_cloth_13 : decode cX7_cloth 13 = .ok (.ireturn, 1) := by decide +kernel
theorem dX7_cloth_14 : decode cX7_cloth 14 = .ok (.aload_n 0, 1) := by decide +kernel
theorem dX7_cloth_15 : decode cX7_cloth 15 = .ok (.getfield 7, 3) := by decide +kernel
theorem dX7_cloth_18 : decode cX7_cloth 18 = .ok (.iconst 1, 1) := by decide +kernel
theorem dX7_cloth_19 : decode cX7_cloth 19 = .ok (.iaload, 1) := by decide +kernel
theorem dX7_cloth_20 : decode cX7_cloth 20 = .ok (.istore_n 1, 1) := by decide +kernel
theorem dX7_cloth_21 : decode cX7_cloth 21 = .ok (.aload_n 0, 1) := by decide +kernel
theorem dX7_cloth_22 : decode cX7_cloth 22 = .ok (.getfield 7, 3) := by decide +kernel
theorem dX7_cloth_25 : decode cX7_cloth 25 = .ok (.bipush 37, 2) := by decide +kernel
theorem dX7_cloth_27 : decode cX7_cloth 27 = .ok (.iload_n 1, 1) := by decide +kernel
theorem dX7_cloth_28 : decode cX7_cloth 28 = .ok (.iadd, 1) := by decide +kernel
theorem dX7_cloth_29 : decode cX7_cloth 29 = .ok (.iconst 0, 1) := by decide +kernel
theorem dX7_cloth_30 : decode cX7_cloth 30 = .ok (.iastore, 1) := by decide +kernel
theorem dX7_cloth_31 : decode cX7_cloth 31 = .ok (.iconst 0, 1) := by decide +kernel
theorem dX7_cloth_32 : decode cX7_cloth 32 = .ok (.istore_n 2, 1) := by decide +kernel
theorem dX7_cloth_33 : decode cX7_cloth 33 = .ok (.iload_n 2, 1) := by decide +kernel
theorem dX7_cloth_34 : decode cX7_cloth 34 = .ok (.bipush 9, 2) := by decide +kernel
theorem dX7_cloth_36 : decode cX7_cloth 36 = .ok (.if_icmp .ge 24, 3) := by decide +kernel
theorem dX7_cloth_39 : decode cX7_cloth 39 = .ok (.aload_n 0, 1) := by decide +kernel
theorem dX7_cloth_40 : decode cX7_cloth 40 = .ok (.getfield 7, 3) := by decide +kernel
theorem dX7_cloth_43 : decode cX7_cloth 43 = .ok (.bipush 43, 2) := by decide +kernel
theorem dX7_cloth_45 : decode cX7_cloth 45 = .ok (.bipush 9, 2) := by decide +kernel
theorem dX7_cloth_47 : decode cX7_cloth 47 = .ok (.iload_n 1, 1) := by decide +kernel
theorem dX7_cloth_48 : decode cX7_cloth 48 = .ok (.imul, 1) := by decide +kernel
theorem dX7_cloth_49 : decode cX7_cloth 49 = .ok (.iadd, 1) := by decide +kernel
theorem dX7_cloth_50 : decode cX7_cloth 50 = .ok (.iload_n 2, 1) := by decide +kernel
theorem dX7_cloth_51 : decode cX7_cloth 51 = .ok (.iadd, 1) := by decide +kernel
theorem dX7_cloth_52 : decode cX7_cloth 52 = .ok (.iconst 0, 1) := by decide +kernel
theorem dX7_cloth_53 : decode cX7_cloth 53 = .ok (.iastore, 1) := by decide +kernel
theorem dX7_cloth_54 : decode cX7_cloth 54 = .ok (.iinc 2 1, 3) := by decide +kernel
theorem dX7_cloth_57 : decode cX7_cloth 57 = .ok (.goto (-24), 3) := by decide +kernel
theorem dX7_cloth_60 : decode cX7_cloth 60 = .ok (.aload_n 0, 1) := by decide +kernel
theorem dX7_cloth_61 : decode cX7_cloth 61 = .ok (.getfield 7, 3) := by decide +kernel
theorem dX7_cloth_64 : decode cX7_cloth 64 = .ok (.iconst 1, 1) := by decide +kernel
theorem dX7_cloth_65 : decode cX7_cloth 65 = .ok (.dup2, 1) := by decide +kernel
theorem dX7_cloth_66 : decode cX7_cloth 66 = .ok (.iaload, 1) := by decide +kernel
theorem dX7_cloth_67 : decode cX7_cloth 67 = .ok (.iconst 1, 1) := by decide +kernel
theorem dX7_cloth_68 : decode cX7_cloth 68 = .ok (.iadd, 1) := by decide +kernel
theorem dX7_cloth_69 : decode cX7_cloth 69 = .ok (.iastore, 1) := by decide +kernel
theorem dX7_cloth_70 : decode cX7_cloth 70 = .ok (.iload_n 1, 1) := by decide +kernel
theorem dX7_cloth_71 : decode cX7_cloth 71 = .ok (.ireturn, 1) := by decide +kernel
set_option maxHeartbeats 4000000 in
set_option maxRecDepth 100000 in
theorem w_X7_cloth_L33 {g : sk_G} {l : Launch} {p : Program} {e : Env} {s : State} {m : MethodId} {av : Array Value} {below : List Frame} {meth : Method} {c : Code} (C : sk_C g p s m av meth c cX7_cloth 3 RX7 (some .int)) (a1 : Int32) {rr : Int32} {MM : sk_M} :
    ∀ (n : Nat) (a2 : Int32) (M : sk_M) (H : Heap) (locs : List Loc) (ls : Array Slot), lv_has ls 3 [(0, .ref (sk_ad g 88)), (1, .int a1), (2, .int a2)] → sk_P g M H → va_S (sk_A g) s.heap H locs → ∀ {out : sk_M}, f_X7_cloth_L33 a1 n a2 M = some out → (∀ (M1 : sk_M) (H : Heap) (locs : List Loc) (ls : Array Slot), some M1 = some out → lv_has ls 3 [(0, .ref (sk_ad g 88)), (1, .int a1)] → sk_P g M1 H → va_S (sk_A g) s.heap H locs → W p l e (sk_rm 1) s m av below meth c H locs 0 0 (MQ below (sk_QI g rr MM) av s 0 0 (sk_A g)) (F0 m 60 ls [])) → W p l e (sk_rm 1) s m av below meth c H locs 0 0 (MQ below (sk_QI g rr MM) av s 0 0 (sk_A g)) (F0 m 33 ls []) := by
  obtain ⟨hx, hb, hml, hown, hts, hK, hE, hr, hlocks⟩ := id C
  intro n
  induction n with
  | zero =>
    intro a2 M H locs ls hl hM hS out h
    cases h
  | succ n ih =>
    intro a2 M H locs ls hl hM hS out h kx
    rw [f_X7_cloth_L33] at h
    refine lv_iload_n hx hb dX7_cloth_33 rfl (lv_at hl 2 rfl) ?_
    refine lv_bipush (v := 9) hx hb dX7_cloth_34 (by decide) ?_
    refine lv_icmp_ge hx hb dX7_cloth_36 rfl (fun hc => ?_) (fun hc => ?_)
    · have h := sk_pos h hc
      exact kx _ _ _ _ h (lv_sub hl [0, 1] rfl) hM hS
    · have h := sk_neg h hc
      refine lv_aload_n hx hb dX7_cloth_39 rfl (lv_at hl 0 rfl) ?_
      refine sk_getR (o := 88) (ci := 7) (j := 0) (t := 89) C hM rfl rfl (by decide) rfl rfl kw_935 dX7_cloth_40 ?_
      refine lv_bipush (v := 43) hx hb dX7_cloth_43 (by decide) ?_
      refine lv_bipush (v := 9) hx hb dX7_cloth_45 (by decide) ?_
      refine lv_iload_n hx hb dX7_cloth_47 rfl (lv_at hl 1 rfl) ?_
      refine lv_imul hx hb dX7_cloth_48 ?_
      refine lv_iadd hx hb dX7_cloth_49 ?_
      refine lv_iload_n hx hb dX7_cloth_50 rfl (lv_at hl 2 rfl) ?_
      refine lv_iadd hx hb dX7_cloth_51 ?_
      refine lv_iconst (v := 0) hx hb dX7_cloth_52 (by decide) ?_
      obtain ⟨i_4, h⟩ := sk_chkE h
      refine sk_iast (o := 89) C hM hS rfl i_4 dX7_cloth_53 (fun M_5 eM_5 H locs hM hS => ?_)
      have h := sk_letU h eM_5
      refine lv_iinc (v := (a2 + 1)) (lv' := [(2, .int (a2 + 1)), (0, .ref (sk_ad g 88)), (1, .int a1)]) hx hb dX7_cloth_54 hl (k := 2) rfl rfl (by decide) rfl (fun ls hl => ?_)
      refine lv_goto hx hb dX7_cloth_57 rfl ?_
      exact ih (a2 + 1) M_5 _ _ _ (lv_sub hl [1, 2, 0] rfl) hM hS h kx
set_option maxHeartbeats 4000000 in
set_option maxRecDepth 100000 in
theorem c_X7_cloth (g : sk_G) (l : Launch)  (M : sk_M) {rr : Int32} {MM : sk_M} (h : f_X7_cloth M = some (rr, MM)) : sk_MI g l yX7_cloth cX7_cloth 3 (some .int) 1 [.ref (sk_ad g 88)] M rr MM := by
  refine sk_go [(0, .ref (sk_ad g 88))] (by decide) (Nat.le_of_ble_eq_true rfl) rfl ?_
  intro p e s m av below meth c C ls hl hM hS
  obtain ⟨hx, hb, hml, hown, hts, hK, hE, hr, hlocks⟩ := id C
  rw [f_X7_cloth] at h
  refine lv_aload_n hx hb dX7_cloth_0 rfl (lv_at hl 0 rfl) ?_
  refine sk_getR (o := 88) (ci := 7) (j := 0) (t := 89) C hM rfl rfl (by decide) rfl rfl kw_935 dX7_cloth_1 ?_
  refine lv_iconst (v := 1) hx hb dX7_cloth_4 (by decide) ?_
  refine sk_iald (o := 89) C hM rfl (by decide) dX7_cloth_5 ?_
  refine W.eq (g2 := F0 m 6 ls [.int (M 89 1)]) rfl ?_
  refine lv_bipush (v := 6) hx hb dX7_cloth_6 (by decide) ?_
  refine lv_icmp_ne hx hb dX7_cloth_8 rfl (fun hc => ?_) (fun hc => ?_)
  · have h := sk_neg h hc
    refine lv_aload_n hx hb dX7_cloth_14 rfl (lv_at hl 0 rfl) ?_
    refine sk_getR (o := 88) (ci := 7) (j := 0) (t := 89) C hM rfl rfl (by decide) rfl rfl kw_935 dX7_cloth_15 ?_
    refine lv_iconst (v := 1) hx hb dX7_cloth_18 (by decide) ?_
    refine sk_iald (o := 89) C hM rfl (by decide) dX7_cloth_19 ?_
    refine W.eq (g2 := F0 m 20 ls [.int (M 89 1)]) rfl ?_
    refine lv_topi (fun x_1 ex_1 => ?_)
    have h := sk_letU h ex_1
    refine lv_istore_n (lv' := [(1, .int x_1), (0, .ref (sk_ad g 88))]) hx hb dX7_cloth_20 rfl hl (by decide) rfl (fun ls hl => ?_)
    refine lv_aload_n hx hb dX7_cloth_21 rfl (lv_at hl 1 rfl) ?_
    refine sk_getR (o := 88) (ci := 7) (j := 0) (t := 89) C hM rfl rfl (by decide) rfl rfl kw_935 dX7_cloth_22 ?_
    refine lv_bipush (v := 37) hx hb dX7_cloth_25 (by decide) ?_
    refine lv_iload_n hx hb dX7_cloth_27 rfl (lv_at hl 0 rfl) ?_
    refine lv_iadd hx hb dX7_cloth_28 ?_
    refine lv_iconst (v := 0) hx hb dX7_cloth_29 (by decide) ?_
    obtain ⟨i_2, h⟩ := sk_chkE h
    refine sk_iast (o := 89) C hM hS rfl i_2 dX7_cloth_30 (fun M_3 eM_3 H locs hM hS => ?_)
    have h := sk_letU h eM_3
    refine lv_iconst (v := 0) hx hb dX7_cloth_31 (by decide) ?_
    refine lv_istore_n (lv' := [(2, .int 0), (1, .int x_1), (0, .ref (sk_ad g 88))]) hx hb dX7_cloth_32 rfl hl (by decide) rfl (fun ls hl => ?_)
    obtain ⟨M_6, h_8, h⟩ := sk_b1E h
    refine w_X7_cloth_L33 C x_1 sk_FU 0 M_3 _ _ _ (lv_sub hl [2, 1, 0] rfl) hM hS h_8 (fun y_9 H locs ls he hl hM hS => ?_)
    obtain rfl := Option.some.inj he
    refine lv_aload_n hx hb dX7_cloth_60 rfl (lv_at hl 0 rfl) ?_
    refine sk_getR (o := 88) (ci := 7) (j := 0) (t := 89) C hM rfl rfl (by decide) rfl rfl kw_935 dX7_cloth_61 ?_
    refine lv_iconst (v := 1) hx hb dX7_cloth_64 (by decide) ?_
    refine lv_dup2_11 hx hb dX7_cloth_65 rfl rfl ?_
    refine sk_iald (o := 89) C hM rfl (by decide) dX7_cloth_66 ?_
    refine W.eq (g2 := F0 m 67 ls [.int (y_9 89 1), .int 1, .ref (sk_ad g 89)]) rfl ?_
    refine lv_iconst (v := 1) hx hb dX7_cloth_67 (by decide) ?_
    refine lv_iadd hx hb dX7_cloth_68 ?_
    refine sk_iast (o := 89) C hM hS rfl (by decide) dX7_cloth_69 (fun M_7 eM_7 H locs hM hS => ?_)
    have h := sk_letU h eM_7
    refine lv_iload_n hx hb dX7_cloth_70 rfl (lv_at hl 1 rfl) ?_
    exact sk_iret C hM hS (sk_e2 h) dX7_cloth_71
  · have h := sk_pos h hc
    refine lv_ldc (v := (-1000000003)) hx hb hown (hts _ kw_1045) dX7_cloth_11 ?_
    exact sk_iret C hM hS (sk_e2 h) dX7_cloth_13
theorem dX7_strength_0 : decode cX7_strength 0 = .ok (.aload_n 0, 1) := by decide +kernel
theorem dX7_strength_1 : decode cX7_strength 1 = .ok (.iload_n 1, 1) := by decide +kernel
theorem dX7_strength_2 : decode cX7_strength 2 = .ok (.invokevirtual 138, 3) := by decide +kernel
theorem dX7_strength_5 : decode cX7_strength 5 = .ok (.ifCond .eq 20, 3) := by decide +kernel
theorem dX7_strength_8 : decode cX7_strength 8 = .ok (.aload_n 0, 1) := by decide +kernel
theorem dX7_strength_9 : decode cX7_strength 9 = .ok (.iload_n 2, 1) := by decide +kernel
theorem dX7_strength_10 : decode cX7_strength 10 = .ok (.invokevirtual 107, 3) := by decide +kernel
theorem dX7_strength_13 : decode cX7_strength 13 = .ok (.ifCond .eq 12, 3) := by decide +kernel
theorem dX7_strength_16 : decode cX7_strength 16 = .ok (.aload_n 0, 1) := by decide +kernel
theorem dX7_strength_17 : decode cX7_strength 17 = .ok (.iload_n 1, 1) := by decide +kernel
theorem dX7_strength_18 : decode cX7_strength 18 = .ok (.iload_n 2, 1) := by decide +kernel
theorem dX7_strength_19 : decode cX7_strength 19 = .ok (.invokevirtual 100, 3) := by decide +kernel
theorem dX7_strength_22 : decode cX7_strength 22 = .ok (.goto 5, 3) := by decide +kernel
theorem dX7_strength_25 : decode cX7_strength 25 = .ok (.ldc 80, 2) := by decide +kernel
theorem dX7_strength_27 : decode cX7_strength 27 = .ok (.ireturn, 1) := by decide +kernel
set_option maxHeartbeats 4000000 in
set_option maxRecDepth 100000 in
theorem c_X7_strength (g : sk_G) (l : Launch) (a1 : Int32) (a2 : Int32) (M : sk_M) {rr : Int32} (h : f_X7_strength a1 a2 M = some rr) : sk_MI g l yX7_strength cX7_strength 3 (some .int) 3 [.ref (sk_ad g 88), .int a1, .int a2] M rr M := by
  refine sk_go [(0, .ref (sk_ad g 88)), (1, .int a1), (2, .int a2)] (by decide) (Nat.le_of_ble_eq_true rfl) rfl ?_
  intro p e s m av below meth c C ls hl hM hS
  obtain ⟨hx, hb, hml, hown, hts, hK, hE, hr, hlocks⟩ := id C
  rw [f_X7_strength] at h
  refine lv_aload_n hx hb dX7_strength_0 rfl (lv_at hl 0 rfl) ?_
  refine lv_iload_n hx hb dX7_strength_1 rfl (lv_at hl 1 rfl) ?_
  refine sk_contI (sk_runV (As := [.int a1]) (rest := []) C (c_X7_isCloth g l a1 M rfl) yo_X7_isCloth kw_1133 (sk_recv (ci := 7) C hM rfl rfl) (by decide) hM hS hl.1 rfl rfl (Nat.le_of_ble_eq_true rfl) dX7_strength_2) hS (fun H locs hM hS => ?_)
  refine lv_if_eq hx hb dX7_strength_5 rfl (fun hc => ?_) (fun hc => ?_)
  · have h := sk_pos h hc
    refine lv_ldc (v := (-1000000001)) hx hb hown (hts _ kw_1044) dX7_strength_25 ?_
    exact sk_iret C hM hS ⟨Option.some.inj h, rfl⟩ dX7_strength_27
  · have h := sk_neg h hc
    refine lv_aload_n hx hb dX7_strength_8 rfl (lv_at hl 0 rfl) ?_
    refine lv_iload_n hx hb dX7_strength_9 rfl (lv_at hl 2 rfl) ?_
    refine sk_contI (sk_runV (As := [.int a2]) (rest := []) C (c_X7_isScent g l a2 M rfl) yo_X7_isScent kw_1054 (sk_recv (ci := 7) C hM rfl rfl) (by decide) hM hS hl.1 rfl rfl (Nat.le_of_ble_eq_true rfl) dX7_strength_10) hS (fun H locs hM hS => ?_)
    refine lv_if_eq hx hb dX7_strength_13 rfl (fun hc => ?_) (fun hc => ?_)
    · have h := sk_pos h hc
      refine lv_ldc (v := (-1000000001)) hx hb hown (hts _ kw_1044) dX7_strength_25 ?_
      exact sk_iret C hM hS ⟨Option.some.inj h, rfl⟩ dX7_strength_27
    · have h := sk_neg h hc
      refine lv_aload_n hx hb dX7_strength_16 rfl (lv_at hl 0 rfl) ?_
      refine lv_iload_n hx hb dX7_strength_17 rfl (lv_at hl 1 rfl) ?_
      refine lv_iload_n hx hb dX7_strength_18 rfl (lv_at hl 2 rfl) ?_
      obtain ⟨x_3, h_4, h⟩ := sk_b1E h
      refine sk_contI (sk_runV (As := [.int a1, .int a2]) (rest := []) C (c_X7_on g l a1 a2 M h_4) yo_X7_on kw_1137 (sk_recv (ci := 7) C hM rfl rfl) (by decide) hM hS hl.1 rfl rfl (Nat.le_of_ble_eq_true rfl) dX7_strength_19) hS (fun H locs hM hS => ?_)
      refine lv_goto hx hb dX7_strength_22 rfl ?_
      exact sk_iret C hM hS ⟨Option.some.inj h, rfl⟩ dX7_strength_27
theorem dX7_loses_0 : decode cX7_loses 0 = .ok (.aload_n 0, 1) := by decide +kernel
theorem dX7_loses_1 : decode cX7_loses 1 = .ok (.iload_n 1, 1) := by decide +kernel
theorem dX7_loses_2 : decode cX7_loses 2 = .ok (.invokevirtual 138, 3) := by decide +kernel
theorem dX7_loses_5 : decode cX7_loses 5 = .ok (.ifCond .eq 20, 3) := by decide +kernel
theorem dX7_loses_8 : decode cX7_loses 8 = .ok (.aload_n 0, 1) := by decide +kernel
theorem dX7_loses_9 : decode cX7_loses 9 = .ok (.iload_n 2, 1) := by decide +kernel
theorem dX7_loses_10 : decode cX7_loses 10 = .ok (.invokevirtual 107, 3) := by decide +kernel
theorem dX7_loses_13 : decode cX7_loses 13 = .ok (.ifCond .eq 12, 3) := by decide +kernel
theorem dX7_loses_16 : decode cX7_loses 16 = .ok (.aload_n 0, 1) := by decide +kernel
theorem dX7_loses_17 : decode cX7_loses 17 = .ok (.iload_n 1, 1) := by decide +kernel
theorem dX7_loses_18 : decode cX7_loses 18 = .ok (.iload_n 2, 1) := by decide +kernel
theorem dX7_loses_19 : decode cX7_loses 19 = .ok (.invokevirtual 141, 3) := by decide +kernel
theorem dX7_loses_22 : decode cX7_loses 22 = .ok (.goto 5, 3) := by decide +kernel
theorem dX7_loses_25 : decode cX7_loses 25 = .ok (.ldc 80, 2) := by decide +kernel
theorem dX7_loses_27 : decode cX7_loses 27 = .ok (.ireturn, 1) := by decide +kernel
set_option maxHeartbeats 4000000 in
set_option maxRecDepth 100000 in
theorem c_X7_loses (g : sk_G) (l : Launch) (a1 : Int32) (a2 : Int32) (M : sk_M) {rr : Int32} {MM : sk_M} (h : f_X7_loses a1 a2 M = some (rr, MM)) : sk_MI g l yX7_loses cX7_loses 3 (some .int) 5 [.ref (sk_ad g 88), .int a1, .int a2] M rr MM := by
  refine sk_go [(0, .ref (sk_ad g 88)), (1, .int a1), (2, .int a2)] (by decide) (Nat.le_of_ble_eq_true rfl) rfl ?_
  intro p e s m av below meth c C ls hl hM hS
  obtain ⟨hx, hb, hml, hown, hts, hK, hE, hr, hlocks⟩ := id C
  rw [f_X7_loses] at h
  refine lv_aload_n hx hb dX7_loses_0 rfl (lv_at hl 0 rfl) ?_
  refine lv_iload_n hx hb dX7_loses_1 rfl (lv_at hl 1 rfl) ?_
  refine sk_contI (sk_runV (As := [.int a1]) (rest := []) C (c_X7_isCloth g l a1 M rfl) yo_X7_isCloth kw_1133 (sk_recv (ci := 7) C hM rfl rfl) (by decide) hM hS hl.1 rfl rfl (Nat.le_of_ble_eq_true rfl) dX7_loses_2) hS (fun H locs hM hS => ?_)
  refine lv_if_eq hx hb dX7_loses_5 rfl (fun hc => ?_) (fun hc => ?_)
  · have h := sk_pos h hc
    refine lv_ldc (v := (-1000000001)) hx hb hown (hts _ kw_1044) dX7_loses_25 ?_
    exact sk_iret C hM hS (sk_e2 h) dX7_loses_27
  · have h := sk_neg h hc
    refine lv_aload_n hx hb dX7_loses_8 rfl (lv_at hl 0 rfl) ?_
    refine lv_iload_n hx hb dX7_loses_9 rfl (lv_at hl 2 rfl) ?_
    refine sk_contI (sk_runV (As := [.int a2]) (rest := []) C (c_X7_isScent g l a2 M rfl) yo_X7_isScent kw_1054 (sk_recv (ci := 7) C hM rfl rfl) (by decide) hM hS hl.1 rfl rfl (Nat.le_of_ble_eq_true rfl) dX7_loses_10) hS (fun H locs hM hS => ?_)
    refine lv_if_eq hx hb dX7_loses_13 rfl (fun hc => ?_) (fun hc => ?_)
    · have h := sk_pos h hc
      refine lv_ldc (v := (-1000000001)) hx hb hown (hts _ kw_1044) dX7_loses_25 ?_
      exact sk_iret C hM hS (sk_e2 h) dX7_loses_27
    · have h := sk_neg h hc
      refine lv_aload_n hx hb dX7_loses_16 rfl (lv_at hl 0 rfl) ?_
      refine lv_iload_n hx hb dX7_loses_17 rfl (lv_at hl 1 rfl) ?_
      refine lv_iload_n hx hb dX7_loses_18 rfl (lv_at hl 2 rfl) ?_
      obtain ⟨x_3, M_4, h_5, h⟩ := sk_b2E h
      refine sk_contI (sk_runV (As := [.int a1, .int a2]) (rest := []) C (c_X7_losesOn g l a1 a2 M h_5) yo_X7_losesOn kw_1145 (sk_recv (ci := 7) C hM rfl rfl) (by decide) hM hS hl.1 rfl rfl (Nat.le_of_ble_eq_true rfl) dX7_loses_19) hS (fun H locs hM hS => ?_)
      refine lv_goto hx hb dX7_loses_22 rfl ?_
      exact sk_iret C hM hS (sk_e2 h) dX7_loses_27
theorem dX7_dab_0 : decode cX7_dab 0 = .ok (.aload_n 0, 1) := by decide +kernel
theorem dX7_dab_1 : decode cX7_dab 1 = .ok (.iload_n 1, 1) := by decide +kernel
theorem dX7_dab_2 : decode cX7_dab 2 = .ok (.invokevirtual 138, 3) := by decide +kernel
theorem dX7_dab_5 : decode cX7_dab 5 = .ok (.ifCond .eq 25, 3) := by decide +kernel
theorem dX7_dab_8 : decode cX7_dab 8 = .ok (.aload_n 0, 1) := by decide +kernel
theorem dX7_dab_9 : decode cX7_dab 9 = .ok (.iload_n 2, 1) := by decide +kernel
theorem dX7_dab_10 : decode cX7_dab 10 = .ok (.invokevirtual 107, 3) := by decide +kernel
theorem dX7_dab_13 : decode cX7_dab 13 = .ok (.ifCond .eq 17, 3) := by decide +kernel
theorem dX7_dab_16 : decode cX7_dab 16 = .ok (.iload_n 3, 1) := by decide +kernel
theorem dX7_dab_17 : decode cX7_dab 17 = .ok (.i2l, 1) := by decide +kernel
theorem dX7_dab_18 : decode cX7_dab 18 = .ok (.ldc2_w 144, 3) := by decide +kernel
theorem dX7_dab_21 : decode cX7_dab 21 = .ok (.ldc2_w 127, 3) := by decide +kernel
theorem dX7_dab_24 : decode cX7_dab 24 = .ok (.invokestatic 71, 3) := by decide +kernel
theorem dX7_dab_27 : decode cX7_dab 27 = .ok (.ifCond .ne 6, 3) := by decide +kernel
theorem dX7_dab_30 : decode cX7_dab 30 = .ok (.ldc 80, 2) := by decide +kernel
theorem dX7_dab_32 : decode cX7_dab 32 = .ok (.ireturn, 1) := by decide +kernel
theorem dX7_dab_33 : decode cX7_dab 33 = .ok (.aload_n 0, 1) := by decide +kernel
theorem dX7_dab_34 : decode cX7_dab 34 = .ok (.iload_n 1, 1) := by decide +kernel
theorem dX7_dab_35 : decode cX7_dab 35 = .ok (.iload_n 2, 1) := by decide +kernel
theorem dX7_dab_36 : decode cX7_dab 36 = .ok (.invokevirtual 100, 3) := by decide +kernel
theorem dX7_dab_39 : decode cX7_dab 39 = .ok (.iload_n 3, 1) := by decide +kernel
theorem dX7_dab_40 : decode cX7_dab 40 = .ok (.iadd, 1) := by decide +kernel
theorem dX7_dab_41 : decode cX7_dab 41 = .ok (.sipush 999, 3) := by decide +kernel
theorem dX7_dab_44 : decode cX7_dab 44 = .ok (.invokestatic 97, 3) := by decide +kernel
theorem dX7_dab_47 : decode cX7_dab 47 = .ok (.istore 4, 2) := by decide +kernel
theorem dX7_dab_49 : decode cX7_dab 49 = .ok (.aload_n 0, 1) := by decide +kernel
theorem dX7_dab_50 : decode cX7_dab 50 = .ok (.getfield 7, 3) := by decide +kernel
theorem dX7_dab_53 : decode cX7_dab 53 = .ok (.bipush 43, 2) := by decide +kernel
theorem dX7_dab_55 : decode cX7_dab 55 = .ok (.bipush 9, 2) := by decide +kernel
theorem dX7_dab_57 : decode cX7_dab 57 = .ok (.iload_n 1, 1) := by decide +kernel
theorem dX7_dab_58 : decode cX7_dab 58 = .ok (.imul, 1) := by decide +kernel
theorem dX7_dab_59 : decode cX7_dab 59 = .ok (.iadd, 1) := by decide +kernel
theorem dX7_dab_60 : decode cX7_dab 60 = .ok (.iload_n 2, 1) := by decide +kernel
theorem dX7_dab_61 : decode cX7_dab 61 = .ok (.iadd, 1) := by decide +kernel
theorem dX7_dab_62 : decode cX7_dab 62 = .ok (.iload 4, 2) := by decide +kernel
theorem dX7_dab_64 : decode cX7_dab 64 = .ok (.iastore, 1) := by decide +kernel
theorem dX7_dab_65 : decode cX7_dab 65 = .ok (.iload 4, 2) := by decide +kernel
theorem dX7_dab_67 : decode cX7_dab 67 = .ok (.ireturn, 1) := by decide +kernel
set_option maxHeartbeats 4000000 in
set_option maxRecDepth 100000 in
theorem c_X7_dab (g : sk_G) (l : Launch) (a1 : Int32) (a2 : Int32) (a3 : Int32) (M : sk_M) {rr : Int32} {MM : sk_M} (h : f_X7_dab a1 a2 a3 M = some (rr, MM)) : sk_MI g l yX7_dab cX7_dab 5 (some .int) 3 [.ref (sk_ad g 88), .int a1, .int a2, .int a3] M rr MM := by
  refine sk_go [(0, .ref (sk_ad g 88)), (1, .int a1), (2, .int a2), (3, .int a3)] (by decide) (Nat.le_of_ble_eq_true rfl) rfl ?_
  intro p e s m av below meth c C ls hl hM hS
  obtain ⟨hx, hb, hml, hown, hts, hK, hE, hr, hlocks⟩ := id C
  rw [f_X7_dab] at h
  refine lv_aload_n hx hb dX7_dab_0 rfl (lv_at hl 0 rfl) ?_
  refine lv_iload_n hx hb dX7_dab_1 rfl (lv_at hl 1 rfl) ?_
  refine sk_contI (sk_runV (As := [.int a1]) (rest := []) C (c_X7_isCloth g l a1 M rfl) yo_X7_isCloth kw_1133 (sk_recv (ci := 7) C hM rfl rfl) (by decide) hM hS hl.1 rfl rfl (Nat.le_of_ble_eq_true rfl) dX7_dab_2) hS (fun H locs hM hS => ?_)
  refine lv_if_eq hx hb dX7_dab_5 rfl (fun hc => ?_) (fun hc => ?_)
  · have h := sk_pos h hc
    refine lv_ldc (v := (-1000000001)) hx hb hown (hts _ kw_1044) dX7_dab_30 ?_
    exact sk_iret C hM hS (sk_e2 h) dX7_dab_32
  · have h := sk_neg h hc
    refine lv_aload_n hx hb dX7_dab_8 rfl (lv_at hl 0 rfl) ?_
    refine lv_iload_n hx hb dX7_dab_9 rfl (lv_at hl 2 rfl) ?_
    refine sk_contI (sk_runV (As := [.int a2]) (rest := []) C (c_X7_isScent g l a2 M rfl) yo_X7_isScent kw_1054 (sk_recv (ci := 7) C hM rfl rfl) (by decide) hM hS hl.1 rfl rfl (Nat.le_of_ble_eq_true rfl) dX7_dab_10) hS (fun H locs hM hS => ?_)
    refine lv_if_eq hx hb dX7_dab_13 rfl (fun hc => ?_) (fun hc => ?_)
    · have h := sk_pos h hc
      refine lv_ldc (v := (-1000000001)) hx hb hown (hts _ kw_1044) dX7_dab_30 ?_
      exact sk_iret C hM hS (sk_e2 h) dX7_dab_32
    · have h := sk_neg h hc
      refine lv_iload_n hx hb dX7_dab_16 rfl (lv_at hl 3 rfl) ?_
      refine lv_i2l (v := a3.toInt64) hx hb dX7_dab_17 rfl ?_
      refine lv_ldc2 (v := (-999)) hx hb hown (hts _ kw_1175) dX7_dab_18 ?_
      refine lv_ldc2 (v := 999) hx hb hown (hts _ kw_1098) dX7_dab_21 ?_
      refine sk_contI (sk_runS (As := [.long (a3.toInt64), .long (-999), .long 999]) (rest := []) C (c_X7_isIn g l (a3.toInt64) (-999) 999 M rfl) yo_X7_isIn kw_1040 (by decide) hM hS hl.1 rfl rfl (Nat.le_of_ble_eq_true rfl) dX7_dab_24) hS (fun H locs hM hS => ?_)
      refine lv_if_ne hx hb dX7_dab_27 rfl (fun hc => ?_) (fun hc => ?_)
      · have h := sk_neg h hc
        refine lv_aload_n hx hb dX7_dab_33 rfl (lv_at hl 0 rfl) ?_
        refine lv_iload_n hx hb dX7_dab_34 rfl (lv_at hl 1 rfl) ?_
        refine lv_iload_n hx hb dX7_dab_35 rfl (lv_at hl 2 rfl) ?_
        obtain ⟨x_4, h_5, h⟩ := sk_b1E h
        refine sk_contI (sk_runV (As := [.int a1, .int a2]) (rest := []) C (c_X7_on g l a1 a2 M h_5) yo_X7_on kw_1137 (sk_recv (ci := 7) C hM rfl rfl) (by decide) hM hS hl.1 rfl rfl (Nat.le_of_ble_eq_true rfl) dX7_dab_36) hS (fun H locs hM hS => ?_)
        refine lv_iload_n hx hb dX7_dab_39 rfl (lv_at hl 3 rfl) ?_
        refine lv_iadd hx hb dX7_dab_40 ?_
        refine lv_sipush (v := 999) hx hb dX7_dab_41 (by decide) ?_
        refine sk_contI (sk_runS (As := [.int (x_4 + a3), .int 999]) (rest := []) C (c_X7_within g l (x_4 + a3) 999 M rfl) yo_X7_within kw_1168 (by decide) hM hS hl.1 rfl rfl (Nat.le_of_ble_eq_true rfl) dX7_dab_44) hS (fun H locs hM hS => ?_)
        refine lv_topi (fun x_7 ex_7 => ?_)
        have h := sk_letU h ex_7
        refine lv_istore (lv' := [(4, .int x_7), (0, .ref (sk_ad g 88)), (1, .int a1), (2, .int a2), (3, .int a3)]) hx hb dX7_dab_47 hl (by decide) rfl (fun ls hl => ?_)
        refine lv_aload_n hx hb dX7_dab_49 rfl (lv_at hl 1 rfl) ?_
        refine sk_getR (o := 88) (ci := 7) (j := 0) (t := 89) C hM rfl rfl (by decide) rfl rfl kw_935 dX7_dab_50 ?_
        refine lv_bipush (v := 43) hx hb dX7_dab_53 (by decide) ?_
        refine lv_bipush (v := 9) hx hb dX7_dab_55 (by decide) ?_
        refine lv_iload_n hx hb dX7_dab_57 rfl (lv_at hl 2 rfl) ?_
        refine lv_imul hx hb dX7_dab_58 ?_
        refine lv_iadd hx hb dX7_dab_59 ?_
        refine lv_iload_n hx hb dX7_dab_60 rfl (lv_at hl 3 rfl) ?_
        refine lv_iadd hx hb dX7_dab_61 ?_
        refine lv_iload hx hb dX7_dab_62 (lv_at hl 0 rfl) ?_
        obtain ⟨i_8, h⟩ := sk_chkE h
        refine sk_iast (o := 89) C hM hS rfl i_8 dX7_dab_64 (fun M_9 eM_9 H locs hM hS => ?_)
        have h := sk_letU h eM_9
        refine lv_iload hx hb dX7_dab_65 (lv_at hl 0 rfl) ?_
        exact sk_iret C hM hS (sk_e2 h) dX7_dab_67
      · have h := sk_pos h hc
        refine lv_ldc (v := (-1000000001)) hx hb hown (hts _ kw_1044) dX7_dab_30 ?_
        exact sk_iret C hM hS (sk_e2 h) dX7_dab_32
theorem dX7_warm_0 : decode cX7_warm 0 = .ok (.aload_n 0, 1) := by decide +kernel
theorem dX7_warm_1 : decode cX7_warm 1 = .ok (.iload_n 1, 1) := by decide +kernel
theorem dX7_warm_2 : decode cX7_warm 2 = .ok (.invokevirtual 138, 3) := by decide +kernel
theorem dX7_warm_5 : decode cX7_warm 5 = .ok (.ifCond .eq 27, 3) := by decide +kernel
theorem dX7_warm_8 : decode cX7_warm 8 = .ok (.iload_n 2, 1) := by decide +kernel
theorem dX7_warm_9 : decode cX7_warm 9 = .ok (.i2l, 1) := by decide +kernel
theorem dX7_warm_10 : decode cX7_warm 10 = .ok (.lconst 0, 1) := by decide +kernel
theorem dX7_warm_11 : decode cX7_warm 11 = .ok (.ldc2_w 78, 3) := by decide +kernel
theorem dX7_warm_14 : decode cX7_warm 14 = .ok (.invokestatic 71, 3) := by decide +kernel
theorem dX7_warm_17 : decode cX7_warm 17 = .ok (.ifCond .eq 15, 3) := by decide +kernel
theorem dX7_warm_20 : decode cX7_warm 20 = .ok (.aload_n 0, 1) := by decide +kernel
theorem dX7_warm_21 : decode cX7_warm 21 = .ok (.bipush 37, 2) := by decide +kernel
theorem dX7_warm_23 : decode cX7_warm 23 = .ok (.iload_n 1, 1) := by decide +kernel
theorem dX7_warm_24 : decode cX7_warm 24 = .ok (.iadd, 1) := by decide +kernel
theorem dX7_warm_25 : decode cX7_warm 25 = .ok (.iload_n 2, 1) := by decide +kernel
theorem dX7_warm_26 : decode cX7_warm 26 = .ok (.invokevirtual 121, 3) := by decide +kernel
theorem dX7_warm_29 : decode cX7_warm 29 = .ok (.goto 5, 3) := by decide +kernel
theorem dX7_warm_32 : decode cX7_warm 32 = .ok (.ldc 80, 2) := by decide +kernel
theorem dX7_warm_34 : decode cX7_warm 34 = .ok (.ireturn, 1) := by decide +kernel
set_option maxHeartbeats 4000000 in
set_option maxRecDepth 100000 in
theorem c_X7_warm (g : sk_G) (l : Launch) (a1 : Int32) (a2 : Int32) (M : sk_M) {rr : Int32} {MM : sk_M} (h : f_X7_warm a1 a2 M = some (rr, MM)) : sk_MI g l yX7_warm cX7_warm 3 (some .int) 3 [.ref (sk_ad g 88), .int a1, .int a2] M rr MM := by
  refine sk_go [(0, .ref (sk_ad g 88)), (1, .int a1), (2, .int a2)] (by decide) (Nat.le_of_ble_eq_true rfl) rfl ?_
  intro p e s m av below meth c C ls hl hM hS
  obtain ⟨hx, hb, hml, hown, hts, hK, hE, hr, hlocks⟩ := id C
  rw [f_X7_warm] at h
  refine lv_aload_n hx hb dX7_warm_0 rfl (lv_at hl 0 rfl) ?_
  refine lv_iload_n hx hb dX7_warm_1 rfl (lv_at hl 1 rfl) ?_
  refine sk_contI (sk_runV (As := [.int a1]) (rest := []) C (c_X7_isCloth g l a1 M rfl) yo_X7_isCloth kw_1133 (sk_recv (ci := 7) C hM rfl rfl) (by decide) hM hS hl.1 rfl rfl (Nat.le_of_ble_eq_true rfl) dX7_warm_2) hS (fun H locs hM hS => ?_)
  refine lv_if_eq hx hb dX7_warm_5 rfl (fun hc => ?_) (fun hc => ?_)
  · have h := sk_pos h hc
    refine lv_ldc (v := (-1000000001)) hx hb hown (hts _ kw_1044) dX7_warm_32 ?_
    exact sk_iret C hM hS (sk_e2 h) dX7_warm_34
  · have h := sk_neg h hc
    refine lv_iload_n hx hb dX7_warm_8 rfl (lv_at hl 2 rfl) ?_
    refine lv_i2l (v := a2.toInt64) hx hb dX7_warm_9 rfl ?_
    refine lv_lconst (v := 0) hx hb dX7_warm_10 (by decide) ?_
    refine lv_ldc2 (v := 50) hx hb hown (hts _ kw_1043) dX7_warm_11 ?_
    refine sk_contI (sk_runS (As := [.long (a2.toInt64), .long 0, .long 50]) (rest := []) C (c_X7_isIn g l (a2.toInt64) 0 50 M rfl) yo_X7_isIn kw_1040 (by decide) hM hS hl.1 rfl rfl (Nat.le_of_ble_eq_true rfl) dX7_warm_14) hS (fun H locs hM hS => ?_)
    refine lv_if_eq hx hb dX7_warm_17 rfl (fun hc => ?_) (fun hc => ?_)
    · have h := sk_pos h hc
      refine lv_ldc (v := (-1000000001)) hx hb hown (hts _ kw_1044) dX7_warm_32 ?_
      exact sk_iret C hM hS (sk_e2 h) dX7_warm_34
    · have h := sk_neg h hc
      refine lv_aload_n hx hb dX7_warm_20 rfl (lv_at hl 0 rfl) ?_
      refine lv_bipush (v := 37) hx hb dX7_warm_21 (by decide) ?_
      refine lv_iload_n hx hb dX7_warm_23 rfl (lv_at hl 1 rfl) ?_
      refine lv_iadd hx hb dX7_warm_24 ?_
      refine lv_iload_n hx hb dX7_warm_25 rfl (lv_at hl 2 rfl) ?_
      obtain ⟨x_3, M_4, h_5, h⟩ := sk_b2E h
      refine sk_contI (sk_runV (As := [.int (37 + a1), .int a2]) (rest := []) C (c_X7_becomes g l (37 + a1) a2 M h_5) yo_X7_becomes kw_1079 (sk_recv (ci := 7) C hM rfl rfl) (by decide) hM hS hl.1 rfl rfl (Nat.le_of_ble_eq_true rfl) dX7_warm_26) hS (fun H locs hM hS => ?_)
      refine lv_goto hx hb dX7_warm_29 rfl ?_
      exact sk_iret C hM hS (sk_e2 h) dX7_warm_34
theorem dX7_touch_0 : decode cX7_touch 0 = .ok (.aload_n 0, 1) := by decide +kernel
theorem dX7_touch_1 : decode cX7_touch 1 = .ok (.iload_n 1, 1) := by decide +kernel
theorem dX7_touch_2 : decode cX7_touch 2 = .ok (.invokevirtual 138, 3) := by decide +kernel
theorem dX7_touch_5 : decode cX7_touch 5 = .ok (.ifCond .eq 16, 3) := by decide +kernel
theorem dX7_touch_8 : decode cX7_touch 8 = .ok (.aload_n 0, 1) := by decide +kernel
theorem dX7_touch_9 : decode cX7_touch 9 = .ok (.iload_n 2, 1) := by decide +kernel
theorem dX7_touch_10 : decode cX7_touch 10 = .ok (.invokevirtual 138, 3) := by decide +kernel
theorem dX7_touch_13 : decode cX7_touch 13 = .ok (.ifCond .eq 8, 3) := by decide +kernel
theorem dX7_touch_16 : decode cX7_touch 16 = .ok (.iload_n 1, 1) := by decide +kernel
theorem dX7_touch_17 : decode cX7_touch 17 = .ok (.iload_n 2, 1) := by decide +kernel
theorem dX7_touch_18 : decode cX7_touch 18 = .ok (.if_icmp .ne 6, 3) := by decide +kernel
theorem dX7_touch_21 : decode cX7_touch 21 = .ok (.ldc 80, 2) := by decide +kernel
theorem dX7_touch_23 : decode cX7_touch 23 = .ok (.ireturn, 1) := by decide +kernel
theorem dX7_touch_24 : decode cX7_touch 24 = .ok (.iconst 0, 1) := by decide +kernel
theorem dX7_touch_25 : decode cX7_touch 25 = .ok (.istore_n 3, 1) := by decide +kernel
theorem dX7_touch_26 : decode cX7_touch 26 = .ok (.iconst 0, 1) := by decide +kernel
theorem dX7_touch_27 : decode cX7_touch 27 = .ok (.istore 4, 2) := by decide +kernel
theorem dX7_touch_29 : decode cX7_touch 29 = .ok (.iload 4, 2) := by decide +kernel
theorem dX7_touch_31 : decode cX7_touch 31 = .ok (.aload_n 0, 1) := by decide +kernel
theorem dX7_touch_32 : decode cX7_touch 32 = .ok (.getfield 7, 3) := by decide +kernel
theorem dX7_touch_35 : decode cX7_touch 35 = .ok (.iconst 0, 1) := by decide +kernel
theorem dX7_touch_36 : decode cX7_touch 36 = .ok (.iaload, 1) := by decide +kernel
theorem dX7_touch_37 : decode cX7_touch 37 = .ok (.if_icmp .ge 86, 3) := by decide +kernel
theorem dX7_touch_40 : decode cX7_touch 40 = .ok (.aload_n 0, 1) := by decide +kernel
theorem dX7_touch_41 : decode cX7_touch 41 = .ok (.iload_n 1, 1) := by decide +kernel
theorem dX7_touch_42 : decode cX7_touch 42 = .ok (.iload 4, 2) := by decide +kernel
theorem dX7_touch_44 : decode cX7_touch 44 = .ok (.invokevirtual 100, 3) := by decide +kernel
theorem dX7_touch_47 : decode cX7_touch 47 = .ok (.aload_n 0, 1) := by decide +kernel
theorem dX7_touch_48 : decode cX7_touch 48 = .ok (.iload_n 2, 1) := by decide +kernel
theorem dX7_touch_49 : decode cX7_touch 49 = .ok (.iload 4, 2) := by decide +kernel
theorem dX7_touch_51 : decode cX7_touch 51 = .ok (.invokevirtual 100, 3) := by decide +kernel
theorem dX7_touch_54 : decode cX7_touch 54 = .ok (.iadd, 1) := by decide +kernel
theorem dX7_touch_55 : decode cX7_touch 55 = .ok (.iconst 2, 1) := by decide +kernel
theorem dX7_touch_56 : decode cX7_touch 56 = .ok (.idiv, 1) := by decide +kernel
theorem dX7_touch_57 : decode cX7_touch 57 = .ok (.istore 5, 2) := by decide +kernel
theorem dX7_touch_59 : decode cX7_touch 59 = .ok (.iload_n 3, 1) := by decide +kernel
theorem dX7_touch_60 : decode cX7_touch 60 = .ok (.aload_n 0, 1) := by decide +kernel
theorem dX7_touch_61 : decode cX7_touch 61 = .ok (.bipush 43, 2) := by decide +kernel
theorem dX7_touch_63 : decode cX7_touch 63 = .ok (.bipush 9, 2) := by decide +kernel
theorem dX7_touch_65 : decode cX7_touch 65 = .ok (.iload_n 1, 1) := by decide +kernel
theorem dX7_touch_66 : decode cX7_touch 66 = .ok (.imul, 1) := by decide +kernel
theorem dX7_touch_67 : decode cX7_touch 67 = .ok (.iadd, 1) := by decide +kernel
theorem dX7_touch_68 : decode cX7_touch 68 = .ok (.iload 4, 2) := by decide +kernel
theorem dX7_touch_70 : decode cX7_touch 70 = .ok (.iadd, 1) := by decide +kernel
theorem dX7_touch_71 : decode cX7_touch 71 = .ok (.iload 5, 2) := by decide +kernel
theorem dX7_touch_73 : decode cX7_touch 73 = .ok (.invokevirtual 121, 3) := by decide +kernel
theorem dX7_touch_76 : decode cX7_touch 76 = .ok (.iload 5, 2) := by decide +kernel
theorem dX7_touch_78 : decode cX7_touch 78 = .ok (.if_icmp .ne 7, 3) := by decide +kernel
theorem dX7_touch_81 : decode cX7_touch 81 = .ok (.iconst 0, 1) := by decide +kernel
theorem dX7_touch_82 : decode cX7_touch 82 = .ok (.goto 4, 3) := by decide +kernel
theorem dX7_touch_85 : decode cX7_touch 85 = .ok (.iconst 1, 1) := by decide +kernel
theorem dX7_touch_86 : decode cX7_touch 86 = .ok (.iadd, 1) := by decide +kernel
theorem dX7_touch_87 : decode cX7_touch 87 = .ok (.istore_n 3, 1) := by decide +kernel
theorem dX7_touch_88 : decode cX7_touch 88 = .ok (.iload_n 3, 1) := by decide +kernel
theorem dX7_touch_89 : decode cX7_touch 89 = .ok (.aload_n 0, 1) := by decide +kernel
theorem dX7_touch_90 : decode cX7_touch 90 = .ok (.bipush 43, 2) := by decide +kernel
theorem dX7_touch_92 : decode cX7_touch 92 = .ok (.bipush 9, 2) := by decide +kernel
theorem dX7_touch_94 : decode cX7_touch 94 = .ok (.iload_n 2, 1) := by decide +kernel
theorem dX7_touch_95 : decode cX7_touch 95 = .ok (.imul, 1) := by decide +kernel
theorem dX7_touch_96 : decode cX7_touch 96 = .ok (.iadd, 1) := by decide +kernel
theorem dX7_touch_97 : decode cX7_touch 97 = .ok (.iload 4, 2) := by decide +kernel
theorem dX7_touch_99 : decode cX7_touch 99 = .ok (.iadd, 1) := by decide +kernel
theorem dX7_touch_100 : decode cX7_touch 100 = .ok (.iload 5, 2) := by decide +kernel
theorem dX7_touch_102 : decode cX7_touch 102 = .ok (.invokevirtual 121, 3) := by decide +kernel
theorem dX7_touch_105 : decode cX7_touch 105 = .ok (.iload 5, 2) := by decide +kernel
theorem dX7_touch_107 : decode cX7_touch 107 = .ok (.if_icmp .ne 7, 3) := by decide +kernel
theorem dX7_touch_110 : decode cX7_touch 110 = .ok (.iconst 0, 1) := by decide +kernel
theorem dX7_touch_111 : decode cX7_touch 111 = .ok (.goto 4, 3) := by decide +kernel
theorem dX7_touch_114 : decode cX7_touch 114 = .ok (.iconst 1, 1) := by decide +kernel
theorem dX7_touch_115 : decode cX7_touch 115 = .ok (.iadd, 1) := by decide +kernel
theorem dX7_touch_116 : decode cX7_touch 116 = .ok (.istore_n 3, 1) := by decide +kernel
theorem dX7_touch_117 : decode cX7_touch 117 = .ok (.iinc 4 1, 3) := by decide +kernel
theorem dX7_touch_120 : decode cX7_touch 120 = .ok (.goto (-91), 3) := by decide +kernel
theorem dX7_touch_123 : decode cX7_touch 123 = .ok (.iload_n 3, 1) := by decide +kernel
theorem dX7_touch_124 : decode cX7_touch 124 = .ok (.ireturn, 1) := by decide +kernel
set_option maxHeartbeats 4000000 in
set_option maxRecDepth 100000 in
theorem w_X7_touch_L29 {g : sk_G} {l : Launch} {p : Program} {e : Env} {s : State} {m : MethodId} {av : Array Value} {below : List Frame} {meth : Method} {c : Code} (C : sk_C g p s m av meth c cX7_touch 6 RX7 (some .int)) (a1 : Int32) (a2 : Int32) {rr : Int32} {MM : sk_M} :
    ∀ (n : Nat) (a3 : Int32) (a4 : Int32) (M : sk_M) (H : Heap) (locs : List Loc) (ls : Array Slot), lv_has ls 6 [(0, .ref (sk_ad g 88)), (1, .int a1), (2, .int a2), (3, .int a3), (4, .int a4)] → sk_P g M H → va_S (sk_A g) s.heap H locs → ∀ {out : Int32 × sk_M}, f_X7_touch_L29 a1 a2 n a3 a4 M = some out → (∀ (x3 : Int32) (M1 : sk_M) (H : Heap) (locs : List Loc) (ls : Array Slot), some (x3, M1) = some out → lv_has ls 6 [(3, .int x3)] → sk_P g M1 H → va_S (sk_A g) s.heap H locs → W p l e (sk_rm 3) s m av below meth c H locs 0 0 (MQ below (sk_QI g rr MM) av s 0 0 (sk_A g)) (F0 m 123 ls [])) → W p l e (sk_rm 3) s m av below meth c H locs 0 0 (MQ below (sk_QI g rr MM) av s 0 0 (sk_A g)) (F0 m 29 ls []) := by
  obtain ⟨hx, hb, hml, hown, hts, hK, hE, hr, hlocks⟩ := id C
  intro n
  induction n with
  | zero =>
    intro a3 a4 M H locs ls hl hM hS out h
    cases h
  | succ n ih =>
    intro a3 a4 M H locs ls hl hM hS out h kx
    rw [f_X7_touch_L29] at h
    refine lv_iload hx hb dX7_touch_29 (lv_at hl 4 rfl) ?_
    refine lv_aload_n hx hb dX7_touch_31 rfl (lv_at hl 0 rfl) ?_
    refine sk_getR (o := 88) (ci := 7) (j := 0) (t := 89) C hM rfl rfl (by decide) rfl rfl kw_935 dX7_touch_32 ?_
    refine lv_iconst (v := 0) hx hb dX7_touch_35 (by decide) ?_
    refine sk_iald (o := 89) C hM rfl (by decide) dX7_touch_36 ?_
    refine W.eq (g2 := F0 m 37 ls [.int (M 89 0), .int a4]) rfl ?_
    refine lv_icmp_ge hx hb dX7_touch_37 rfl (fun hc => ?_) (fun hc => ?_)
    · have h := sk_pos h hc
      exact kx _ _ _ _ _ h (lv_sub hl [3] rfl) hM hS
    · have h := sk_neg h hc
      refine lv_aload_n hx hb dX7_touch_40 rfl (lv_at hl 0 rfl) ?_
      refine lv_iload_n hx hb dX7_touch_41 rfl (lv_at hl 1 rfl) ?_
      refine lv_iload hx hb dX7_touch_42 (lv_at hl 4 rfl) ?_
      obtain ⟨x_3, h_4, h⟩ := sk_b1E h
      refine sk_contI (sk_runV (As := [.int a1, .int a4]) (rest := []) C (c_X7_on g l a1 a4 M h_4) yo_X7_on kw_1137 (sk_recv (ci := 7) C hM rfl rfl) (by decide) hM hS hl.1 rfl rfl (Nat.le_of_ble_eq_true rfl) dX7_touch_44) hS (fun H locs hM hS => ?_)
      refine lv_aload_n hx hb dX7_touch_47 rfl (lv_at hl 0 rfl) ?_
      refine lv_iload_n hx hb dX7_touch_48 rfl (lv_at hl 2 rfl) ?_
      refine lv_iload hx hb dX7_touch_49 (lv_at hl 4 rfl) ?_
      obtain ⟨x_5, h_6, h⟩ := sk_b1E h
      refine sk_contI (sk_runV (As := [.int a2, .int a4]) (rest := [.int x_3]) C (c_X7_on g l a2 a4 M h_6) yo_X7_on kw_1137 (sk_recv (ci := 7) C hM rfl rfl) (by decide) hM hS hl.1 rfl rfl (Nat.le_of_ble_eq_true rfl) dX7_touch_51) hS (fun H locs hM hS => ?_)
      refine lv_iadd hx hb dX7_touch_54 ?_
      refine lv_iconst (v := 2) hx hb dX7_touch_55 (by decide) ?_
      refine lv_idiv hx hb dX7_touch_56 (by decide) ?_
      refine lv_topi (fun x_7 ex_7 => ?_)
      have h := sk_letU h ex_7
      refine lv_istore (lv' := [(5, .int x_7), (0, .ref (sk_ad g 88)), (1, .int a1), (2, .int a2), (3, .int a3), (4, .int a4)]) hx hb dX7_touch_57 hl (by decide) rfl (fun ls hl => ?_)
      refine lv_iload_n hx hb dX7_touch_59 rfl (lv_at hl 4 rfl) ?_
      refine lv_aload_n hx hb dX7_touch_60 rfl (lv_at hl 1 rfl) ?_
      refine lv_bipush (v := 43) hx hb dX7_touch_61 (by decide) ?_
      refine lv_bipush (v := 9) hx hb dX7_touch_63 (by decide) ?_
      refine lv_iload_n hx hb dX7_touch_65 rfl (lv_at hl 2 rfl) ?_
      refine lv_imul hx hb dX7_touch_66 ?_
      refine lv_iadd hx hb dX7_touch_67 ?_
      refine lv_iload hx hb dX7_touch_68 (lv_at hl 5 rfl) ?_
      refine lv_iadd hx hb dX7_touch_70 ?_
      refine lv_iload hx hb dX7_touch_71 (lv_at hl 0 rfl) ?_
      obtain ⟨x_8, M_9, h_10, h⟩ := sk_b2E h
      refine sk_contI (sk_runV (As := [.int ((43 + (9 * a1)) + a4), .int x_7]) (rest := [.int a3]) C (c_X7_becomes g l ((43 + (9 * a1)) + a4) x_7 M h_10) yo_X7_becomes kw_1079 (sk_recv (ci := 7) C hM rfl rfl) (by decide) hM hS hl.1 rfl rfl (Nat.le_of_ble_eq_true rfl) dX7_touch_73) hS (fun H locs hM hS => ?_)
      refine lv_iload hx hb dX7_touch_76 (lv_at hl 0 rfl) ?_
      have J : ∀ (vv : Int32) (H : Heap) (locs : List Loc), (if x_8 = x_7 then 0 else 1 : Int32) = vv → sk_P g M_9 H → va_S (sk_A g) s.heap H locs → W p l e (sk_rm 3) s m av below meth c H locs 0 0 (MQ below (sk_QI g rr MM) av s 0 0 (sk_A g)) (F0 m 86 ls [.int vv, .int a3]) := by
        intro vv H locs hvv hM hS
        subst hvv
        refine lv_iadd hx hb dX7_touch_86 ?_
        refine lv_topi (fun x_11 ex_11 => ?_)
        have h := sk_letU h ex_11
        refine lv_istore_n (lv' := [(3, .int x_11), (5, .int x_7), (0, .ref (sk_ad g 88)), (1, .int a1), (2, .int a2), (4, .int a4)]) hx hb dX7_touch_87 rfl hl (by decide) rfl (fun ls hl => ?_)
        refine lv_iload_n hx hb dX7_touch_88 rfl (lv_at hl 0 rfl) ?_
        refine lv_aload_n hx hb dX7_touch_89 rfl (lv_at hl 2 rfl) ?_
        refine lv_bipush (v := 43) hx hb dX7_touch_90 (by decide) ?_
        refine lv_bipush (v := 9) hx hb dX7_touch_92 (by decide) ?_
        refine lv_iload_n hx hb dX7_touch_94 rfl (lv_at hl 4 rfl) ?_
        refine lv_imul hx hb dX7_touch_95 ?_
        refine lv_iadd hx hb dX7_touch_96 ?_
        refine lv_iload hx hb dX7_touch_97 (lv_at hl 5 rfl) ?_
        refine lv_iadd hx hb dX7_touch_99 ?_
        refine lv_iload hx hb dX7_touch_100 (lv_at hl 1 rfl) ?_
        obtain ⟨x_12, M_13, h_14, h⟩ := sk_b2E h
        refine sk_contI (sk_runV (As := [.int ((43 + (9 * a2)) + a4), .int x_7]) (rest := [.int x_11]) C (c_X7_becomes g l ((43 + (9 * a2)) + a4) x_7 M_9 h_14) yo_X7_becomes kw_1079 (sk_recv (ci := 7) C hM rfl rfl) (by decide) hM hS hl.1 rfl rfl (Nat.le_of_ble_eq_true rfl) dX7_touch_102) hS (fun H locs hM hS => ?_)
        refine lv_iload hx hb dX7_touch_105 (lv_at hl 1 rfl) ?_
        have J : ∀ (vv : Int32) (H : Heap) (locs : List Loc), (if x_12 = x_7 then 0 else 1 : Int32) = vv → sk_P g M_13 H → va_S (sk_A g) s.heap H locs → W p l e (sk_rm 3) s m av below meth c H locs 0 0 (MQ below (sk_QI g rr MM) av s 0 0 (sk_A g)) (F0 m 115 ls [.int vv, .int x_11]) := by
          intro vv H locs hvv hM hS
          subst hvv
          refine lv_iadd hx hb dX7_touch_115 ?_
          refine lv_topi (fun x_15 ex_15 => ?_)
          have h := sk_letU h ex_15
          refine lv_istore_n (lv' := [(3, .int x_15), (5, .int x_7), (0, .ref (sk_ad g 88)), (1, .int a1), (2, .int a2), (4, .int a4)]) hx hb dX7_touch_116 rfl hl (by decide) rfl (fun ls hl => ?_)
          refine lv_iinc (v := (a4 + 1)) (lv' := [(4, .int (a4 + 1)), (3, .int x_15), (5, .int x_7), (0, .ref (sk_ad g 88)), (1, .int a1), (2, .int a2)]) hx hb dX7_touch_117 hl (k := 5) rfl rfl (by decide) rfl (fun ls hl => ?_)
          refine lv_goto hx hb dX7_touch_120 rfl ?_
          exact ih x_15 (a4 + 1) M_13 _ _ _ (lv_sub hl [3, 4, 5, 1, 0] rfl) hM hS h kx
        refine lv_icmp_ne hx hb dX7_touch_107 rfl (fun hc => ?_) (fun hc => ?_)
        · have J := fun vv H locs q => J vv H locs ((if_neg hc).trans q)
          refine lv_iconst (v := 1) hx hb dX7_touch_114 (by decide) ?_
          exact J _ _ _ rfl hM hS
        · have J := fun vv H locs q => J vv H locs ((if_pos hc).trans q)
          refine lv_iconst (v := 0) hx hb dX7_touch_110 (by decide) ?_
          refine lv_goto hx hb dX7_touch_111 rfl ?_
          exact J _ _ _ rfl hM hS
      refine lv_icmp_ne hx hb dX7_touch_78 rfl (fun hc => ?_) (fun hc => ?_)
      · have J := fun vv H locs q => J vv H locs ((if_neg hc).trans q)
        refine lv_iconst (v := 1) hx hb dX7_touch_85 (by decide) ?_
        exact J _ _ _ rfl hM hS
      · have J := fun vv H locs q => J vv H locs ((if_pos hc).trans q)
        refine lv_iconst (v := 0) hx hb dX7_touch_81 (by decide) ?_
        refine lv_goto hx hb dX7_touch_82 rfl ?_
        exact J _ _ _ rfl hM hS
set_option maxHeartbeats 4000000 in
set_option maxRecDepth 100000 in
theorem c_X7_touch (g : sk_G) (l : Launch) (a1 : Int32) (a2 : Int32) (M : sk_M) {rr : Int32} {MM : sk_M} (h : f_X7_touch a1 a2 M = some (rr, MM)) : sk_MI g l yX7_touch cX7_touch 6 (some .int) 3 [.ref (sk_ad g 88), .int a1, .int a2] M rr MM := by
  refine sk_go [(0, .ref (sk_ad g 88)), (1, .int a1), (2, .int a2)] (by decide) (Nat.le_of_ble_eq_true rfl) rfl ?_
  intro p e s m av below meth c C ls hl hM hS
  obtain ⟨hx, hb, hml, hown, hts, hK, hE, hr, hlocks⟩ := id C
  rw [f_X7_touch] at h
  refine lv_aload_n hx hb dX7_touch_0 rfl (lv_at hl 0 rfl) ?_
  refine lv_iload_n hx hb dX7_touch_1 rfl (lv_at hl 1 rfl) ?_
  refine sk_contI (sk_runV (As := [.int a1]) (rest := []) C (c_X7_isCloth g l a1 M rfl) yo_X7_isCloth kw_1133 (sk_recv (ci := 7) C hM rfl rfl) (by decide) hM hS hl.1 rfl rfl (Nat.le_of_ble_eq_true rfl) dX7_touch_2) hS (fun H locs hM hS => ?_)
  refine lv_if_eq hx hb dX7_touch_5 rfl (fun hc => ?_) (fun hc => ?_)
  · have h := sk_pos h hc
    refine lv_ldc (v := (-1000000001)) hx hb hown (hts _ kw_1044) dX7_touch_21 ?_
    exact sk_iret C hM hS (sk_e2 h) dX7_touch_23
  · have h := sk_neg h hc
    refine lv_aload_n hx hb dX7_touch_8 rfl (lv_at hl 0 rfl) ?_
    refine lv_iload_n hx hb dX7_touch_9 rfl (lv_at hl 2 rfl) ?_
    refine sk_contI (sk_runV (As := [.int a2]) (rest := []) C (c_X7_isCloth g l a2 M rfl) yo_X7_isCloth kw_1133 (sk_recv (ci := 7) C hM rfl rfl) (by decide) hM hS hl.1 rfl rfl (Nat.le_of_ble_eq_true rfl) dX7_touch_10) hS (fun H locs hM hS => ?_)
    refine lv_if_eq hx hb dX7_touch_13 rfl (fun hc => ?_) (fun hc => ?_)
    · have h := sk_pos h hc
      refine lv_ldc (v := (-1000000001)) hx hb hown (hts _ kw_1044) dX7_touch_21 ?_
      exact sk_iret C hM hS (sk_e2 h) dX7_touch_23
    · have h := sk_neg h hc
      refine lv_iload_n hx hb dX7_touch_16 rfl (lv_at hl 1 rfl) ?_
      refine lv_iload_n hx hb dX7_touch_17 rfl (lv_at hl 2 rfl) ?_
      refine lv_icmp_ne hx hb dX7_touch_18 rfl (fun hc => ?_) (fun hc => ?_)
      · have h := sk_neg h hc
        refine lv_iconst (v := 0) hx hb dX7_touch_24 (by decide) ?_
        refine lv_istore_n (lv' := [(3, .int 0), (0, .ref (sk_ad g 88)), (1, .int a1), (2, .int a2)]) hx hb dX7_touch_25 rfl hl (by decide) rfl (fun ls hl => ?_)
        refine lv_iconst (v := 0) hx hb dX7_touch_26 (by decide) ?_
        refine lv_istore (lv' := [(4, .int 0), (3, .int 0), (0, .ref (sk_ad g 88)), (1, .int a1), (2, .int a2)]) hx hb dX7_touch_27 hl (by decide) rfl (fun ls hl => ?_)
        obtain ⟨x_16, M_17, h_18, h⟩ := sk_b2E h
        refine w_X7_touch_L29 C a1 a2 sk_FU 0 0 M _ _ _ (lv_sub hl [2, 3, 4, 1, 0] rfl) hM hS h_18 (fun y_19 y_20 H locs ls he hl hM hS => ?_)
        obtain ⟨rfl, rfl⟩ := sk_e2 he
        refine lv_iload_n hx hb dX7_touch_123 rfl (lv_at hl 0 rfl) ?_
        exact sk_iret C hM hS (sk_e2 h) dX7_touch_124
      · have h := sk_pos h hc
        refine lv_ldc (v := (-1000000001)) hx hb hown (hts _ kw_1044) dX7_touch_21 ?_
        exact sk_iret C hM hS (sk_e2 h) dX7_touch_23
theorem dX7_goesOn_0 : decode cX7_goesOn 0 = .ok (.iconst 0, 1) := by decide +kernel
theorem dX7_goesOn_1 : decode cX7_goesOn 1 = .ok (.istore_n 1, 1) := by decide +kernel
theorem dX7_goesOn_2 : decode cX7_goesOn 2 = .ok (.iload_n 1, 1) := by decide +kernel
theorem dX7_goesOn_3 : decode cX7_goesOn 3 = .ok (.aload_n 0, 1) := by decide +kernel
theorem dX7_goesOn_4 : decode cX7_goesOn 4 = .ok (.getfield 7, 3) := by decide +kernel
theorem dX7_goesOn_7 : decode cX7_goesOn 7 = .ok (.iconst 1, 1) := by decide +kernel
theorem dX7_goesOn_8 : decode cX7_goesOn 8 = .ok (.iaload, 1) := by decide +kernel
theorem dX7_goesOn_9 : decode cX7_goesOn 9 = .ok (.if_icmp .ge 50, 3) := by decide +kernel
theorem dX7_goesOn_12 : decode cX7_goesOn 12 = .ok (.iconst 0, 1) := by decide +kernel
theorem dX7_goesOn_13 : decode cX7_goesOn 13 = .ok (.istore_n 2, 1) := by decide +kernel
theorem dX7_goesOn_14 : decode cX7_goesOn 14 = .ok (.iload_n 2, 1) := by decide +kernel
theorem dX7_goesOn_15 : decode cX7_goesOn 15 = .ok (.aload_n 0, 1) := by decide +kernel
theorem dX7_goesOn_16 : decode cX7_goesOn 16 = .ok (.getfield 7, 3) := by decide +kernel
theorem dX7_goesOn_19 : decode cX7_goesOn 19 = .ok (.iconst 0, 1) := by decide +kernel
theorem dX7_goesOn_20 : decode cX7_goesOn 20 = .ok (.iaload, 1) := by decide +kernel
theorem dX7_goesOn_21 : decode cX7_goesOn 21 = .ok (.if_icmp .ge 32, 3) := by decide +kernel
theorem dX7_goesOn_24 : decode cX7_goesOn 24 = .ok (.aload_n 0, 1) := by decide +kernel
theorem dX7_goesOn_25 : decode cX7_goesOn 25 = .ok (.getfield 7, 3) := by decide +kernel
theorem dX7_goesOn_28 : decode cX7_goesOn 28 = .ok (.bipush 43, 2) := by decide +kernel
theorem dX7_goesOn_30 : decode cX7_goesOn 30 = .ok (.bipush 9, 2) := by decide +kernel
theorem dX7_goesOn_32 : decode cX7_goesOn 32 = .ok (.iload_n 1, 1) := by decide +kernel
theorem dX7_goesOn_33 : decode cX7_goesOn 33 = .ok (.imul, 1) := by decide +kernel
theorem dX7_goesOn_34 : decode cX7_goesOn 34 = .ok (.iadd, 1) := by decide +kernel
theorem dX7_goesOn_35 : decode cX7_goesOn 35 = .ok (.iload_n 2, 1) := by decide +kernel
theorem dX7_goesOn_36 : decode cX7_goesOn 36 = .ok (.iadd, 1) := by decide +kernel
theorem dX7_goesOn_37 : decode cX7_goesOn 37 = .ok (.dup2, 1) := by decide +kernel
theorem dX7_goesOn_38 : decode cX7_goesOn 38 = .ok (.iaload, 1) := by decide +kernel
theorem dX7_goesOn_39 : decode cX7_goesOn 39 = .ok (.aload_n 0, 1) := by decide +kernel
theorem dX7_goesOn_40 : decode cX7_goesOn 40 = .ok (.iload_n 1, 1) := by decide +kernel
theorem dX7_goesOn_41 : decode cX7_goesOn 41 = .ok (.iload_n 2, 1) := by decide +kernel
theorem dX7_goesOn_42 : decode cX7_goesOn 42 = .ok (.invokevirtual 141, 3) := by decide +kernel
theorem dX7_goesOn_45 : decode cX7_goesOn 45 = .ok (.isub, 1) := by decide +kernel
theorem dX7_goesOn_46 : decode cX7_goesOn 46 = .ok (.iastore, 1) := by decide +kernel
theorem dX7_goesOn_47 : decode cX7_goesOn 47 = .ok (.iinc 2 1, 3) := by decide +kernel
theorem dX7_goesOn_50 : decode cX7_goesOn 50 = .ok (.goto (-36), 3) := by decide +kernel
theorem dX7_goesOn_53 : decode cX7_goesOn 53 = .ok (.iinc 1 1, 3) := by decide +kernel
theorem dX7_goesOn_56 : decode cX7_goesOn 56 = .ok (.goto (-54), 3) := by decide +kernel
theorem dX7_goesOn_59 : decode cX7_goesOn 59 = .ok (.aload_n 0, 1) := by decide +kernel
theorem dX7_goesOn_60 : decode cX7_goesOn 60 = .ok (.getfield 7, 3) := by decide +kernel
theorem dX7_goesOn_63 : decode cX7_goesOn 63 = .ok (.iconst 4, 1) := by decide +kernel
theorem dX7_goesOn_64 : decode cX7_goesOn 64 = .ok (.dup2, 1) := by decide +kernel
theorem dX7_goesOn_65 : decode cX7_goesOn 65 = .ok (.iaload, 1) := by decide +kernel
theorem dX7_goesOn_66 : decode cX7_goesOn 66 = .ok (.iconst 1, 1) := by decide +kernel
theorem dX7_goesOn_67 : decode cX7_goesOn 67 = .ok (.iadd, 1) := by decide +kernel
theorem dX7_goesOn_68 : decode cX7_goesOn 68 = .ok (.iastore, 1) := by decide +kernel
theorem dX7_goesOn_69 : decode cX7_goesOn 69 = .ok (.return_, 1) := by decide +kernel
set_option maxHeartbeats 4000000 in
set_option maxRecDepth 100000 in
theorem w_X7_goesOn_L14 {g : sk_G} {l : Launch} {p : Program} {e : Env} {s : State} {m : MethodId} {av : Array Value} {below : List Frame} {meth : Method} {c : Code} (C : sk_C g p s m av meth c cX7_goesOn 3 RX7 none) (a1 : Int32) {MM : sk_M} :
    ∀ (n : Nat) (a2 : Int32) (M : sk_M) (H : Heap) (locs : List Loc) (ls : Array Slot), lv_has ls 3 [(0, .ref (sk_ad g 88)), (1, .int a1), (2, .int a2)] → sk_P g M H → va_S (sk_A g) s.heap H locs → ∀ {out : sk_M}, f_X7_goesOn_L14 a1 n a2 M = some out → (∀ (M1 : sk_M) (H : Heap) (locs : List Loc) (ls : Array Slot), some M1 = some out → lv_has ls 3 [(0, .ref (sk_ad g 88)), (1, .int a1)] → sk_P g M1 H → va_S (sk_A g) s.heap H locs → W p l e (sk_rm 5) s m av below meth c H locs 0 0 (MQ below (sk_QV g MM) av s 0 0 (sk_A g)) (F0 m 53 ls [])) → W p l e (sk_rm 5) s m av below meth c H locs 0 0 (MQ below (sk_QV g MM) av s 0 0 (sk_A g)) (F0 m 14 ls []) := by
  obtain ⟨hx, hb, hml, hown, hts, hK, hE, hr, hlocks⟩ := id C
  intro n
  induction n with
  | zero =>
    intro a2 M H locs ls hl hM hS out h
    cases h
  | succ n ih =>
    intro a2 M H locs ls hl hM hS out h kx
    rw [f_X7_goesOn_L14] at h
    refine lv_iload_n hx hb dX7_goesOn_14 rfl (lv_at hl 2 rfl) ?_
    refine lv_aload_n hx hb dX7_goesOn_15 rfl (lv_at hl 0 rfl) ?_
    refine sk_getR (o := 88) (ci := 7) (j := 0) (t := 89) C hM rfl rfl (by decide) rfl rfl kw_935 dX7_goesOn_16 ?_
    refine lv_iconst (v := 0) hx hb dX7_goesOn_19 (by decide) ?_
    refine sk_iald (o := 89) C hM rfl (by decide) dX7_goesOn_20 ?_
    refine W.eq (g2 := F0 m 21 ls [.int (M 89 0), .int a2]) rfl ?_
    refine lv_icmp_ge hx hb dX7_goesOn_21 rfl (fun hc => ?_) (fun hc => ?_)
    · have h := sk_pos h hc
      exact kx _ _ _ _ h (lv_sub hl [0, 1] rfl) hM hS
    · have h := sk_neg h hc
      refine lv_aload_n hx hb dX7_goesOn_24 rfl (lv_at hl 0 rfl) ?_
      refine sk_getR (o := 88) (ci := 7) (j := 0) (t := 89) C hM rfl rfl (by decide) rfl rfl kw_935 dX7_goesOn_25 ?_
      refine lv_bipush (v := 43) hx hb dX7_goesOn_28 (by decide) ?_
      refine lv_bipush (v := 9) hx hb dX7_goesOn_30 (by decide) ?_
      refine lv_iload_n hx hb dX7_goesOn_32 rfl (lv_at hl 1 rfl) ?_
      refine lv_imul hx hb dX7_goesOn_33 ?_
      refine lv_iadd hx hb dX7_goesOn_34 ?_
      refine lv_iload_n hx hb dX7_goesOn_35 rfl (lv_at hl 2 rfl) ?_
      refine lv_iadd hx hb dX7_goesOn_36 ?_
      refine lv_dup2_11 hx hb dX7_goesOn_37 rfl rfl ?_
      obtain ⟨i_1, h⟩ := sk_chkE h
      refine sk_iald (o := 89) C hM rfl i_1 dX7_goesOn_38 ?_
      refine lv_aload_n hx hb dX7_goesOn_39 rfl (lv_at hl 0 rfl) ?_
      refine lv_iload_n hx hb dX7_goesOn_40 rfl (lv_at hl 1 rfl) ?_
      refine lv_iload_n hx hb dX7_goesOn_41 rfl (lv_at hl 2 rfl) ?_
      obtain ⟨x_2, M_3, h_4, h⟩ := sk_b2E h
      refine sk_contI (sk_runV (As := [.int a1, .int a2]) (rest := [.int (M 89 ((43 + (9 * a1)) + a2).toNatClampNeg), .int ((43 + (9 * a1)) + a2), .ref (sk_ad g 89)]) C (c_X7_losesOn g l a1 a2 M h_4) yo_X7_losesOn kw_1145 (sk_recv (ci := 7) C hM rfl rfl) (by decide) hM hS hl.1 rfl rfl (Nat.le_of_ble_eq_true rfl) dX7_goesOn_42) hS (fun H locs hM hS => ?_)
      refine lv_isub hx hb dX7_goesOn_45 ?_
      obtain ⟨i_5, h⟩ := sk_chkE h
      refine sk_iast (o := 89) C hM hS rfl i_5 dX7_goesOn_46 (fun M_6 eM_6 H locs hM hS => ?_)
      have h := sk_letU h eM_6
      refine lv_iinc (v := (a2 + 1)) (lv' := [(2, .int (a2 + 1)), (0, .ref (sk_ad g 88)), (1, .int a1)]) hx hb dX7_goesOn_47 hl (k := 2) rfl rfl (by decide) rfl (fun ls hl => ?_)
      refine lv_goto hx hb dX7_goesOn_50 rfl ?_
      exact ih (a2 + 1) M_6 _ _ _ (lv_sub hl [1, 2, 0] rfl) hM hS h kx
set_option maxHeartbeats 4000000 in
set_option maxRecDepth 100000 in
theorem w_X7_goesOn_L2 {g : sk_G} {l : Launch} {p : Program} {e : Env} {s : State} {m : MethodId} {av : Array Value} {below : List Frame} {meth : Method} {c : Code} (C : sk_C g p s m av meth c cX7_goesOn 3 RX7 none)  {MM : sk_M} :
    ∀ (n : Nat) (a1 : Int32) (M : sk_M) (H : Heap) (locs : List Loc) (ls : Array Slot), lv_has ls 3 [(0, .ref (sk_ad g 88)), (1, .int a1)] → sk_P g M H → va_S (sk_A g) s.heap H locs → ∀ {out : sk_M}, f_X7_goesOn_L2 n a1 M = some out → (∀ (M1 : sk_M) (H : Heap) (locs : List Loc) (ls : Array Slot), some M1 = some out → lv_has ls 3 [(0, .ref (sk_ad g 88))] → sk_P g M1 H → va_S (sk_A g) s.heap H locs → W p l e (sk_rm 5) s m av below meth c H locs 0 0 (MQ below (sk_QV g MM) av s 0 0 (sk_A g)) (F0 m 59 ls [])) → W p l e (sk_rm 5) s m av below meth c H locs 0 0 (MQ below (sk_QV g MM) av s 0 0 (sk_A g)) (F0 m 2 ls []) := by
  obtain ⟨hx, hb, hml, hown, hts, hK, hE, hr, hlocks⟩ := id C
  intro n
  induction n with
  | zero =>
    intro a1 M H locs ls hl hM hS out h
    cases h
  | succ n ih =>
    intro a1 M H locs ls hl hM hS out h kx
    rw [f_X7_goesOn_L2] at h
    refine lv_iload_n hx hb dX7_goesOn_2 rfl (lv_at hl 1 rfl) ?_
    refine lv_aload_n hx hb dX7_goesOn_3 rfl (lv_at hl 0 rfl) ?_
    refine sk_getR (o := 88) (ci := 7) (j := 0) (t := 89) C hM rfl rfl (by decide) rfl rfl kw_935 dX7_goesOn_4 ?_
    refine lv_iconst (v := 1) hx hb dX7_goesOn_7 (by decide) ?_
    refine sk_iald (o := 89) C hM rfl (by decide) dX7_goesOn_8 ?_
    refine W.eq (g2 := F0 m 9 ls [.int (M 89 1), .int a1]) rfl ?_
    refine lv_icmp_ge hx hb dX7_goesOn_9 rfl (fun hc => ?_) (fun hc => ?_)
    · have h := sk_pos h hc
      exact kx _ _ _ _ h (lv_sub hl [0] rfl) hM hS
    · have h := sk_neg h hc
      refine lv_iconst (v := 0) hx hb dX7_goesOn_12 (by decide) ?_
      refine lv_istore_n (lv' := [(2, .int 0), (0, .ref (sk_ad g 88)), (1, .int a1)]) hx hb dX7_goesOn_13 rfl hl (by decide) rfl (fun ls hl => ?_)
      obtain ⟨M_7, h_8, h⟩ := sk_b1E h
      refine w_X7_goesOn_L14 C a1 sk_FU 0 M _ _ _ (lv_sub hl [1, 2, 0] rfl) hM hS h_8 (fun y_9 H locs ls he hl hM hS => ?_)
      obtain rfl := Option.some.inj he
      refine lv_iinc (v := (a1 + 1)) (lv' := [(1, .int (a1 + 1)), (0, .ref (sk_ad g 88))]) hx hb dX7_goesOn_53 hl (k := 1) rfl rfl (by decide) rfl (fun ls hl => ?_)
      refine lv_goto hx hb dX7_goesOn_56 rfl ?_
      exact ih (a1 + 1) y_9 _ _ _ (lv_sub hl [1, 0] rfl) hM hS h kx
set_option maxHeartbeats 4000000 in
set_option maxRecDepth 100000 in
theorem c_X7_goesOn (g : sk_G) (l : Launch)  (M : sk_M) {MM : sk_M} (h : f_X7_goesOn M = some MM) : sk_MV g l yX7_goesOn cX7_goesOn 3 none 5 [.ref (sk_ad g 88)] M MM := by
  refine sk_go [(0, .ref (sk_ad g 88))] (by decide) (Nat.le_of_ble_eq_true rfl) rfl ?_
  intro p e s m av below meth c C ls hl hM hS
  obtain ⟨hx, hb, hml, hown, hts, hK, hE, hr, hlocks⟩ := id C
  rw [f_X7_goesOn] at h
  refine lv_iconst (v := 0) hx hb dX7_goesOn_0 (by decide) ?_
  refine lv_istore_n (lv' := [(1, .int 0), (0, .ref (sk_ad g 88))]) hx hb dX7_goesOn_1 rfl hl (by decide) rfl (fun ls hl => ?_)
  obtain ⟨M_10, h_12, h⟩ := sk_b1E h
  refine w_X7_goesOn_L2 C sk_FU 0 M _ _ _ (lv_sub hl [1, 0] rfl) hM hS h_12 (fun y_13 H locs ls he hl hM hS => ?_)
  obtain rfl := Option.some.inj he
  refine lv_aload_n hx hb dX7_goesOn_59 rfl (lv_at hl 0 rfl) ?_
  refine sk_getR (o := 88) (ci := 7) (j := 0) (t := 89) C hM rfl rfl (by decide) rfl rfl kw_935 dX7_goesOn_60 ?_
  refine lv_iconst (v := 4) hx hb dX7_goesOn_63 (by decide) ?_
  refine lv_dup2_11 hx hb dX7_goesOn_64 rfl rfl ?_
  refine sk_iald (o := 89) C hM rfl (by decide) dX7_goesOn_65 ?_
  refine W.eq (g2 := F0 m 66 ls [.int (y_13 89 4), .int 4, .ref (sk_ad g 89)]) rfl ?_
  refine lv_iconst (v := 1) hx hb dX7_goesOn_66 (by decide) ?_
  refine lv_iadd hx hb dX7_goesOn_67 ?_
  refine sk_iast (o := 89) C hM hS rfl (by decide) dX7_goesOn_68 (fun M_11 eM_11 H locs hM hS => ?_)
  have h := sk_letU h eM_11
  exact sk_vret C hM hS (Option.some.inj h) dX7_goesOn_69
theorem dX7_days_0 : decode cX7_days 0 = .ok (.iload_n 1, 1) := by decide +kernel
theorem dX7_days_1 : decode cX7_days 1 = .ok (.i2l, 1) := by decide +kernel
theorem dX7_days_2 : decode cX7_days 2 = .ok (.lconst 1, 1) := by decide +kernel
theorem dX7_days_3 : decode cX7_days 3 = .ok (.ldc2_w 146, 3) := by decide +kernel
theorem dX7_days_6 : decode cX7_days 6 = .ok (.invokestatic 71, 3) := by decide +kernel
theorem dX7_days_9 : decode cX7_days 9 = .ok (.ifCond .ne 6, 3) := by decide +kernel
theorem dX7_days_12 : decode cX7_days 12 = .ok (.ldc 80, 2) := by decide +kernel
theorem dX7_days_14 : decode cX7_days 14 = .ok (.ireturn, 1) := by decide +kernel
theorem dX7_days_15 : decode cX7_days 15 = .ok (.iconst 0, 1) := by decide +kernel
theorem dX7_days_16 : decode cX7_days 16 = .ok (.istore_n 2, 1) := by decide +kernel
theorem dX7_days_17 : decode cX7_days 17 = .ok (.iload_n 2, 1) := by decide +kernel
theorem dX7_days_18 : decode cX7_days 18 = .ok (.iload_n 1, 1) := by decide +kernel
theorem dX7_days_19 : decode cX7_days 19 = .ok (.if_icmp .ge 25, 3) := by decide +kernel
theorem dX7_days_22 : decode cX7_days 22 = .ok (.aload_n 0, 1) := by decide +kernel
theorem dX7_days_23 : decode cX7_days 23 = .ok (.getfield 7, 3) := by decide +kernel
theorem dX7_days_26 : decode cX7_days 26 = .ok (.iconst 4, 1) := by decide +kernel
theorem dX7_days_27 : decode cX7_days 27 = .ok (.iaload, 1) := by decide +kernel
theorem dX7_days_28 : decode cX7_days 28 = .ok (.sipush 9999, 3) := by decide +kernel
theorem dX7_days_31 : decode cX7_days 31 = .ok (.if_icmp .ge 13, 3) := by decide +kernel
theorem dX7_days_34 : decode cX7_days 34 = .ok (.aload_n 0, 1) := by decide +kernel
theorem dX7_days_35 : decode cX7_days 35 = .ok (.invokevirtual 148, 3) := by decide +kernel
theorem dX7_days_38 : decode cX7_days 38 = .ok (.iinc 2 1, 3) := by decide +kernel
theorem dX7_days_41 : decode cX7_days 41 = .ok (.goto (-24), 3) := by decide +kernel
theorem dX7_days_44 : decode cX7_days 44 = .ok (.aload_n 0, 1) := by decide +kernel
theorem dX7_days_45 : decode cX7_days 45 = .ok (.getfield 7, 3) := by decide +kernel
theorem dX7_days_48 : decode cX7_days 48 = .ok (.iconst 4, 1) := by decide +kernel
theorem dX7_days_49 : decode cX7_days 49 = .ok (.iaload, 1) := by decide +kernel
theorem dX7_days_50 : decode cX7_days 50 = .ok (.ireturn, 1) := by decide +kernel
set_option maxHeartbeats 4000000 in
set_option maxRecDepth 100000 in
theorem w_X7_days_L17 {g : sk_G} {l : Launch} {p : Program} {e : Env} {s : State} {m : MethodId} {av : Array Value} {below : List Frame} {meth : Method} {c : Code} (C : sk_C g p s m av meth c cX7_days 3 RX7 (some .int)) (a1 : Int32) {rr : Int32} {MM : sk_M} :
    ∀ (n : Nat) (a2 : Int32) (M : sk_M) (H : Heap) (locs : List Loc) (ls : Array Slot), lv_has ls 3 [(0, .ref (sk_ad g 88)), (1, .int a1), (2, .int a2)] → sk_P g M H → va_S (sk_A g) s.heap H locs → ∀ {out : sk_M}, f_X7_days_L17 a1 n a2 M = some out → (∀ (M1 : sk_M) (H : Heap) (locs : List Loc) (ls : Array Slot), some M1 = some out → lv_has ls 3 [(0, .ref (sk_ad g 88))] → sk_P g M1 H → va_S (sk_A g) s.heap H locs → W p l e (sk_rm 6) s m av below meth c H locs 0 0 (MQ below (sk_QI g rr MM) av s 0 0 (sk_A g)) (F0 m 44 ls [])) → W p l e (sk_rm 6) s m av below meth c H locs 0 0 (MQ below (sk_QI g rr MM) av s 0 0 (sk_A g)) (F0 m 17 ls []) := by
  obtain ⟨hx, hb, hml, hown, hts, hK, hE, hr, hlocks⟩ := id C
  intro n
  induction n with
  | zero =>
    intro a2 M H locs ls hl hM hS out h
    cases h
  | succ n ih =>
    intro a2 M H locs ls hl hM hS out h kx
    rw [f_X7_days_L17] at h
    refine lv_iload_n hx hb dX7_days_17 rfl (lv_at hl 2 rfl) ?_
    refine lv_iload_n hx hb dX7_days_18 rfl (lv_at hl 1 rfl) ?_
    refine lv_icmp_ge hx hb dX7_days_19 rfl (fun hc => ?_) (fun hc => ?_)
    · have h := sk_pos h hc
      exact kx _ _ _ _ h (lv_sub hl [0] rfl) hM hS
    · have h := sk_neg h hc
      refine lv_aload_n hx hb dX7_days_22 rfl (lv_at hl 0 rfl) ?_
      refine sk_getR (o := 88) (ci := 7) (j := 0) (t := 89) C hM rfl rfl (by decide) rfl rfl kw_935 dX7_days_23 ?_
      refine lv_iconst (v := 4) hx hb dX7_days_26 (by decide) ?_
      refine sk_iald (o := 89) C hM rfl (by decide) dX7_days_27 ?_
      refine W.eq (g2 := F0 m 28 ls [.int (M 89 4)]) rfl ?_
      refine lv_sipush (v := 9999) hx hb dX7_days_28 (by decide) ?_
      refine lv_icmp_ge hx hb dX7_days_31 rfl (fun hc => ?_) (fun hc => ?_)
      · have h := sk_pos h hc
        exact kx _ _ _ _ h (lv_sub hl [0] rfl) hM hS
      · have h := sk_neg h hc
        refine lv_aload_n hx hb dX7_days_34 rfl (lv_at hl 0 rfl) ?_
        obtain ⟨M_2, h_3, h⟩ := sk_b1E h
        refine sk_contV (sk_runV (As := []) (rest := []) C (c_X7_goesOn g l  M h_3) yo_X7_goesOn kw_1189 (sk_recv (ci := 7) C hM rfl rfl) (by decide) hM hS hl.1 rfl rfl (Nat.le_of_ble_eq_true rfl) dX7_days_35) hS (fun H locs hM hS => ?_)
        refine lv_iinc (v := (a2 + 1)) (lv' := [(2, .int (a2 + 1)), (0, .ref (sk_ad g 88)), (1, .int a1)]) hx hb dX7_days_38 hl (k := 2) rfl rfl (by decide) rfl (fun ls hl => ?_)
        refine lv_goto hx hb dX7_days_41 rfl ?_
        exact ih (a2 + 1) M_2 _ _ _ (lv_sub hl [1, 2, 0] rfl) hM hS h kx
set_option maxHeartbeats 4000000 in
set_option maxRecDepth 100000 in
theorem c_X7_days (g : sk_G) (l : Launch) (a1 : Int32) (M : sk_M) {rr : Int32} {MM : sk_M} (h : f_X7_days a1 M = some (rr, MM)) : sk_MI g l yX7_days cX7_days 3 (some .int) 6 [.ref (sk_ad g 88), .int a1] M rr MM := by
  refine sk_go [(0, .ref (sk_ad g 88)), (1, .int a1)] (by decide) (Nat.le_of_ble_eq_true rfl) rfl ?_
  intro p e s m av below meth c C ls hl hM hS
  obtain ⟨hx, hb, hml, hown, hts, hK, hE, hr, hlocks⟩ := id C
  rw [f_X7_days] at h
  refine lv_iload_n hx hb dX7_days_0 rfl (lv_at hl 1 rfl) ?_
  refine lv_i2l (v := a1.toInt64) hx hb dX7_days_1 rfl ?_
  refine lv_lconst (v := 1) hx hb dX7_days_2 (by decide) ?_
  refine lv_ldc2 (v := 60) hx hb hown (hts _ kw_1188) dX7_days_3 ?_
  refine sk_contI (sk_runS (As := [.long (a1.toInt64), .long 1, .long 60]) (rest := []) C (c_X7_isIn g l (a1.toInt64) 1 60 M rfl) yo_X7_isIn kw_1040 (by decide) hM hS hl.1 rfl rfl (Nat.le_of_ble_eq_true rfl) dX7_days_6) hS (fun H locs hM hS => ?_)
  refine lv_if_ne hx hb dX7_days_9 rfl (fun hc => ?_) (fun hc => ?_)
  · have h := sk_neg h hc
    refine lv_iconst (v := 0) hx hb dX7_days_15 (by decide) ?_
    refine lv_istore_n (lv' := [(2, .int 0), (0, .ref (sk_ad g 88)), (1, .int a1)]) hx hb dX7_days_16 rfl hl (by decide) rfl (fun ls hl => ?_)
    obtain ⟨M_4, h_5, h⟩ := sk_b1E h
    refine w_X7_days_L17 C a1 sk_FU 0 M _ _ _ (lv_sub hl [1, 2, 0] rfl) hM hS h_5 (fun y_6 H locs ls he hl hM hS => ?_)
    obtain rfl := Option.some.inj he
    refine lv_aload_n hx hb dX7_days_44 rfl (lv_at hl 0 rfl) ?_
    refine sk_getR (o := 88) (ci := 7) (j := 0) (t := 89) C hM rfl rfl (by decide) rfl rfl kw_935 dX7_days_45 ?_
    refine lv_iconst (v := 4) hx hb dX7_days_48 (by decide) ?_
    refine sk_iald (o := 89) C hM rfl (by decide) dX7_days_49 ?_
    refine W.eq (g2 := F0 m 50 ls [.int (y_6 89 4)]) rfl ?_
    exact sk_iret C hM hS (sk_e2 h) dX7_days_50
  · have h := sk_pos h hc
    refine lv_ldc (v := (-1000000001)) hx hb hown (hts _ kw_1044) dX7_days_12 ?_
    exact sk_iret C hM hS (sk_e2 h) dX7_days_14
theorem dX7_smeltOn_0 : decode cX7_smeltOn 0 = .ok (.iconst 0, 1) := by decide +kernel
theorem dX7_smeltOn_1 : decode cX7_smeltOn 1 = .ok (.istore_n 3, 1) := by decide +kernel
theorem dX7_smeltOn_2 : decode cX7_smeltOn 2 = .ok (.iconst 0, 1) := by decide +kernel
theorem dX7_smeltOn_3 : decode cX7_smeltOn 3 = .ok (.istore 4, 2) := by decide +kernel
theorem dX7_smeltOn_5 : decode cX7_smeltOn 5 = .ok (.iload 4, 2) := by decide +kernel
theorem dX7_smeltOn_7 : decode cX7_smeltOn 7 = .ok (.aload_n 0, 1) := by decide +kernel
theorem dX7_smeltOn_8 : decode cX7_smeltOn 8 = .ok (.getfield 7, 3) := by decide +kernel
theorem dX7_smeltOn_11 : decode cX7_smeltOn 11 = .ok (.iconst 0, 1) := by decide +kernel
theorem dX7_smeltOn_12 : decode cX7_smeltOn 12 = .ok (.iaload, 1) := by decide +kernel
theorem dX7_smeltOn_13 : decode cX7_smeltOn 13 = .ok (.if_icmp .ge 117, 3) := by decide +kernel
theorem dX7_smeltOn_16 : decode cX7_smeltOn 16 = .ok (.aload_n 0, 1) := by decide +kernel
theorem dX7_smeltOn_17 : decode cX7_smeltOn 17 = .ok (.iload_n 1, 1) := by decide +kernel
theorem dX7_smeltOn_18 : decode cX7_smeltOn 18 = .ok (.iload 4, 2) := by decide +kernel
theorem dX7_smeltOn_20 : decode cX7_smeltOn 20 = .ok (.invokevirtual 100, 3) := by decide +kernel
theorem dX7_smeltOn_23 : decode cX7_smeltOn 23 = .ok (.aload_n 0, 1) := by decide +kernel
theorem dX7_smeltOn_24 : decode cX7_smeltOn 24 = .ok (.getfield 7, 3) := by decide +kernel
theorem dX7_smeltOn_27 : decode cX7_smeltOn 27 = .ok (.bipush 6, 2) := by decide +kernel
theorem dX7_smeltOn_29 : decode cX7_smeltOn 29 = .ok (.iload_n 2, 1) := by decide +kernel
theorem dX7_smeltOn_30 : decode cX7_smeltOn 30 = .ok (.iadd, 1) := by decide +kernel
theorem dX7_smeltOn_31 : decode cX7_smeltOn 31 = .ok (.iaload, 1) := by decide +kernel
theorem dX7_smeltOn_32 : decode cX7_smeltOn 32 = .ok (.if_icmp .lt 7, 3) := by decide +kernel
theorem dX7_smeltOn_35 : decode cX7_smeltOn 35 = .ok (.iconst 1, 1) := by decide +kernel
theorem dX7_smeltOn_36 : decode cX7_smeltOn 36 = .ok (.goto 4, 3) := by decide +kernel
theorem dX7_smeltOn_39 : decode cX7_smeltOn 39 = .ok (.iconst 0, 1) := by decide +kernel
theorem dX7_smeltOn_40 : decode cX7_smeltOn 40 = .ok (.istore 5, 2) := by decide +kernel
theorem dX7_smeltOn_42 : decode cX7_smeltOn 42 = .ok (.iconst 0, 1) := by decide +kernel
theorem dX7_smeltOn_43 : decode cX7_smeltOn 43 = .ok (.istore 6, 2) := by decide +kernel
theorem dX7_smeltOn_45 : decode cX7_smeltOn 45 = .ok (.iload 6, 2) := by decide +kernel
theorem dX7_smeltOn_47 : decode cX7_smeltOn 47 = .ok (.aload_n 0, 1) := by decide +kernel
theorem dX7_smeltOn_48 : decode cX7_smeltOn 48 = .ok (.getfield 7, 3) := by decide +kernel
theorem dX7_smeltOn_51 : decode cX7_smeltOn 51 = .ok (.iconst 0, 1) := by decide +kernel
theorem dX7_smeltOn_52 : decode cX7_smeltOn 52 = .ok (.iaload, 1) := by decide +kernel
theorem dX7_smeltOn_53 : decode cX7_smeltOn 53 = .ok (.if_icmp .ge 55, 3) := by decide +kernel
theorem dX7_smeltOn_56 : decode cX7_smeltOn 56 = .ok (.iload 5, 2) := by decide +kernel
theorem dX7_smeltOn_58 : decode cX7_smeltOn 58 = .ok (.ifCond .eq 41, 3) := by decide +kernel
theorem dX7_smeltOn_61 : decode cX7_smeltOn 61 = .ok (.aload_n 0, 1) := by decide +kernel
theorem dX7_smeltOn_62 : decode cX7_smeltOn 62 = .ok (.iload 6, 2) := by decide +kernel
theorem dX7_smeltOn_64 : decode cX7_smeltOn 64 = .ok (.iconst 2, 1) := by decide +kernel
theorem dX7_smeltOn_65 : decode cX7_smeltOn 65 = .ok (.invokevirtual 86, 3) := by decide +kernel
theorem dX7_smeltOn_68 : decode cX7_smeltOn 68 = .ok (.iload 4, 2) := by decide +kernel
theorem dX7_smeltOn_70 : decode cX7_smeltOn 70 = .ok (.ishr, 1) := by decide +kernel
theorem dX7_smeltOn_71 : decode cX7_smeltOn 71 = .ok (.iconst 1, 1) := by decide +kernel
theorem dX7_smeltOn_72 : decode cX7_smeltOn 72 = .ok (.iand, 1) := by decide +kernel
theorem dX7_smeltOn_73 : decode cX7_smeltOn 73 = .ok (.ifCond .eq 22, 3) := by decide +kernel
theorem dX7_smeltOn_76 : decode cX7_smeltOn 76 = .ok (.aload_n 0, 1) := by decide +kernel
theorem dX7_smeltOn_77 : decode cX7_smeltOn 77 = .ok (.iload_n 1, 1) := by decide +kernel
theorem dX7_smeltOn_78 : decode cX7_smeltOn 78 = .ok (.iload 6, 2) := by decide +kernel
theorem dX7_smeltOn_80 : decode cX7_smeltOn 80 = .ok (.invokevirtual 100, 3) := by decide +kernel
theorem dX7_smeltOn_83 : decode cX7_smeltOn 83 = .ok (.iconst 2, 1) := by decide +kernel
theorem dX7_smeltOn_84 : decode cX7_smeltOn 84 = .ok (.aload_n 0, 1) := by decide +kernel
theorem dX7_smeltOn_85 : decode cX7_smeltOn 85 = .ok (.iload_n 1, 1) := by decide +kernel
theorem dX7_smeltOn_86 : decode cX7_smeltOn 86 = .ok (.iload 4, 2) := by decide +kernel
theorem dX7_smeltOn_88 : decode cX7_smeltOn 88 = .ok (.invokevirtual 100, 3) := by decide +kernel
theorem dX7_smeltOn_91 : decode cX7_smeltOn 91 = .ok (.imul, 1) := by decide +kernel
theorem dX7_smeltOn_92 : decode cX7_smeltOn 92 = .ok (.if_icmp .ge 7, 3) := by decide +kernel
theorem dX7_smeltOn_95 : decode cX7_smeltOn 95 = .ok (.iconst 1, 1) := by decide +kernel
theorem dX7_smeltOn_96 : decode cX7_smeltOn 96 = .ok (.goto 4, 3) := by decide +kernel
theorem dX7_smeltOn_99 : decode cX7_smeltOn 99 = .ok (.iconst 0, 1) := by decide +kernel
theorem dX7_smeltOn_100 : decode cX7_smeltOn 100 = .ok (.istore 5, 2) := by decide +kernel
theorem dX7_smeltOn_102 : decode cX7_smeltOn 102 = .ok (.iinc 6 1, 3) := by decide +kernel
theorem dX7_smeltOn_105 : decode cX7_smeltOn 105 = .ok (.goto (-60), 3) := by decide +kernel
theorem dX7_smeltOn_108 : decode cX7_smeltOn 108 = .ok (.iload_n 3, 1) := by decide +kernel
theorem dX7_smeltOn_109 : decode cX7_smeltOn 109 = .ok (.iload 5, 2) := by decide +kernel
theorem dX7_smeltOn_111 : decode cX7_smeltOn 111 = .ok (.ifCond .eq 10, 3) := by decide +kernel
theorem dX7_smeltOn_114 : decode cX7_smeltOn 114 = .ok (.iconst 1, 1) := by decide +kernel
theorem dX7_smeltOn_115 : decode cX7_smeltOn 115 = .ok (.iload 4, 2) := by decide +kernel
theorem dX7_smeltOn_117 : decode cX7_smeltOn 117 = .ok (.ishl, 1) := by decide +kernel
theorem dX7_smeltOn_118 : decode cX7_smeltOn 118 = .ok (.goto 4, 3) := by decide +kernel
theorem dX7_smeltOn_121 : decode cX7_smeltOn 121 = .ok (.iconst 0, 1) := by decide +kernel
theorem dX7_smeltOn_122 : decode cX7_smeltOn 122 = .ok (.ior, 1) := by decide +kernel
theorem dX7_smeltOn_123 : decode cX7_smeltOn 123 = .ok (.istore_n 3, 1) := by decide +kernel
theorem dX7_smeltOn_124 : decode cX7_smeltOn 124 = .ok (.iinc 4 1, 3) := by decide +kernel
theorem dX7_smeltOn_127 : decode cX7_smeltOn 127 = .ok (.goto (-122), 3) := by decide +kernel
theorem dX7_smeltOn_130 : decode cX7_smeltOn 130 = .ok (.iload_n 3, 1) := by decide +kernel
theorem dX7_smeltOn_131 : decode cX7_smeltOn 131 = .ok (.ireturn, 1) := by decide +kernel
set_option maxHeartbeats 4000000 in
set_option maxRecDepth 100000 in
theorem w_X7_smeltOn_L45 {g : sk_G} {l : Launch} {p : Program} {e : Env} {s : State} {m : MethodId} {av : Array Value} {below : List Frame} {meth : Method} {c : Code} (C : sk_C g p s m av meth c cX7_smeltOn 7 RX7 (some .int)) (a1 : Int32) (a2 : Int32) (a3 : Int32) (a4 : Int32) (M : sk_M) {rr : Int32} :
    ∀ (n : Nat) (a5 : Int32) (a6 : Int32) (H : Heap) (locs : List Loc) (ls : Array Slot), lv_has ls 7 [(0, .ref (sk_ad g 88)), (1, .int a1), (2, .int a2), (3, .int a3), (4, .int a4), (5, .int a5), (6, .int a6)] → sk_P g M H → va_S (sk_A g) s.heap H locs → ∀ {out : Int32}, f_X7_smeltOn_L45 a1 a2 a3 a4 M n a5 a6 = some out → (∀ (x5 : Int32) (H : Heap) (locs : List Loc) (ls : Array Slot), some x5 = some out → lv_has ls 7 [(0, .ref (sk_ad g 88)), (1, .int a1), (2, .int a2), (3, .int a3), (4, .int a4), (5, .int x5)] → sk_P g M H → va_S (sk_A g) s.heap H locs → W p l e (sk_rm 2) s m av below meth c H locs 0 0 (MQ below (sk_QI g rr M) av s 0 0 (sk_A g)) (F0 m 108 ls [])) → W p l e (sk_rm 2) s m av below meth c H locs 0 0 (MQ below (sk_QI g rr M) av s 0 0 (sk_A g)) (F0 m 45 ls []) := by
  obtain ⟨hx, hb, hml, hown, hts, hK, hE, hr, hlocks⟩ := id C
  intro n
  induction n with
  | zero =>
    intro a5 a6 H locs ls hl hM hS out h
    cases h
  | succ n ih =>
    intro a5 a6 H locs ls hl hM hS out h kx
    rw [f_X7_smeltOn_L45] at h
    refine lv_iload hx hb dX7_smeltOn_45 (lv_at hl 6 rfl) ?_
    refine lv_aload_n hx hb dX7_smeltOn_47 rfl (lv_at hl 0 rfl) ?_
    refine sk_getR (o := 88) (ci := 7) (j := 0) (t := 89) C hM rfl rfl (by decide) rfl rfl kw_935 dX7_smeltOn_48 ?_
    refine lv_iconst (v := 0) hx hb dX7_smeltOn_51 (by decide) ?_
    refine sk_iald (o := 89) C hM rfl (by decide) dX7_smeltOn_52 ?_
    refine W.eq (g2 := F0 m 53 ls [.int (M 89 0), .int a6]) rfl ?_
    refine lv_icmp_ge hx hb dX7_smeltOn_53 rfl (fun hc => ?_) (fun hc => ?_)
    · have h := sk_pos h hc
      exact kx _ _ _ _ h (lv_sub hl [0, 1, 2, 3, 4, 5] rfl) hM hS
    · have h := sk_neg h hc
      refine lv_iload hx hb dX7_smeltOn_56 (lv_at hl 5 rfl) ?_
      refine lv_if_eq hx hb dX7_smeltOn_58 rfl (fun hc => ?_) (fun hc => ?_)
      · have h := sk_pos h hc
        refine lv_iconst (v := 0) hx hb dX7_smeltOn_99 (by decide) ?_
        refine lv_istore (lv' := [(5, .int 0), (0, .ref (sk_ad g 88)), (1, .int a1), (2, .int a2), (3, .int a3), (4, .int a4), (6, .int a6)]) hx hb dX7_smeltOn_100 hl (by decide) rfl (fun ls hl => ?_)
        refine lv_iinc (v := (a6 + 1)) (lv' := [(6, .int (a6 + 1)), (5, .int 0), (0, .ref (sk_ad g 88)), (1, .int a1), (2, .int a2), (3, .int a3), (4, .int a4)]) hx hb dX7_smeltOn_102 hl (k := 6) rfl rfl (by decide) rfl (fun ls hl => ?_)
        refine lv_goto hx hb dX7_smeltOn_105 rfl ?_
        exact ih 0 (a6 + 1) _ _ _ (lv_sub hl [2, 3, 4, 5, 6, 1, 0] rfl) hM hS h kx
      · have h := sk_neg h hc
        refine lv_aload_n hx hb dX7_smeltOn_61 rfl (lv_at hl 0 rfl) ?_
        refine lv_iload hx hb dX7_smeltOn_62 (lv_at hl 6 rfl) ?_
        refine lv_iconst (v := 2) hx hb dX7_smeltOn_64 (by decide) ?_
        obtain ⟨x_5, h_6, h⟩ := sk_b1E h
        refine sk_contI (sk_runV (As := [.int a6, .int 2]) (rest := []) C (c_X7_of g l a6 2 M h_6) yo_X7_of kw_1059 (sk_recv (ci := 7) C hM rfl rfl) (by decide) hM hS hl.1 rfl rfl (Nat.le_of_ble_eq_true rfl) dX7_smeltOn_65) hS (fun H locs hM hS => ?_)
        refine lv_iload hx hb dX7_smeltOn_68 (lv_at hl 4 rfl) ?_
        refine lv_ishr hx hb dX7_smeltOn_70 ?_
        refine lv_iconst (v := 1) hx hb dX7_smeltOn_71 (by decide) ?_
        refine lv_iand hx hb dX7_smeltOn_72 ?_
        refine lv_if_eq hx hb dX7_smeltOn_73 rfl (fun hc => ?_) (fun hc => ?_)
        · have h := sk_pos h hc
          refine lv_iconst (v := 1) hx hb dX7_smeltOn_95 (by decide) ?_
          refine lv_goto hx hb dX7_smeltOn_96 rfl ?_
          refine lv_istore (lv' := [(5, .int 1), (0, .ref (sk_ad g 88)), (1, .int a1), (2, .int a2), (3, .int a3), (4, .int a4), (6, .int a6)]) hx hb dX7_smeltOn_100 hl (by decide) rfl (fun ls hl => ?_)
          refine lv_iinc (v := (a6 + 1)) (lv' := [(6, .int (a6 + 1)), (5, .int 1), (0, .ref (sk_ad g 88)), (1, .int a1), (2, .int a2), (3, .int a3), (4, .int a4)]) hx hb dX7_smeltOn_102 hl (k := 6) rfl rfl (by decide) rfl (fun ls hl => ?_)
          refine lv_goto hx hb dX7_smeltOn_105 rfl ?_
          exact ih 1 (a6 + 1) _ _ _ (lv_sub hl [2, 3, 4, 5, 6, 1, 0] rfl) hM hS h kx
        · have h := sk_neg h hc
          refine lv_aload_n hx hb dX7_smeltOn_76 rfl (lv_at hl 0 rfl) ?_
          refine lv_iload_n hx hb dX7_smeltOn_77 rfl (lv_at hl 1 rfl) ?_
          refine lv_iload hx hb dX7_smeltOn_78 (lv_at hl 6 rfl) ?_
          obtain ⟨x_7, h_8, h⟩ := sk_b1E h
          refine sk_contI (sk_runV (As := [.int a1, .int a6]) (rest := []) C (c_X7_on g l a1 a6 M h_8) yo_X7_on kw_1137 (sk_recv (ci := 7) C hM rfl rfl) (by decide) hM hS hl.1 rfl rfl (Nat.le_of_ble_eq_true rfl) dX7_smeltOn_80) hS (fun H locs hM hS => ?_)
          refine lv_iconst (v := 2) hx hb dX7_smeltOn_83 (by decide) ?_
          refine lv_aload_n hx hb dX7_smeltOn_84 rfl (lv_at hl 0 rfl) ?_
          refine lv_iload_n hx hb dX7_smeltOn_85 rfl (lv_at hl 1 rfl) ?_
          refine lv_iload hx hb dX7_smeltOn_86 (lv_at hl 4 rfl) ?_
          obtain ⟨x_9, h_10, h⟩ := sk_b1E h
          refine sk_contI (sk_runV (As := [.int a1, .int a4]) (rest := [.int 2, .int x_7]) C (c_X7_on g l a1 a4 M h_10) yo_X7_on kw_1137 (sk_recv (ci := 7) C hM rfl rfl) (by decide) hM hS hl.1 rfl rfl (Nat.le_of_ble_eq_true rfl) dX7_smeltOn_88) hS (fun H locs hM hS => ?_)
          refine lv_imul hx hb dX7_smeltOn_91 ?_
          have J : ∀ (vv : Int32) (H : Heap) (locs : List Loc), (if (2 * x_9) ≤ x_7 then 0 else 1 : Int32) = vv → sk_P g M H → va_S (sk_A g) s.heap H locs → W p l e (sk_rm 2) s m av below meth c H locs 0 0 (MQ below (sk_QI g rr M) av s 0 0 (sk_A g)) (F0 m 100 ls [.int vv]) := by
            intro vv H locs hvv hM hS
            subst hvv
            refine lv_topi (fun x_11 ex_11 => ?_)
            have h := sk_letU h ex_11
            refine lv_istore (lv' := [(5, .int x_11), (0, .ref (sk_ad g 88)), (1, .int a1), (2, .int a2), (3, .int a3), (4, .int a4), (6, .int a6)]) hx hb dX7_smeltOn_100 hl (by decide) rfl (fun ls hl => ?_)
            refine lv_iinc (v := (a6 + 1)) (lv' := [(6, .int (a6 + 1)), (5, .int x_11), (0, .ref (sk_ad g 88)), (1, .int a1), (2, .int a2), (3, .int a3), (4, .int a4)]) hx hb dX7_smeltOn_102 hl (k := 6) rfl rfl (by decide) rfl (fun ls hl => ?_)
            refine lv_goto hx hb dX7_smeltOn_105 rfl ?_
            exact ih x_11 (a6 + 1) _ _ _ (lv_sub hl [2, 3, 4, 5, 6, 1, 0] rfl) hM hS h kx
          refine lv_icmp_ge hx hb dX7_smeltOn_92 rfl (fun hc => ?_) (fun hc => ?_)
          · have J := fun vv H locs q => J vv H locs ((if_pos hc).trans q)
            refine lv_iconst (v := 0) hx hb dX7_smeltOn_99 (by decide) ?_
            exact J _ _ _ rfl hM hS
          · have J := fun vv H locs q => J vv H locs ((if_neg hc).trans q)
            refine lv_iconst (v := 1) hx hb dX7_smeltOn_95 (by decide) ?_
            refine lv_goto hx hb dX7_smeltOn_96 rfl ?_
            exact J _ _ _ rfl hM hS
set_option maxHeartbeats 4000000 in
set_option maxRecDepth 100000 in
theorem w_X7_smeltOn_L5 {g : sk_G} {l : Launch} {p : Program} {e : Env} {s : State} {m : MethodId} {av : Array Value} {below : List Frame} {meth : Method} {c : Code} (C : sk_C g p s m av meth c cX7_smeltOn 7 RX7 (some .int)) (a1 : Int32) (a2 : Int32) (M : sk_M) {rr : Int32} :
    ∀ (n : Nat) (a3 : Int32) (a4 : Int32) (H : Heap) (locs : List Loc) (ls : Array Slot), lv_has ls 7 [(0, .ref (sk_ad g 88)), (1, .int a1), (2, .int a2), (3, .int a3), (4, .int a4)] → sk_P g M H → va_S (sk_A g) s.heap H locs → ∀ {out : Int32}, f_X7_smeltOn_L5 a1 a2 M n a3 a4 = some out → (∀ (x3 : Int32) (H : Heap) (locs : List Loc) (ls : Array Slot), some x3 = some out → lv_has ls 7 [(3, .int x3)] → sk_P g M H → va_S (sk_A g) s.heap H locs → W p l e (sk_rm 2) s m av below meth c H locs 0 0 (MQ below (sk_QI g rr M) av s 0 0 (sk_A g)) (F0 m 130 ls [])) → W p l e (sk_rm 2) s m av below meth c H locs 0 0 (MQ below (sk_QI g rr M) av s 0 0 (sk_A g)) (F0 m 5 ls []) := by
  obtain ⟨hx, hb, hml, hown, hts, hK, hE, hr, hlocks⟩ := id C
  intro n
  induction n with
  | zero =>
    intro a3 a4 H locs ls hl hM hS out h
    cases h
  | succ n ih =>
    intro a3 a4 H locs ls hl hM hS out h kx
    rw [f_X7_smeltOn_L5] at h
    refine lv_iload hx hb dX7_smeltOn_5 (lv_at hl 4 rfl) ?_
    refine lv_aload_n hx hb dX7_smeltOn_7 rfl (lv_at hl 0 rfl) ?_
    refine sk_getR (o := 88) (ci := 7) (j := 0) (t := 89) C hM rfl rfl (by decide) rfl rfl kw_935 dX7_smeltOn_8 ?_
    refine lv_iconst (v := 0) hx hb dX7_smeltOn_11 (by decide) ?_
    refine sk_iald (o := 89) C hM rfl (by decide) dX7_smeltOn_12 ?_
    refine W.eq (g2 := F0 m 13 ls [.int (M 89 0), .int a4]) rfl ?_
    refine lv_icmp_ge hx hb dX7_smeltOn_13 rfl (fun hc => ?_) (fun hc => ?_)
    · have h := sk_pos h hc
      exact kx _ _ _ _ h (lv_sub hl [3] rfl) hM hS
    · have h := sk_neg h hc
      refine lv_aload_n hx hb dX7_smeltOn_16 rfl (lv_at hl 0 rfl) ?_
      refine lv_iload_n hx hb dX7_smeltOn_17 rfl (lv_at hl 1 rfl) ?_
      refine lv_iload hx hb dX7_smeltOn_18 (lv_at hl 4 rfl) ?_
      obtain ⟨x_1, h_2, h⟩ := sk_b1E h
      refine sk_contI (sk_runV (As := [.int a1, .int a4]) (rest := []) C (c_X7_on g l a1 a4 M h_2) yo_X7_on kw_1137 (sk_recv (ci := 7) C hM rfl rfl) (by decide) hM hS hl.1 rfl rfl (Nat.le_of_ble_eq_true rfl) dX7_smeltOn_20) hS (fun H locs hM hS => ?_)
      refine lv_aload_n hx hb dX7_smeltOn_23 rfl (lv_at hl 0 rfl) ?_
      refine sk_getR (o := 88) (ci := 7) (j := 0) (t := 89) C hM rfl rfl (by decide) rfl rfl kw_935 dX7_smeltOn_24 ?_
      refine lv_bipush (v := 6) hx hb dX7_smeltOn_27 (by decide) ?_
      refine lv_iload_n hx hb dX7_smeltOn_29 rfl (lv_at hl 2 rfl) ?_
      refine lv_iadd hx hb dX7_smeltOn_30 ?_
      obtain ⟨i_3, h⟩ := sk_chkE h
      refine sk_iald (o := 89) C hM rfl i_3 dX7_smeltOn_31 ?_
      have J : ∀ (vv : Int32) (H : Heap) (locs : List Loc), (if x_1 < (M 89 (6 + a2).toNatClampNeg) then 0 else 1 : Int32) = vv → sk_P g M H → va_S (sk_A g) s.heap H locs → W p l e (sk_rm 2) s m av below meth c H locs 0 0 (MQ below (sk_QI g rr M) av s 0 0 (sk_A g)) (F0 m 40 ls [.int vv]) := by
        intro vv H locs hvv hM hS
        subst hvv
        refine lv_topi (fun x_4 ex_4 => ?_)
        have h := sk_letU h ex_4
        refine lv_istore (lv' := [(5, .int x_4), (0, .ref (sk_ad g 88)), (1, .int a1), (2, .int a2), (3, .int a3), (4, .int a4)]) hx hb dX7_smeltOn_40 hl (by decide) rfl (fun ls hl => ?_)
        refine lv_iconst (v := 0) hx hb dX7_smeltOn_42 (by decide) ?_
        refine lv_istore (lv' := [(6, .int 0), (5, .int x_4), (0, .ref (sk_ad g 88)), (1, .int a1), (2, .int a2), (3, .int a3), (4, .int a4)]) hx hb dX7_smeltOn_43 hl (by decide) rfl (fun ls hl => ?_)
        obtain ⟨x_12, h_14, h⟩ := sk_b1E h
        refine w_X7_smeltOn_L45 C a1 a2 a3 a4 M sk_FU x_4 0 _ _ _ (lv_sub hl [2, 3, 4, 5, 6, 1, 0] rfl) hM hS h_14 (fun y_15 H locs ls he hl hM hS => ?_)
        obtain rfl := Option.some.inj he
        refine lv_iload_n hx hb dX7_smeltOn_108 rfl (lv_at hl 3 rfl) ?_
        refine lv_iload hx hb dX7_smeltOn_109 (lv_at hl 5 rfl) ?_
        have J : ∀ (vv : Int32) (H : Heap) (locs : List Loc), (if y_15 = 0 then 0 else (1 <<< (a4 &&& 31)) : Int32) = vv → sk_P g M H → va_S (sk_A g) s.heap H locs → W p l e (sk_rm 2) s m av below meth c H locs 0 0 (MQ below (sk_QI g rr M) av s 0 0 (sk_A g)) (F0 m 122 ls [.int vv, .int a3]) := by
          intro vv H locs hvv hM hS
          subst hvv
          refine lv_ior hx hb dX7_smeltOn_122 ?_
          refine lv_topi (fun x_13 ex_13 => ?_)
          have h := sk_letU h ex_13
          refine lv_istore_n (lv' := [(3, .int x_13), (0, .ref (sk_ad g 88)), (1, .int a1), (2, .int a2), (4, .int a4), (5, .int y_15)]) hx hb dX7_smeltOn_123 rfl hl (by decide) rfl (fun ls hl => ?_)
          refine lv_iinc (v := (a4 + 1)) (lv' := [(4, .int (a4 + 1)), (3, .int x_13), (0, .ref (sk_ad g 88)), (1, .int a1), (2, .int a2), (5, .int y_15)]) hx hb dX7_smeltOn_124 hl (k := 4) rfl rfl (by decide) rfl (fun ls hl => ?_)
          refine lv_goto hx hb dX7_smeltOn_127 rfl ?_
          exact ih x_13 (a4 + 1) _ _ _ (lv_sub hl [2, 3, 4, 1, 0] rfl) hM hS h kx
        refine lv_if_eq hx hb dX7_smeltOn_111 rfl (fun hc => ?_) (fun hc => ?_)
        · have J := fun vv H locs q => J vv H locs ((if_pos hc).trans q)
          refine lv_iconst (v := 0) hx hb dX7_smeltOn_121 (by decide) ?_
          exact J _ _ _ rfl hM hS
        · have J := fun vv H locs q => J vv H locs ((if_neg hc).trans q)
          refine lv_iconst (v := 1) hx hb dX7_smeltOn_114 (by decide) ?_
          refine lv_iload hx hb dX7_smeltOn_115 (lv_at hl 4 rfl) ?_
          refine lv_ishl hx hb dX7_smeltOn_117 ?_
          refine lv_goto hx hb dX7_smeltOn_118 rfl ?_
          exact J _ _ _ rfl hM hS
      refine lv_icmp_lt hx hb dX7_smeltOn_32 rfl (fun hc => ?_) (fun hc => ?_)
      · have J := fun vv H locs q => J vv H locs ((if_pos hc).trans q)
        refine lv_iconst (v := 0) hx hb dX7_smeltOn_39 (by decide) ?_
        exact J _ _ _ rfl hM hS
      · have J := fun vv H locs q => J vv H locs ((if_neg hc).trans q)
        refine lv_iconst (v := 1) hx hb dX7_smeltOn_35 (by decide) ?_
        refine lv_goto hx hb dX7_smeltOn_36 rfl ?_
        exact J _ _ _ rfl hM hS
set_option maxHeartbeats 4000000 in
set_option maxRecDepth 100000 in
theorem c_X7_smeltOn (g : sk_G) (l : Launch) (a1 : Int32) (a2 : Int32) (M : sk_M) {rr : Int32} (h : f_X7_smeltOn a1 a2 M = some rr) : sk_MI g l yX7_smeltOn cX7_smeltOn 7 (some .int) 2 [.ref (sk_ad g 88), .int a1, .int a2] M rr M := by
  refine sk_go [(0, .ref (sk_ad g 88)), (1, .int a1), (2, .int a2)] (by decide) (Nat.le_of_ble_eq_true rfl) rfl ?_
  intro p e s m av below meth c C ls hl hM hS
  obtain ⟨hx, hb, hml, hown, hts, hK, hE, hr, hlocks⟩ := id C
  rw [f_X7_smeltOn] at h
  refine lv_iconst (v := 0) hx hb dX7_smeltOn_0 (by decide) ?_
  refine lv_istore_n (lv' := [(3, .int 0), (0, .ref (sk_ad g 88)), (1, .int a1), (2, .int a2)]) hx hb dX7_smeltOn_1 rfl hl (by decide) rfl (fun ls hl => ?_)
  refine lv_iconst (v := 0) hx hb dX7_smeltOn_2 (by decide) ?_
  refine lv_istore (lv' := [(4, .int 0), (3, .int 0), (0, .ref (sk_ad g 88)), (1, .int a1), (2, .int a2)]) hx hb dX7_smeltOn_3 hl (by decide) rfl (fun ls hl => ?_)
  obtain ⟨x_16, h_17, h⟩ := sk_b1E h
  refine w_X7_smeltOn_L5 C a1 a2 M sk_FU 0 0 _ _ _ (lv_sub hl [2, 3, 4, 1, 0] rfl) hM hS h_17 (fun y_18 H locs ls he hl hM hS => ?_)
  obtain rfl := Option.some.inj he
  refine lv_iload_n hx hb dX7_smeltOn_130 rfl (lv_at hl 0 rfl) ?_
  exact sk_iret C hM hS ⟨Option.some.inj h, rfl⟩ dX7_smeltOn_131
theorem dX7_saidBy_0 : decode cX7_saidBy 0 = .ok (.aload_n 0, 1) := by decide +kernel
theorem dX7_saidBy_1 : decode cX7_saidBy 1 = .ok (.iload_n 1, 1) := by decide +kernel
theorem dX7_saidBy_2 : decode cX7_saidBy 2 = .ok (.iload_n 2, 1) := by decide +kernel
theorem dX7_saidBy_3 : decode cX7_saidBy 3 = .ok (.invokevirtual 151, 3) := by decide +kernel
theorem dX7_saidBy_6 : decode cX7_saidBy 6 = .ok (.istore_n 3, 1) := by decide +kernel
theorem dX7_saidBy_7 : decode cX7_saidBy 7 = .ok (.iconst 0, 1) := by decide +kernel
theorem dX7_saidBy_8 : decode cX7_saidBy 8 = .ok (.istore 4, 2) := by decide +kernel
theorem dX7_saidBy_10 : decode cX7_saidBy 10 = .ok (.iload 4, 2) := by decide +kernel
theorem dX7_saidBy_12 : decode cX7_saidBy 12 = .ok (.aload_n 0, 1) := by decide +kernel
theorem dX7_saidBy_13 : decode cX7_saidBy 13 = .ok (.getfield 7, 3) := by decide +kernel
theorem dX7_saidBy_16 : decode cX7_saidBy 16 = .ok (.iconst 2, 1) := by decide +kernel
theorem dX7_saidBy_17 : decode cX7_saidBy 17 = .ok (.iaload, 1) := by decide +kernel
theorem dX7_saidBy_18 : decode cX7_saidBy 18 = .ok (.if_icmp .ge 26, 3) := by decide +kernel
theorem dX7_saidBy_21 : decode cX7_saidBy 21 = .ok (.aload_n 0, 1) := by decide +kernel
theorem dX7_saidBy_22 : decode cX7_saidBy 22 = .ok (.getfield 7, 3) := by decide +kernel
theorem dX7_saidBy_25 : decode cX7_saidBy 25 = .ok (.bipush 97, 2) := by decide +kernel
theorem dX7_saidBy_27 : decode cX7_saidBy 27 = .ok (.iload 4, 2) := by decide +kernel
theorem dX7_saidBy_29 : decode cX7_saidBy 29 = .ok (.iadd, 1) := by decide +kernel
theorem dX7_saidBy_30 : decode cX7_saidBy 30 = .ok (.iaload, 1) := by decide +kernel
theorem dX7_saidBy_31 : decode cX7_saidBy 31 = .ok (.iload_n 3, 1) := by decide +kernel
theorem dX7_saidBy_32 : decode cX7_saidBy 32 = .ok (.if_icmp .ne 6, 3) := by decide +kernel
theorem dX7_saidBy_35 : decode cX7_saidBy 35 = .ok (.iload 4, 2) := by decide +kernel
theorem dX7_saidBy_37 : decode cX7_saidBy 37 = .ok (.ireturn, 1) := by decide +kernel
theorem dX7_saidBy_38 : decode cX7_saidBy 38 = .ok (.iinc 4 1, 3) := by decide +kernel
theorem dX7_saidBy_41 : decode cX7_saidBy 41 = .ok (.goto (-31), 3) := by decide +kernel
theorem dX7_saidBy_44 : decode cX7_saidBy 44 = .ok (.iconst (-1), 1) := by decide +kernel
theorem dX7_saidBy_45 : decode cX7_saidBy 45 = .ok (.ireturn, 1) := by decide +kernel
set_option maxHeartbeats 4000000 in
set_option maxRecDepth 100000 in
theorem w_X7_saidBy_L10 {g : sk_G} {l : Launch} {p : Program} {e : Env} {s : State} {m : MethodId} {av : Array Value} {below : List Frame} {meth : Method} {c : Code} (C : sk_C g p s m av meth c cX7_saidBy 5 RX7 (some .int)) (a3 : Int32) (M : sk_M) {rr : Int32} :
    ∀ (n : Nat) (a4 : Int32) (H : Heap) (locs : List Loc) (ls : Array Slot), lv_has ls 5 [(0, .ref (sk_ad g 88)), (3, .int a3), (4, .int a4)] → sk_P g M H → va_S (sk_A g) s.heap H locs → ∀ {out : (Int32) ⊕ (Unit)}, f_X7_saidBy_L10 a3 M n a4 = some out → (∀ r, out = Sum.inl r → some r = some rr) → (∀  (H : Heap) (locs : List Loc) (ls : Array Slot), some (Sum.inr ()) = some out → lv_has ls 5 [] → sk_P g M H → va_S (sk_A g) s.heap H locs → W p l e (sk_rm 3) s m av below meth c H locs 0 0 (MQ below (sk_QI g rr M) av s 0 0 (sk_A g)) (F0 m 44 ls [])) → W p l e (sk_rm 3) s m av below meth c H locs 0 0 (MQ below (sk_QI g rr M) av s 0 0 (sk_A g)) (F0 m 10 ls []) := by
  obtain ⟨hx, hb, hml, hown, hts, hK, hE, hr, hlocks⟩ := id C
  intro n
  induction n with
  | zero =>
    intro a4 H locs ls hl hM hS out h
    cases h
  | succ n ih =>
    intro a4 H locs ls hl hM hS out h kr kx
    rw [f_X7_saidBy_L10] at h
    refine lv_iload hx hb dX7_saidBy_10 (lv_at hl 2 rfl) ?_
    refine lv_aload_n hx hb dX7_saidBy_12 rfl (lv_at hl 0 rfl) ?_
    refine sk_getR (o := 88) (ci := 7) (j := 0) (t := 89) C hM rfl rfl (by decide) rfl rfl kw_935 dX7_saidBy_13 ?_
    refine lv_iconst (v := 2) hx hb dX7_saidBy_16 (by decide) ?_
    refine sk_iald (o := 89) C hM rfl (by decide) dX7_saidBy_17 ?_
    refine W.eq (g2 := F0 m 18 ls [.int (M 89 2), .int a4]) rfl ?_
    refine lv_icmp_ge hx hb dX7_saidBy_18 rfl (fun hc => ?_) (fun hc => ?_)
    · have h := sk_pos h hc
      exact kx  _ _ _ h (lv_sub hl [] rfl) hM hS
    · have h := sk_neg h hc
      refine lv_aload_n hx hb dX7_saidBy_21 rfl (lv_at hl 0 rfl) ?_
      refine sk_getR (o := 88) (ci := 7) (j := 0) (t := 89) C hM rfl rfl (by decide) rfl rfl kw_935 dX7_saidBy_22 ?_
      refine lv_bipush (v := 97) hx hb dX7_saidBy_25 (by decide) ?_
      refine lv_iload hx hb dX7_saidBy_27 (lv_at hl 2 rfl) ?_
      refine lv_iadd hx hb dX7_saidBy_29 ?_
      obtain ⟨i_3, h⟩ := sk_chkE h
      refine sk_iald (o := 89) C hM rfl i_3 dX7_saidBy_30 ?_
      refine lv_iload_n hx hb dX7_saidBy_31 rfl (lv_at hl 1 rfl) ?_
      refine lv_icmp_ne hx hb dX7_saidBy_32 rfl (fun hc => ?_) (fun hc => ?_)
      · have h := sk_neg h hc
        refine lv_iinc (v := (a4 + 1)) (lv' := [(4, .int (a4 + 1)), (0, .ref (sk_ad g 88)), (3, .int a3)]) hx hb dX7_saidBy_38 hl (k := 2) rfl rfl (by decide) rfl (fun ls hl => ?_)
        refine lv_goto hx hb dX7_saidBy_41 rfl ?_
        exact ih (a4 + 1) _ _ _ (lv_sub hl [1, 2, 0] rfl) hM hS h kr kx
      · have h := sk_pos h hc
        refine lv_iload hx hb dX7_saidBy_35 (lv_at hl 2 rfl) ?_
        have h := kr _ (Option.some.inj h).symm
        exact sk_iret C hM hS ⟨Option.some.inj h, rfl⟩ dX7_saidBy_37
set_option maxHeartbeats 4000000 in
set_option maxRecDepth 100000 in
theorem c_X7_saidBy (g : sk_G) (l : Launch) (a1 : Int32) (a2 : Int32) (M : sk_M) {rr : Int32} (h : f_X7_saidBy a1 a2 M = some rr) : sk_MI g l yX7_saidBy cX7_saidBy 5 (some .int) 3 [.ref (sk_ad g 88), .int a1, .int a2] M rr M := by
  refine sk_go [(0, .ref (sk_ad g 88)), (1, .int a1), (2, .int a2)] (by decide) (Nat.le_of_ble_eq_true rfl) rfl ?_
  intro p e s m av below meth c C ls hl hM hS
  obtain ⟨hx, hb, hml, hown, hts, hK, hE, hr, hlocks⟩ := id C
  rw [f_X7_saidBy] at h
  refine lv_aload_n hx hb dX7_saidBy_0 rfl (lv_at hl 0 rfl) ?_
  refine lv_iload_n hx hb dX7_saidBy_1 rfl (lv_at hl 1 rfl) ?_
  refine lv_iload_n hx hb dX7_saidBy_2 rfl (lv_at hl 2 rfl) ?_
  obtain ⟨x_1, h_2, h⟩ := sk_b1E h
  refine sk_contI (sk_runV (As := [.int a1, .int a2]) (rest := []) C (c_X7_smeltOn g l a1 a2 M h_2) yo_X7_smeltOn kw_1197 (sk_recv (ci := 7) C hM rfl rfl) (by decide) hM hS hl.1 rfl rfl (Nat.le_of_ble_eq_true rfl) dX7_saidBy_3) hS (fun H locs hM hS => ?_)
  refine lv_istore_n (lv' := [(3, .int x_1), (0, .ref (sk_ad g 88)), (1, .int a1), (2, .int a2)]) hx hb dX7_saidBy_6 rfl hl (by decide) rfl (fun ls hl => ?_)
  refine lv_iconst (v := 0) hx hb dX7_saidBy_7 (by decide) ?_
  refine lv_istore (lv' := [(4, .int 0), (3, .int x_1), (0, .ref (sk_ad g 88)), (1, .int a1), (2, .int a2)]) hx hb dX7_saidBy_8 hl (by decide) rfl (fun ls hl => ?_)
  obtain ⟨out_5, h_4, kf_6, kg_7⟩ := sk_s0E h
  refine w_X7_saidBy_L10 C x_1 M sk_FU 0 _ _ _ (lv_sub hl [2, 1, 0] rfl) hM hS h_4 kf_6 (fun  H locs ls he hl hM hS => ?_)
  have h := kg_7  (Option.some.inj he).symm
  refine lv_iconst (v := (-1)) hx hb dX7_saidBy_44 (by decide) ?_
  exact sk_iret C hM hS ⟨Option.some.inj h, rfl⟩ dX7_saidBy_45
theorem dX7_smells_0 : decode cX7_smells 0 = .ok (.aload_n 0, 1) := by decide +kernel
theorem dX7_smells_1 : decode cX7_smells 1 = .ok (.iload_n 1, 1) := by decide +kernel
theorem dX7_smells_2 : decode cX7_smells 2 = .ok (.invokevirtual 138, 3) := by decide +kernel
theorem dX7_smells_5 : decode cX7_smells 5 = .ok (.ifCond .eq 19, 3) := by decide +kernel
theorem dX7_smells_8 : decode cX7_smells 8 = .ok (.iload_n 2, 1) := by decide +kernel
theorem dX7_smells_9 : decode cX7_smells 9 = .ok (.invokestatic 124, 3) := by decide +kernel
theorem dX7_smells_12 : decode cX7_smells 12 = .ok (.ifCond .eq 12, 3) := by decide +kernel
theorem dX7_smells_15 : decode cX7_smells 15 = .ok (.aload_n 0, 1) := by decide +kernel
theorem dX7_smells_16 : decode cX7_smells 16 = .ok (.iload_n 1, 1) := by decide +kernel
theorem dX7_smells_17 : decode cX7_smells 17 = .ok (.iload_n 2, 1) := by decide +kernel
theorem dX7_smells_18 : decode cX7_smells 18 = .ok (.invokevirtual 151, 3) := by decide +kernel
theorem dX7_smells_21 : decode cX7_smells 21 = .ok (.goto 5, 3) := by decide +kernel
theorem dX7_smells_24 : decode cX7_smells 24 = .ok (.ldc 80, 2) := by decide +kernel
theorem dX7_smells_26 : decode cX7_smells 26 = .ok (.ireturn, 1) := by decide +kernel
set_option maxHeartbeats 4000000 in
set_option maxRecDepth 100000 in
theorem c_X7_smells (g : sk_G) (l : Launch) (a1 : Int32) (a2 : Int32) (M : sk_M) {rr : Int32} (h : f_X7_smells a1 a2 M = some rr) : sk_MI g l yX7_smells cX7_smells 3 (some .int) 3 [.ref (sk_ad g 88), .int a1, .int a2] M rr M := by
  refine sk_go [(0, .ref (sk_ad g 88)), (1, .int a1), (2, .int a2)] (by decide) (Nat.le_of_ble_eq_true rfl) rfl ?_
  intro p e s m av below meth c C ls hl hM hS
  obtain ⟨hx, hb, hml, hown, hts, hK, hE, hr, hlocks⟩ := id C
  rw [f_X7_smells] at h
  refine lv_aload_n hx hb dX7_smells_0 rfl (lv_at hl 0 rfl) ?_
  refine lv_iload_n hx hb dX7_smells_1 rfl (lv_at hl 1 rfl) ?_
  refine sk_contI (sk_runV (As := [.int a1]) (rest := []) C (c_X7_isCloth g l a1 M rfl) yo_X7_isCloth kw_1133 (sk_recv (ci := 7) C hM rfl rfl) (by decide) hM hS hl.1 rfl rfl (Nat.le_of_ble_eq_true rfl) dX7_smells_2) hS (fun H locs hM hS => ?_)
  refine lv_if_eq hx hb dX7_smells_5 rfl (fun hc => ?_) (fun hc => ?_)
  · have h := sk_pos h hc
    refine lv_ldc (v := (-1000000001)) hx hb hown (hts _ kw_1044) dX7_smells_24 ?_
    exact sk_iret C hM hS ⟨Option.some.inj h, rfl⟩ dX7_smells_26
  · have h := sk_neg h hc
    refine lv_iload_n hx hb dX7_smells_8 rfl (lv_at hl 2 rfl) ?_
    refine sk_contI (sk_runS (As := [.int a2]) (rest := []) C (c_X7_isNose g l a2 M rfl) yo_X7_isNose kw_1095 (by decide) hM hS hl.1 rfl rfl (Nat.le_of_ble_eq_true rfl) dX7_smells_9) hS (fun H locs hM hS => ?_)
    refine lv_if_eq hx hb dX7_smells_12 rfl (fun hc => ?_) (fun hc => ?_)
    · have h := sk_pos h hc
      refine lv_ldc (v := (-1000000001)) hx hb hown (hts _ kw_1044) dX7_smells_24 ?_
      exact sk_iret C hM hS ⟨Option.some.inj h, rfl⟩ dX7_smells_26
    · have h := sk_neg h hc
      refine lv_aload_n hx hb dX7_smells_15 rfl (lv_at hl 0 rfl) ?_
      refine lv_iload_n hx hb dX7_smells_16 rfl (lv_at hl 1 rfl) ?_
      refine lv_iload_n hx hb dX7_smells_17 rfl (lv_at hl 2 rfl) ?_
      obtain ⟨x_3, h_4, h⟩ := sk_b1E h
      refine sk_contI (sk_runV (As := [.int a1, .int a2]) (rest := []) C (c_X7_smeltOn g l a1 a2 M h_4) yo_X7_smeltOn kw_1197 (sk_recv (ci := 7) C hM rfl rfl) (by decide) hM hS hl.1 rfl rfl (Nat.le_of_ble_eq_true rfl) dX7_smells_18) hS (fun H locs hM hS => ?_)
      refine lv_goto hx hb dX7_smells_21 rfl ?_
      exact sk_iret C hM hS ⟨Option.some.inj h, rfl⟩ dX7_smells_26
theorem dX7_says_0 : decode cX7_says 0 = .ok (.aload_n 0, 1) := by decide +kernel
theorem dX7_says_1 : decode cX7_says 1 = .ok (.iload_n 1, 1) := by decide +kernel
theorem dX7_says_2 : decode cX7_says 2 = .ok (.invokevirtual 138, 3) := by decide +kernel
theorem dX7_says_5 : decode cX7_says 5 = .ok (.ifCond .eq 22, 3) := by decide +kernel
theorem dX7_says_8 : decode cX7_says 8 = .ok (.iload_n 2, 1) := by decide +kernel
theorem dX7_says_9 : decode cX7_says 9 = .ok (.invokestatic 124, 3) := by decide +kernel
theorem dX7_says_12 : decode cX7_says 12 = .ok (.ifCond .eq 15, 3) := by decide +kernel
theorem dX7_says_15 : decode cX7_says 15 = .ok (.aload_n 0, 1) := by decide +kernel
theorem dX7_says_16 : decode cX7_says 16 = .ok (.iload_n 1, 1) := by decide +kernel
theorem dX7_says_17 : decode cX7_says 17 = .ok (.iload_n 2, 1) := by decide +kernel
theorem dX7_says_18 : decode cX7_says 18 = .ok (.invokevirtual 154, 3) := by decide +kernel
theorem dX7_says_21 : decode cX7_says 21 = .ok (.invokestatic 157, 3) := by decide +kernel
theorem dX7_says_24 : decode cX7_says 24 = .ok (.goto 5, 3) := by decide +kernel
theorem dX7_says_27 : decode cX7_says 27 = .ok (.ldc 80, 2) := by decide +kernel
theorem dX7_says_29 : decode cX7_says 29 = .ok (.ireturn, 1) := by decide +kernel
set_option maxHeartbeats 4000000 in
set_option maxRecDepth 100000 in
theorem c_X7_says (g : sk_G) (l : Launch) (a1 : Int32) (a2 : Int32) (M : sk_M) {rr : Int32} (h : f_X7_says a1 a2 M = some rr) : sk_MI g l yX7_says cX7_says 3 (some .int) 4 [.ref (sk_ad g 88), .int a1, .int a2] M rr M := by
  refine sk_go [(0, .ref (sk_ad g 88)), (1, .int a1), (2, .int a2)] (by decide) (Nat.le_of_ble_eq_true rfl) rfl ?_
  intro p e s m av below meth c C ls hl hM hS
  obtain ⟨hx, hb, hml, hown, hts, hK, hE, hr, hlocks⟩ := id C
  rw [f_X7_says] at h
  refine lv_aload_n hx hb dX7_says_0 rfl (lv_at hl 0 rfl) ?_
  refine lv_iload_n hx hb dX7_says_1 rfl (lv_at hl 1 rfl) ?_
  refine sk_contI (sk_runV (As := [.int a1]) (rest := []) C (c_X7_isCloth g l a1 M rfl) yo_X7_isCloth kw_1133 (sk_recv (ci := 7) C hM rfl rfl) (by decide) hM hS hl.1 rfl rfl (Nat.le_of_ble_eq_true rfl) dX7_says_2) hS (fun H locs hM hS => ?_)
  refine lv_if_eq hx hb dX7_says_5 rfl (fun hc => ?_) (fun hc => ?_)
  · have h := sk_pos h hc
    refine lv_ldc (v := (-1000000001)) hx hb hown (hts _ kw_1044) dX7_says_27 ?_
    exact sk_iret C hM hS ⟨Option.some.inj h, rfl⟩ dX7_says_29
  · have h := sk_neg h hc
    refine lv_iload_n hx hb dX7_says_8 rfl (lv_at hl 2 rfl) ?_
    refine sk_contI (sk_runS (As := [.int a2]) (rest := []) C (c_X7_isNose g l a2 M rfl) yo_X7_isNose kw_1095 (by decide) hM hS hl.1 rfl rfl (Nat.le_of_ble_eq_true rfl) dX7_says_9) hS (fun H locs hM hS => ?_)
    refine lv_if_eq hx hb dX7_says_12 rfl (fun hc => ?_) (fun hc => ?_)
    · have h := sk_pos h hc
      refine lv_ldc (v := (-1000000001)) hx hb hown (hts _ kw_1044) dX7_says_27 ?_
      exact sk_iret C hM hS ⟨Option.some.inj h, rfl⟩ dX7_says_29
    · have h := sk_neg h hc
      refine lv_aload_n hx hb dX7_says_15 rfl (lv_at hl 0 rfl) ?_
      refine lv_iload_n hx hb dX7_says_16 rfl (lv_at hl 1 rfl) ?_
      refine lv_iload_n hx hb dX7_says_17 rfl (lv_at hl 2 rfl) ?_
      obtain ⟨x_3, h_4, h⟩ := sk_b1E h
      refine sk_contI (sk_runV (As := [.int a1, .int a2]) (rest := []) C (c_X7_saidBy g l a1 a2 M h_4) yo_X7_saidBy kw_1205 (sk_recv (ci := 7) C hM rfl rfl) (by decide) hM hS hl.1 rfl rfl (Nat.le_of_ble_eq_true rfl) dX7_says_18) hS (fun H locs hM hS => ?_)
      refine sk_contI (sk_runS (As := [.int x_3]) (rest := []) C (c_X7_orNone g l x_3 M rfl) yo_X7_orNone kw_1209 (by decide) hM hS hl.1 rfl rfl (Nat.le_of_ble_eq_true rfl) dX7_says_21) hS (fun H locs hM hS => ?_)
      refine lv_goto hx hb dX7_says_24 rfl ?_
      exact sk_iret C hM hS ⟨Option.some.inj h, rfl⟩ dX7_says_29
theorem dX7_laysBy_0 : decode cX7_laysBy 0 = .ok (.iconst 0, 1) := by decide +kernel
theorem dX7_laysBy_1 : decode cX7_laysBy 1 = .ok (.istore_n 1, 1) := by decide +kernel
theorem dX7_laysBy_2 : decode cX7_laysBy 2 = .ok (.iload_n 1, 1) := by decide +kernel
theorem dX7_laysBy_3 : decode cX7_laysBy 3 = .ok (.bipush 109, 2) := by decide +kernel
theorem dX7_laysBy_5 : decode cX7_laysBy 5 = .ok (.if_icmp .ge 21, 3) := by decide +kernel
theorem dX7_laysBy_8 : decode cX7_laysBy 8 = .ok (.aload_n 0, 1) := by decide +kernel
theorem dX7_laysBy_9 : decode cX7_laysBy 9 = .ok (.getfield 43, 3) := by decide +kernel
theorem dX7_laysBy_12 : decode cX7_laysBy 12 = .ok (.iload_n 1, 1) := by decide +kernel
theorem dX7_laysBy_13 : decode cX7_laysBy 13 = .ok (.aload_n 0, 1) := by decide +kernel
theorem dX7_laysBy_14 : decode cX7_laysBy 14 = .ok (.getfield 7, 3) := by decide +kernel
theorem dX7_laysBy_17 : decode cX7_laysBy 17 = .ok (.iload_n 1, 1) := by decide +kernel
theorem dX7_laysBy_18 : decode cX7_laysBy 18 = .ok (.iaload, 1) := by decide +kernel
theorem dX7_laysBy_19 : decode cX7_laysBy 19 = .ok (.iastore, 1) := by decide +kernel
theorem dX7_laysBy_20 : decode cX7_laysBy 20 = .ok (.iinc 1 1, 3) := by decide +kernel
theorem dX7_laysBy_23 : decode cX7_laysBy 23 = .ok (.goto (-21), 3) := by decide +kernel
theorem dX7_laysBy_26 : decode cX7_laysBy 26 = .ok (.return_, 1) := by decide +kernel
set_option maxHeartbeats 4000000 in
set_option maxRecDepth 100000 in
theorem w_X7_laysBy_L2 {g : sk_G} {l : Launch} {p : Program} {e : Env} {s : State} {m : MethodId} {av : Array Value} {below : List Frame} {meth : Method} {c : Code} (C : sk_C g p s m av meth c cX7_laysBy 2 RX7 none)  {MM : sk_M} :
    ∀ (n : Nat) (a1 : Int32) (M : sk_M) (H : Heap) (locs : List Loc) (ls : Array Slot), lv_has ls 2 [(0, .ref (sk_ad g 88)), (1, .int a1)] → sk_P g M H → va_S (sk_A g) s.heap H locs → ∀ {out : sk_M}, f_X7_laysBy_L2 n a1 M = some out → (∀ (M1 : sk_M) (H : Heap) (locs : List Loc) (ls : Array Slot), some M1 = some out → lv_has ls 2 [] → sk_P g M1 H → va_S (sk_A g) s.heap H locs → W p l e (sk_rm 1) s m av below meth c H locs 0 0 (MQ below (sk_QV g MM) av s 0 0 (sk_A g)) (F0 m 26 ls [])) → W p l e (sk_rm 1) s m av below meth c H locs 0 0 (MQ below (sk_QV g MM) av s 0 0 (sk_A g)) (F0 m 2 ls []) := by
  obtain ⟨hx, hb, hml, hown, hts, hK, hE, hr, hlocks⟩ := id C
  intro n
  induction n with
  | zero =>
    intro a1 M H locs ls hl hM hS out h
    cases h
  | succ n ih =>
    intro a1 M H locs ls hl hM hS out h kx
    rw [f_X7_laysBy_L2] at h
    refine lv_iload_n hx hb dX7_laysBy_2 rfl (lv_at hl 1 rfl) ?_
    refine lv_bipush (v := 109) hx hb dX7_laysBy_3 (by decide) ?_
    refine lv_icmp_ge hx hb dX7_laysBy_5 rfl (fun hc => ?_) (fun hc => ?_)
    · have h := sk_pos h hc
      exact kx _ _ _ _ h (lv_sub hl [] rfl) hM hS
    · have h := sk_neg h hc
      refine lv_aload_n hx hb dX7_laysBy_8 rfl (lv_at hl 0 rfl) ?_
      refine sk_getR (o := 88) (ci := 7) (j := 12) (t := 100) C hM rfl rfl (by decide) rfl rfl kw_947 dX7_laysBy_9 ?_
      refine lv_iload_n hx hb dX7_laysBy_12 rfl (lv_at hl 1 rfl) ?_
      refine lv_aload_n hx hb dX7_laysBy_13 rfl (lv_at hl 0 rfl) ?_
      refine sk_getR (o := 88) (ci := 7) (j := 0) (t := 89) C hM rfl rfl (by decide) rfl rfl kw_935 dX7_laysBy_14 ?_
      refine lv_iload_n hx hb dX7_laysBy_17 rfl (lv_at hl 1 rfl) ?_
      obtain ⟨i_1, h⟩ := sk_chkE h
      refine sk_iald (o := 89) C hM rfl i_1 dX7_laysBy_18 ?_
      obtain ⟨i_2, h⟩ := sk_chkE h
      refine sk_iast (o := 100) C hM hS rfl i_2 dX7_laysBy_19 (fun M_3 eM_3 H locs hM hS => ?_)
      have h := sk_letU h eM_3
      refine lv_iinc (v := (a1 + 1)) (lv' := [(1, .int (a1 + 1)), (0, .ref (sk_ad g 88))]) hx hb dX7_laysBy_20 hl (k := 1) rfl rfl (by decide) rfl (fun ls hl => ?_)
      refine lv_goto hx hb dX7_laysBy_23 rfl ?_
      exact ih (a1 + 1) M_3 _ _ _ (lv_sub hl [1, 0] rfl) hM hS h kx
set_option maxHeartbeats 4000000 in
set_option maxRecDepth 100000 in
theorem c_X7_laysBy (g : sk_G) (l : Launch)  (M : sk_M) {MM : sk_M} (h : f_X7_laysBy M = some MM) : sk_MV g l yX7_laysBy cX7_laysBy 2 none 1 [.ref (sk_ad g 88)] M MM := by
  refine sk_go [(0, .ref (sk_ad g 88))] (by decide) (Nat.le_of_ble_eq_true rfl) rfl ?_
  intro p e s m av below meth c C ls hl hM hS
  obtain ⟨hx, hb, hml, hown, hts, hK, hE, hr, hlocks⟩ := id C
  rw [f_X7_laysBy] at h
  refine lv_iconst (v := 0) hx hb dX7_laysBy_0 (by decide) ?_
  refine lv_istore_n (lv' := [(1, .int 0), (0, .ref (sk_ad g 88))]) hx hb dX7_laysBy_1 rfl hl (by decide) rfl (fun ls hl => ?_)
  obtain ⟨M_4, h_5, h⟩ := sk_b1E h
  refine w_X7_laysBy_L2 C sk_FU 0 M _ _ _ (lv_sub hl [1, 0] rfl) hM hS h_5 (fun y_6 H locs ls he hl hM hS => ?_)
  obtain rfl := Option.some.inj he
  exact sk_vret C hM hS (Option.some.inj h) dX7_laysBy_26
theorem dX7_laysBack_0 : decode cX7_laysBack 0 = .ok (.iconst 0, 1) := by decide +kernel
theorem dX7_laysBack_1 : decode cX7_laysBack 1 = .ok (.istore_n 1, 1) := by decide +kernel
theorem dX7_laysBack_2 : decode cX7_laysBack 2 = .ok (.iload_n 1, 1) := by decide +kernel
theorem dX7_laysBack_3 : decode cX7_laysBack 3 = .ok (.bipush 109, 2) := by decide +kernel
theorem dX7_laysBack_5 : decode cX7_laysBack 5 = .ok (.if_icmp .ge 21, 3) := by decide +kernel
theorem dX7_laysBack_8 : decode cX7_laysBack 8 = .ok (.aload_n 0, 1) := by decide +kernel
theorem dX7_laysBack_9 : decode cX7_laysBack 9 = .ok (.getfield 7, 3) := by decide +kernel
theorem dX7_laysBack_12 : decode cX7_laysBack 12 = .ok (.iload_n 1, 1) := by decide +kernel
theorem dX7_laysBack_13 : decode cX7_laysBack 13 = .ok (.aload_n 0, 1) := by decide +kernel
theorem dX7_laysBack_14 : decode cX7_laysBack 14 = .ok (.getfield 43, 3) := by decide +kernel
theorem dX7_laysBack_17 : decode cX7_laysBack 17 = .ok (.iload_n 1, 1) := by decide +kernel
theorem dX7_laysBack_18 : decode cX7_laysBack 18 = .ok (.iaload, 1) := by decide +kernel
theorem dX7_laysBack_19 : decode cX7_laysBack 19 = .ok (.iastore, 1) := by decide +kernel
theorem dX7_laysBack_20 : decode cX7_laysBack 20 = .ok (.iinc 1 1, 3) := by decide +kernel
theorem dX7_laysBack_23 : decode cX7_laysBack 23 = .ok (.goto (-21), 3) := by decide +kernel
theorem dX7_laysBack_26 : decode cX7_laysBack 26 = .ok (.return_, 1) := by decide +kernel
set_option maxHeartbeats 4000000 in
set_option maxRecDepth 100000 in
theorem w_X7_laysBack_L2 {g : sk_G} {l : Launch} {p : Program} {e : Env} {s : State} {m : MethodId} {av : Array Value} {below : List Frame} {meth : Method} {c : Code} (C : sk_C g p s m av meth c cX7_laysBack 2 RX7 none)  {MM : sk_M} :
    ∀ (n : Nat) (a1 : Int32) (M : sk_M) (H : Heap) (locs : List Loc) (ls : Array Slot), lv_has ls 2 [(0, .ref (sk_ad g 88)), (1, .int a1)] → sk_P g M H → va_S (sk_A g) s.heap H locs → ∀ {out : sk_M}, f_X7_laysBack_L2 n a1 M = some out → (∀ (M1 : sk_M) (H : Heap) (locs : List Loc) (ls : Array Slot), some M1 = some out → lv_has ls 2 [] → sk_P g M1 H → va_S (sk_A g) s.heap H locs → W p l e (sk_rm 1) s m av below meth c H locs 0 0 (MQ below (sk_QV g MM) av s 0 0 (sk_A g)) (F0 m 26 ls [])) → W p l e (sk_rm 1) s m av below meth c H locs 0 0 (MQ below (sk_QV g MM) av s 0 0 (sk_A g)) (F0 m 2 ls []) := by
  obtain ⟨hx, hb, hml, hown, hts, hK, hE, hr, hlocks⟩ := id C
  intro n
  induction n with
  | zero =>
    intro a1 M H locs ls hl hM hS out h
    cases h
  | succ n ih =>
    intro a1 M H locs ls hl hM hS out h kx
    rw [f_X7_laysBack_L2] at h
    refine lv_iload_n hx hb dX7_laysBack_2 rfl (lv_at hl 1 rfl) ?_
    refine lv_bipush (v := 109) hx hb dX7_laysBack_3 (by decide) ?_
    refine lv_icmp_ge hx hb dX7_laysBack_5 rfl (fun hc => ?_) (fun hc => ?_)
    · have h := sk_pos h hc
      exact kx _ _ _ _ h (lv_sub hl [] rfl) hM hS
    · have h := sk_neg h hc
      refine lv_aload_n hx hb dX7_laysBack_8 rfl (lv_at hl 0 rfl) ?_
      refine sk_getR (o := 88) (ci := 7) (j := 0) (t := 89) C hM rfl rfl (by decide) rfl rfl kw_935 dX7_laysBack_9 ?_
      refine lv_iload_n hx hb dX7_laysBack_12 rfl (lv_at hl 1 rfl) ?_
      refine lv_aload_n hx hb dX7_laysBack_13 rfl (lv_at hl 0 rfl) ?_
      refine sk_getR (o := 88) (ci := 7) (j := 12) (t := 100) C hM rfl rfl (by decide) rfl rfl kw_947 dX7_laysBack_14 ?_
      refine lv_iload_n hx hb dX7_laysBack_17 rfl (lv_at hl 1 rfl) ?_
      obtain ⟨i_1, h⟩ := sk_chkE h
      refine sk_iald (o := 100) C hM rfl i_1 dX7_laysBack_18 ?_
      obtain ⟨i_2, h⟩ := sk_chkE h
      refine sk_iast (o := 89) C hM hS rfl i_2 dX7_laysBack_19 (fun M_3 eM_3 H locs hM hS => ?_)
      have h := sk_letU h eM_3
      refine lv_iinc (v := (a1 + 1)) (lv' := [(1, .int (a1 + 1)), (0, .ref (sk_ad g 88))]) hx hb dX7_laysBack_20 hl (k := 1) rfl rfl (by decide) rfl (fun ls hl => ?_)
      refine lv_goto hx hb dX7_laysBack_23 rfl ?_
      exact ih (a1 + 1) M_3 _ _ _ (lv_sub hl [1, 0] rfl) hM hS h kx
set_option maxHeartbeats 4000000 in
set_option maxRecDepth 100000 in
theorem c_X7_laysBack (g : sk_G) (l : Launch)  (M : sk_M) {MM : sk_M} (h : f_X7_laysBack M = some MM) : sk_MV g l yX7_laysBack cX7_laysBack 2 none 1 [.ref (sk_ad g 88)] M MM := by
  refine sk_go [(0, .ref (sk_ad g 88))] (by decide) (Nat.le_of_ble_eq_true rfl) rfl ?_
  intro p e s m av below meth c C ls hl hM hS
  obtain ⟨hx, hb, hml, hown, hts, hK, hE, hr, hlocks⟩ := id C
  rw [f_X7_laysBack] at h
  refine lv_iconst (v := 0) hx hb dX7_laysBack_0 (by decide) ?_
  refine lv_istore_n (lv' := [(1, .int 0), (0, .ref (sk_ad g 88))]) hx hb dX7_laysBack_1 rfl hl (by decide) rfl (fun ls hl => ?_)
  obtain ⟨M_4, h_5, h⟩ := sk_b1E h
  refine w_X7_laysBack_L2 C sk_FU 0 M _ _ _ (lv_sub hl [1, 0] rfl) hM hS h_5 (fun y_6 H locs ls he hl hM hS => ?_)
  obtain rfl := Option.some.inj he
  exact sk_vret C hM hS (Option.some.inj h) dX7_laysBack_26
theorem dX7_goesOnMany_0 : decode cX7_goesOnMany 0 = .ok (.iconst 0, 1) := by decide +kernel
theorem dX7_goesOnMany_1 : decode cX7_goesOnMany 1 = .ok (.istore_n 2, 1) := by decide +kernel
theorem dX7_goesOnMany_2 : decode cX7_goesOnMany 2 = .ok (.iload_n 2, 1) := by decide +kernel
theorem dX7_goesOnMany_3 : decode cX7_goesOnMany 3 = .ok (.iload_n 1, 1) := by decide +kernel
theorem dX7_goesOnMany_4 : decode cX7_goesOnMany 4 = .ok (.if_icmp .ge 13, 3) := by decide +kernel
theorem dX7_goesOnMany_7 : decode cX7_goesOnMany 7 = .ok (.aload_n 0, 1) := by decide +kernel
theorem dX7_goesOnMany_8 : decode cX7_goesOnMany 8 = .ok (.invokevirtual 148, 3) := by decide +kernel
theorem dX7_goesOnMany_11 : decode cX7_goesOnMany 11 = .ok (.iinc 2 1, 3) := by decide +kernel
theorem dX7_goesOnMany_14 : decode cX7_goesOnMany 14 = .ok (.goto (-12), 3) := by decide +kernel
theorem dX7_goesOnMany_17 : decode cX7_goesOnMany 17 = .ok (.return_, 1) := by decide +kernel
set_option maxHeartbeats 4000000 in
set_option maxRecDepth 100000 in
theorem w_X7_goesOnMany_L2 {g : sk_G} {l : Launch} {p : Program} {e : Env} {s : State} {m : MethodId} {av : Array Value} {below : List Frame} {meth : Method} {c : Code} (C : sk_C g p s m av meth c cX7_goesOnMany 3 RX7 none) (a1 : Int32) {MM : sk_M} :
    ∀ (n : Nat) (a2 : Int32) (M : sk_M) (H : Heap) (locs : List Loc) (ls : Array Slot), lv_has ls 3 [(0, .ref (sk_ad g 88)), (1, .int a1), (2, .int a2)] → sk_P g M H → va_S (sk_A g) s.heap H locs → ∀ {out : sk_M}, f_X7_goesOnMany_L2 a1 n a2 M = some out → (∀ (M1 : sk_M) (H : Heap) (locs : List Loc) (ls : Array Slot), some M1 = some out → lv_has ls 3 [] → sk_P g M1 H → va_S (sk_A g) s.heap H locs → W p l e (sk_rm 6) s m av below meth c H locs 0 0 (MQ below (sk_QV g MM) av s 0 0 (sk_A g)) (F0 m 17 ls [])) → W p l e (sk_rm 6) s m av below meth c H locs 0 0 (MQ below (sk_QV g MM) av s 0 0 (sk_A g)) (F0 m 2 ls []) := by
  obtain ⟨hx, hb, hml, hown, hts, hK, hE, hr, hlocks⟩ := id C
  intro n
  induction n with
  | zero =>
    intro a2 M H locs ls hl hM hS out h
    cases h
  | succ n ih =>
    intro a2 M H locs ls hl hM hS out h kx
    rw [f_X7_goesOnMany_L2] at h
    refine lv_iload_n hx hb dX7_goesOnMany_2 rfl (lv_at hl 2 rfl) ?_
    refine lv_iload_n hx hb dX7_goesOnMany_3 rfl (lv_at hl 1 rfl) ?_
    refine lv_icmp_ge hx hb dX7_goesOnMany_4 rfl (fun hc => ?_) (fun hc => ?_)
    · have h := sk_pos h hc
      exact kx _ _ _ _ h (lv_sub hl [] rfl) hM hS
    · have h := sk_neg h hc
      refine lv_aload_n hx hb dX7_goesOnMany_7 rfl (lv_at hl 0 rfl) ?_
      obtain ⟨M_1, h_2, h⟩ := sk_b1E h
      refine sk_contV (sk_runV (As := []) (rest := []) C (c_X7_goesOn g l  M h_2) yo_X7_goesOn kw_1189 (sk_recv (ci := 7) C hM rfl rfl) (by decide) hM hS hl.1 rfl rfl (Nat.le_of_ble_eq_true rfl) dX7_goesOnMany_8) hS (fun H locs hM hS => ?_)
      refine lv_iinc (v := (a2 + 1)) (lv' := [(2, .int (a2 + 1)), (0, .ref (sk_ad g 88)), (1, .int a1)]) hx hb dX7_goesOnMany_11 hl (k := 2) rfl rfl (by decide) rfl (fun ls hl => ?_)
      refine lv_goto hx hb dX7_goesOnMany_14 rfl ?_
      exact ih (a2 + 1) M_1 _ _ _ (lv_sub hl [1, 2, 0] rfl) hM hS h kx
set_option maxHeartbeats 4000000 in
set_option maxRecDepth 100000 in
theorem c_X7_goesOnMany (g : sk_G) (l : Launch) (a1 : Int32) (M : sk_M) {MM : sk_M} (h : f_X7_goesOnMany a1 M = some MM) : sk_MV g l yX7_goesOnMany cX7_goesOnMany 3 none 6 [.ref (sk_ad g 88), .int a1] M MM := by
  refine sk_go [(0, .ref (sk_ad g 88)), (1, .int a1)] (by decide) (Nat.le_of_ble_eq_true rfl) rfl ?_
  intro p e s m av below meth c C ls hl hM hS
  obtain ⟨hx, hb, hml, hown, hts, hK, hE, hr, hlocks⟩ := id C
  rw [f_X7_goesOnMany] at h
  refine lv_iconst (v := 0) hx hb dX7_goesOnMany_0 (by decide) ?_
  refine lv_istore_n (lv' := [(2, .int 0), (0, .ref (sk_ad g 88)), (1, .int a1)]) hx hb dX7_goesOnMany_1 rfl hl (by decide) rfl (fun ls hl => ?_)
  obtain ⟨M_3, h_4, h⟩ := sk_b1E h
  refine w_X7_goesOnMany_L2 C a1 sk_FU 0 M _ _ _ (lv_sub hl [1, 2, 0] rfl) hM hS h_4 (fun y_5 H locs ls he hl hM hS => ?_)
  obtain rfl := Option.some.inj he
  exact sk_vret C hM hS (Option.some.inj h) dX7_goesOnMany_17
theorem dX7_behind_0 : decode cX7_behind 0 = .ok (.aload_n 0, 1) := by decide +kernel
theorem dX7_behind_1 : decode cX7_behind 1 = .ok (.iload_n 1, 1) := by decide +kernel
theorem dX7_behind_2 : decode cX7_behind 2 = .ok (.invokevirtual 138, 3) := by decide +kernel
theorem dX7_behind_5 : decode cX7_behind 5 = .ok (.ifCond .eq 22, 3) := by decide +kernel
theorem dX7_behind_8 : decode cX7_behind 8 = .ok (.iload_n 2, 1) := by decide +kernel
theorem dX7_behind_9 : decode cX7_behind 9 = .ok (.invokestatic 124, 3) := by decide +kernel
theorem dX7_behind_12 : decode cX7_behind 12 = .ok (.ifCond .eq 15, 3) := by decide +kernel
theorem dX7_behind_15 : decode cX7_behind 15 = .ok (.iload_n 3, 1) := by decide +kernel
theorem dX7_behind_16 : decode cX7_behind 16 = .ok (.i2l, 1) := by decide +kernel
theorem dX7_behind_17 : decode cX7_behind 17 = .ok (.lconst 0, 1) := by decide +kernel
theorem dX7_behind_18 : decode cX7_behind 18 = .ok (.ldc2_w 160, 3) := by decide +kernel
theorem dX7_behind_21 : decode cX7_behind 21 = .ok (.invokestatic 71, 3) := by decide +kernel
theorem dX7_behind_24 : decode cX7_behind 24 = .ok (.ifCond .ne 6, 3) := by decide +kernel
theorem dX7_behind_27 : decode cX7_behind 27 = .ok (.ldc 80, 2) := by decide +kernel
theorem dX7_behind_29 : decode cX7_behind 29 = .ok (.ireturn, 1) := by decide +kernel
theorem dX7_behind_30 : decode cX7_behind 30 = .ok (.aload_n 0, 1) := by decide +kernel
theorem dX7_behind_31 : decode cX7_behind 31 = .ok (.invokevirtual 162, 3) := by decide +kernel
theorem dX7_behind_34 : decode cX7_behind 34 = .ok (.aload_n 0, 1) := by decide +kernel
theorem dX7_behind_35 : decode cX7_behind 35 = .ok (.iload_n 3, 1) := by decide +kernel
theorem dX7_behind_36 : decode cX7_behind 36 = .ok (.invokevirtual 165, 3) := by decide +kernel
theorem dX7_behind_39 : decode cX7_behind 39 = .ok (.aload_n 0, 1) := by decide +kernel
theorem dX7_behind_40 : decode cX7_behind 40 = .ok (.iload_n 1, 1) := by decide +kernel
theorem dX7_behind_41 : decode cX7_behind 41 = .ok (.iload_n 2, 1) := by decide +kernel
theorem dX7_behind_42 : decode cX7_behind 42 = .ok (.invokevirtual 154, 3) := by decide +kernel
theorem dX7_behind_45 : decode cX7_behind 45 = .ok (.istore 4, 2) := by decide +kernel
theorem dX7_behind_47 : decode cX7_behind 47 = .ok (.aload_n 0, 1) := by decide +kernel
theorem dX7_behind_48 : decode cX7_behind 48 = .ok (.invokevirtual 169, 3) := by decide +kernel
theorem dX7_behind_51 : decode cX7_behind 51 = .ok (.iload 4, 2) := by decide +kernel
theorem dX7_behind_53 : decode cX7_behind 53 = .ok (.invokestatic 157, 3) := by decide +kernel
theorem dX7_behind_56 : decode cX7_behind 56 = .ok (.ireturn, 1) := by decide +kernel
set_option maxHeartbeats 4000000 in
set_option maxRecDepth 100000 in
theorem c_X7_behind (g : sk_G) (l : Launch) (a1 : Int32) (a2 : Int32) (a3 : Int32) (M : sk_M) {rr : Int32} {MM : sk_M} (h : f_X7_behind a1 a2 a3 M = some (rr, MM)) : sk_MI g l yX7_behind cX7_behind 5 (some .int) 7 [.ref (sk_ad g 88), .int a1, .int a2, .int a3] M rr MM := by
  refine sk_go [(0, .ref (sk_ad g 88)), (1, .int a1), (2, .int a2), (3, .int a3)] (by decide) (Nat.le_of_ble_eq_true rfl) rfl ?_
  intro p e s m av below meth c C ls hl hM hS
  obtain ⟨hx, hb, hml, hown, hts, hK, hE, hr, hlocks⟩ := id C
  rw [f_X7_behind] at h
  refine lv_aload_n hx hb dX7_behind_0 rfl (lv_at hl 0 rfl) ?_
  refine lv_iload_n hx hb dX7_behind_1 rfl (lv_at hl 1 rfl) ?_
  refine sk_contI (sk_runV (As := [.int a1]) (rest := []) C (c_X7_isCloth g l a1 M rfl) yo_X7_isCloth kw_1133 (sk_recv (ci := 7) C hM rfl rfl) (by decide) hM hS hl.1 rfl rfl (Nat.le_of_ble_eq_true rfl) dX7_behind_2) hS (fun H locs hM hS => ?_)
  refine lv_if_eq hx hb dX7_behind_5 rfl (fun hc => ?_) (fun hc => ?_)
  · have h := sk_pos h hc
    refine lv_ldc (v := (-1000000001)) hx hb hown (hts _ kw_1044) dX7_behind_27 ?_
    exact sk_iret C hM hS (sk_e2 h) dX7_behind_29
  · have h := sk_neg h hc
    refine lv_iload_n hx hb dX7_behind_8 rfl (lv_at hl 2 rfl) ?_
    refine sk_contI (sk_runS (As := [.int a2]) (rest := []) C (c_X7_isNose g l a2 M rfl) yo_X7_isNose kw_1095 (by decide) hM hS hl.1 rfl rfl (Nat.le_of_ble_eq_true rfl) dX7_behind_9) hS (fun H locs hM hS => ?_)
    refine lv_if_eq hx hb dX7_behind_12 rfl (fun hc => ?_) (fun hc => ?_)
    · have h := sk_pos h hc
      refine lv_ldc (v := (-1000000001)) hx hb hown (hts _ kw_1044) dX7_behind_27 ?_
      exact sk_iret C hM hS (sk_e2 h) dX7_behind_29
    · have h := sk_neg h hc
      refine lv_iload_n hx hb dX7_behind_15 rfl (lv_at hl 3 rfl) ?_
      refine lv_i2l (v := a3.toInt64) hx hb dX7_behind_16 rfl ?_
      refine lv_lconst (v := 0) hx hb dX7_behind_17 (by decide) ?_
      refine lv_ldc2 (v := 300) hx hb hown (hts _ kw_1217) dX7_behind_18 ?_
      refine sk_contI (sk_runS (As := [.long (a3.toInt64), .long 0, .long 300]) (rest := []) C (c_X7_isIn g l (a3.toInt64) 0 300 M rfl) yo_X7_isIn kw_1040 (by decide) hM hS hl.1 rfl rfl (Nat.le_of_ble_eq_true rfl) dX7_behind_21) hS (fun H locs hM hS => ?_)
      refine lv_if_ne hx hb dX7_behind_24 rfl (fun hc => ?_) (fun hc => ?_)
      · have h := sk_neg h hc
        refine lv_aload_n hx hb dX7_behind_30 rfl (lv_at hl 0 rfl) ?_
        obtain ⟨M_4, h_5, h⟩ := sk_b1E h
        refine sk_contV (sk_runV (As := []) (rest := []) C (c_X7_laysBy g l  M h_5) yo_X7_laysBy kw_1218 (sk_recv (ci := 7) C hM rfl rfl) (by decide) hM hS hl.1 rfl rfl (Nat.le_of_ble_eq_true rfl) dX7_behind_31) hS (fun H locs hM hS => ?_)
        refine lv_aload_n hx hb dX7_behind_34 rfl (lv_at hl 0 rfl) ?_
        refine lv_iload_n hx hb dX7_behind_35 rfl (lv_at hl 3 rfl) ?_
        obtain ⟨M_6, h_7, h⟩ := sk_b1E h
        refine sk_contV (sk_runV (As := [.int a3]) (rest := []) C (c_X7_goesOnMany g l a3 M_4 h_7) yo_X7_goesOnMany kw_1222 (sk_recv (ci := 7) C hM rfl rfl) (by decide) hM hS hl.1 rfl rfl (Nat.le_of_ble_eq_true rfl) dX7_behind_36) hS (fun H locs hM hS => ?_)
        refine lv_aload_n hx hb dX7_behind_39 rfl (lv_at hl 0 rfl) ?_
        refine lv_iload_n hx hb dX7_behind_40 rfl (lv_at hl 1 rfl) ?_
        refine lv_iload_n hx hb dX7_behind_41 rfl (lv_at hl 2 rfl) ?_
        obtain ⟨x_8, h_9, h⟩ := sk_b1E h
        refine sk_contI (sk_runV (As := [.int a1, .int a2]) (rest := []) C (c_X7_saidBy g l a1 a2 M_6 h_9) yo_X7_saidBy kw_1205 (sk_recv (ci := 7) C hM rfl rfl) (by decide) hM hS hl.1 rfl rfl (Nat.le_of_ble_eq_true rfl) dX7_behind_42) hS (fun H locs hM hS => ?_)
        refine lv_istore (lv' := [(4, .int x_8), (0, .ref (sk_ad g 88)), (1, .int a1), (2, .int a2), (3, .int a3)]) hx hb dX7_behind_45 hl (by decide) rfl (fun ls hl => ?_)
        refine lv_aload_n hx hb dX7_behind_47 rfl (lv_at hl 1 rfl) ?_
        obtain ⟨M_10, h_11, h⟩ := sk_b1E h
        refine sk_contV (sk_runV (As := []) (rest := []) C (c_X7_laysBack g l  M_6 h_11) yo_X7_laysBack kw_1226 (sk_recv (ci := 7) C hM rfl rfl) (by decide) hM hS hl.1 rfl rfl (Nat.le_of_ble_eq_true rfl) dX7_behind_48) hS (fun H locs hM hS => ?_)
        refine lv_iload hx hb dX7_behind_51 (lv_at hl 0 rfl) ?_
        refine sk_contI (sk_runS (As := [.int x_8]) (rest := []) C (c_X7_orNone g l x_8 M_10 rfl) yo_X7_orNone kw_1209 (by decide) hM hS hl.1 rfl rfl (Nat.le_of_ble_eq_true rfl) dX7_behind_53) hS (fun H locs hM hS => ?_)
        exact sk_iret C hM hS (sk_e2 h) dX7_behind_56
      · have h := sk_pos h hc
        refine lv_ldc (v := (-1000000001)) hx hb hown (hts _ kw_1044) dX7_behind_27 ?_
        exact sk_iret C hM hS (sk_e2 h) dX7_behind_29
theorem dX7_first_0 : decode cX7_first 0 = .ok (.aload_n 0, 1) := by decide +kernel
theorem dX7_first_1 : decode cX7_first 1 = .ok (.iload_n 1, 1) := by decide +kernel
theorem dX7_first_2 : decode cX7_first 2 = .ok (.invokevirtual 138, 3) := by decide +kernel
theorem dX7_first_5 : decode cX7_first 5 = .ok (.ifCond .eq 18, 3) := by decide +kernel
theorem dX7_first_8 : decode cX7_first 8 = .ok (.iload_n 2, 1) := by decide +kernel
theorem dX7_first_9 : decode cX7_first 9 = .ok (.invokestatic 124, 3) := by decide +kernel
theorem dX7_first_12 : decode cX7_first 12 = .ok (.ifCond .eq 11, 3) := by decide +kernel
theorem dX7_first_15 : decode cX7_first 15 = .ok (.aload_n 0, 1) := by decide +kernel
theorem dX7_first_16 : decode cX7_first 16 = .ok (.iload_n 3, 1) := by decide +kernel
theorem dX7_first_17 : decode cX7_first 17 = .ok (.invokevirtual 129, 3) := by decide +kernel
theorem dX7_first_20 : decode cX7_first 20 = .ok (.ifCond .ne 6, 3) := by decide +kernel
theorem dX7_first_23 : decode cX7_first 23 = .ok (.ldc 80, 2) := by decide +kernel
theorem dX7_first_25 : decode cX7_first 25 = .ok (.ireturn, 1) := by decide +kernel
theorem dX7_first_26 : decode cX7_first 26 = .ok (.aload_n 0, 1) := by decide +kernel
theorem dX7_first_27 : decode cX7_first 27 = .ok (.invokevirtual 162, 3) := by decide +kernel
theorem dX7_first_30 : decode cX7_first 30 = .ok (.iconst (-1), 1) := by decide +kernel
theorem dX7_first_31 : decode cX7_first 31 = .ok (.istore 4, 2) := by decide +kernel
theorem dX7_first_33 : decode cX7_first 33 = .ok (.iconst 0, 1) := by decide +kernel
theorem dX7_first_34 : decode cX7_first 34 = .ok (.istore 5, 2) := by decide +kernel
theorem dX7_first_36 : decode cX7_first 36 = .ok (.iload 5, 2) := by decide +kernel
theorem dX7_first_38 : decode cX7_first 38 = .ok (.sipush 200, 3) := by decide +kernel
theorem dX7_first_41 : decode cX7_first 41 = .ok (.if_icmp .gt 36, 3) := by decide +kernel
theorem dX7_first_44 : decode cX7_first 44 = .ok (.iload 4, 2) := by decide +kernel
theorem dX7_first_46 : decode cX7_first 46 = .ok (.ifCond .ge 31, 3) := by decide +kernel
theorem dX7_first_49 : decode cX7_first 49 = .ok (.aload_n 0, 1) := by decide +kernel
theorem dX7_first_50 : decode cX7_first 50 = .ok (.iload_n 1, 1) := by decide +kernel
theorem dX7_first_51 : decode cX7_first 51 = .ok (.iload_n 2, 1) := by decide +kernel
theorem dX7_first_52 : decode cX7_first 52 = .ok (.invokevirtual 154, 3) := by decide +kernel
theorem dX7_first_55 : decode cX7_first 55 = .ok (.iload_n 3, 1) := by decide +kernel
theorem dX7_first_56 : decode cX7_first 56 = .ok (.if_icmp .ne 8, 3) := by decide +kernel
theorem dX7_first_59 : decode cX7_first 59 = .ok (.iload 5, 2) := by decide +kernel
theorem dX7_first_61 : decode cX7_first 61 = .ok (.goto 4, 3) := by decide +kernel
theorem dX7_first_64 : decode cX7_first 64 = .ok (.iconst (-1), 1) := by decide +kernel
theorem dX7_first_65 : decode cX7_first 65 = .ok (.istore 4, 2) := by decide +kernel
theorem dX7_first_67 : decode cX7_first 67 = .ok (.aload_n 0, 1) := by decide +kernel
theorem dX7_first_68 : decode cX7_first 68 = .ok (.invokevirtual 148, 3) := by decide +kernel
theorem dX7_first_71 : decode cX7_first 71 = .ok (.iinc 5 1, 3) := by decide +kernel
theorem dX7_first_74 : decode cX7_first 74 = .ok (.goto (-38), 3) := by decide +kernel
theorem dX7_first_77 : decode cX7_first 77 = .ok (.aload_n 0, 1) := by decide +kernel
theorem dX7_first_78 : decode cX7_first 78 = .ok (.invokevirtual 169, 3) := by decide +kernel
theorem dX7_first_81 : decode cX7_first 81 = .ok (.iload 4, 2) := by decide +kernel
theorem dX7_first_83 : decode cX7_first 83 = .ok (.invokestatic 157, 3) := by decide +kernel
theorem dX7_first_86 : decode cX7_first 86 = .ok (.ireturn, 1) := by decide +kernel
set_option maxHeartbeats 4000000 in
set_option maxRecDepth 100000 in
theorem w_X7_first_L36 {g : sk_G} {l : Launch} {p : Program} {e : Env} {s : State} {m : MethodId} {av : Array Value} {below : List Frame} {meth : Method} {c : Code} (C : sk_C g p s m av meth c cX7_first 6 RX7 (some .int)) (a1 : Int32) (a2 : Int32) (a3 : Int32) {rr : Int32} {MM : sk_M} :
    ∀ (n : Nat) (a4 : Int32) (a5 : Int32) (M : sk_M) (H : Heap) (locs : List Loc) (ls : Array Slot), lv_has ls 6 [(0, .ref (sk_ad g 88)), (1, .int a1), (2, .int a2), (3, .int a3), (4, .int a4), (5, .int a5)] → sk_P g M H → va_S (sk_A g) s.heap H locs → ∀ {out : Int32 × sk_M}, f_X7_first_L36 a1 a2 a3 n a4 a5 M = some out → (∀ (x4 : Int32) (M1 : sk_M) (H : Heap) (locs : List Loc) (ls : Array Slot), some (x4, M1) = some out → lv_has ls 6 [(0, .ref (sk_ad g 88)), (4, .int x4)] → sk_P g M1 H → va_S (sk_A g) s.heap H locs → W p l e (sk_rm 6) s m av below meth c H locs 0 0 (MQ below (sk_QI g rr MM) av s 0 0 (sk_A g)) (F0 m 77 ls [])) → W p l e (sk_rm 6) s m av below meth c H locs 0 0 (MQ below (sk_QI g rr MM) av s 0 0 (sk_A g)) (F0 m 36 ls []) := by
  obtain ⟨hx, hb, hml, hown, hts, hK, hE, hr, hlocks⟩ := id C
  intro n
  induction n with
  | zero =>
    intro a4 a5 M H locs ls hl hM hS out h
    cases h
  | succ n ih =>
    intro a4 a5 M H locs ls hl hM hS out h kx
    rw [f_X7_first_L36] at h
    refine lv_iload hx hb dX7_first_36 (lv_at hl 5 rfl) ?_
    refine lv_sipush (v := 200) hx hb dX7_first_38 (by decide) ?_
    refine lv_icmp_gt hx hb dX7_first_41 rfl (fun hc => ?_) (fun hc => ?_)
    · have h := sk_pos h hc
      exact kx _ _ _ _ _ h (lv_sub hl [0, 4] rfl) hM hS
    · have h := sk_neg h hc
      refine lv_iload hx hb dX7_first_44 (lv_at hl 4 rfl) ?_
      refine lv_if_ge hx hb dX7_first_46 rfl (fun hc => ?_) (fun hc => ?_)
      · have h := sk_pos h hc
        exact kx _ _ _ _ _ h (lv_sub hl [0, 4] rfl) hM hS
      · have h := sk_neg h hc
        refine lv_aload_n hx hb dX7_first_49 rfl (lv_at hl 0 rfl) ?_
        refine lv_iload_n hx hb dX7_first_50 rfl (lv_at hl 1 rfl) ?_
        refine lv_iload_n hx hb dX7_first_51 rfl (lv_at hl 2 rfl) ?_
        obtain ⟨x_6, h_7, h⟩ := sk_b1E h
        refine sk_contI (sk_runV (As := [.int a1, .int a2]) (rest := []) C (c_X7_saidBy g l a1 a2 M h_7) yo_X7_saidBy kw_1205 (sk_recv (ci := 7) C hM rfl rfl) (by decide) hM hS hl.1 rfl rfl (Nat.le_of_ble_eq_true rfl) dX7_first_52) hS (fun H locs hM hS => ?_)
        refine lv_iload_n hx hb dX7_first_55 rfl (lv_at hl 3 rfl) ?_
        have J : ∀ (vv : Int32) (H : Heap) (locs : List Loc), (if x_6 = a3 then a5 else (-1) : Int32) = vv → sk_P g M H → va_S (sk_A g) s.heap H locs → W p l e (sk_rm 6) s m av below meth c H locs 0 0 (MQ below (sk_QI g rr MM) av s 0 0 (sk_A g)) (F0 m 65 ls [.int vv]) := by
          intro vv H locs hvv hM hS
          subst hvv
          refine lv_topi (fun x_8 ex_8 => ?_)
          have h := sk_letU h ex_8
          refine lv_istore (lv' := [(4, .int x_8), (0, .ref (sk_ad g 88)), (1, .int a1), (2, .int a2), (3, .int a3), (5, .int a5)]) hx hb dX7_first_65 hl (by decide) rfl (fun ls hl => ?_)
          refine lv_aload_n hx hb dX7_first_67 rfl (lv_at hl 1 rfl) ?_
          obtain ⟨M_9, h_10, h⟩ := sk_b1E h
          refine sk_contV (sk_runV (As := []) (rest := []) C (c_X7_goesOn g l  M h_10) yo_X7_goesOn kw_1189 (sk_recv (ci := 7) C hM rfl rfl) (by decide) hM hS hl.1 rfl rfl (Nat.le_of_ble_eq_true rfl) dX7_first_68) hS (fun H locs hM hS => ?_)
          refine lv_iinc (v := (a5 + 1)) (lv' := [(5, .int (a5 + 1)), (4, .int x_8), (0, .ref (sk_ad g 88)), (1, .int a1), (2, .int a2), (3, .int a3)]) hx hb dX7_first_71 hl (k := 5) rfl rfl (by decide) rfl (fun ls hl => ?_)
          refine lv_goto hx hb dX7_first_74 rfl ?_
          exact ih x_8 (a5 + 1) M_9 _ _ _ (lv_sub hl [2, 3, 4, 5, 1, 0] rfl) hM hS h kx
        refine lv_icmp_ne hx hb dX7_first_56 rfl (fun hc => ?_) (fun hc => ?_)
        · have J := fun vv H locs q => J vv H locs ((if_neg hc).trans q)
          refine lv_iconst (v := (-1)) hx hb dX7_first_64 (by decide) ?_
          exact J _ _ _ rfl hM hS
        · have J := fun vv H locs q => J vv H locs ((if_pos hc).trans q)
          refine lv_iload hx hb dX7_first_59 (lv_at hl 5 rfl) ?_
          refine lv_goto hx hb dX7_first_61 rfl ?_
          exact J _ _ _ rfl hM hS
set_option maxHeartbeats 4000000 in
set_option maxRecDepth 100000 in
theorem c_X7_first (g : sk_G) (l : Launch) (a1 : Int32) (a2 : Int32) (a3 : Int32) (M : sk_M) {rr : Int32} {MM : sk_M} (h : f_X7_first a1 a2 a3 M = some (rr, MM)) : sk_MI g l yX7_first cX7_first 6 (some .int) 6 [.ref (sk_ad g 88), .int a1, .int a2, .int a3] M rr MM := by
  refine sk_go [(0, .ref (sk_ad g 88)), (1, .int a1), (2, .int a2), (3, .int a3)] (by decide) (Nat.le_of_ble_eq_true rfl) rfl ?_
  intro p e s m av below meth c C ls hl hM hS
  obtain ⟨hx, hb, hml, hown, hts, hK, hE, hr, hlocks⟩ := id C
  rw [f_X7_first] at h
  refine lv_aload_n hx hb dX7_first_0 rfl (lv_at hl 0 rfl) ?_
  refine lv_iload_n hx hb dX7_first_1 rfl (lv_at hl 1 rfl) ?_
  refine sk_contI (sk_runV (As := [.int a1]) (rest := []) C (c_X7_isCloth g l a1 M rfl) yo_X7_isCloth kw_1133 (sk_recv (ci := 7) C hM rfl rfl) (by decide) hM hS hl.1 rfl rfl (Nat.le_of_ble_eq_true rfl) dX7_first_2) hS (fun H locs hM hS => ?_)
  refine lv_if_eq hx hb dX7_first_5 rfl (fun hc => ?_) (fun hc => ?_)
  · have h := sk_pos h hc
    refine lv_ldc (v := (-1000000001)) hx hb hown (hts _ kw_1044) dX7_first_23 ?_
    exact sk_iret C hM hS (sk_e2 h) dX7_first_25
  · have h := sk_neg h hc
    refine lv_iload_n hx hb dX7_first_8 rfl (lv_at hl 2 rfl) ?_
    refine sk_contI (sk_runS (As := [.int a2]) (rest := []) C (c_X7_isNose g l a2 M rfl) yo_X7_isNose kw_1095 (by decide) hM hS hl.1 rfl rfl (Nat.le_of_ble_eq_true rfl) dX7_first_9) hS (fun H locs hM hS => ?_)
    refine lv_if_eq hx hb dX7_first_12 rfl (fun hc => ?_) (fun hc => ?_)
    · have h := sk_pos h hc
      refine lv_ldc (v := (-1000000001)) hx hb hown (hts _ kw_1044) dX7_first_23 ?_
      exact sk_iret C hM hS (sk_e2 h) dX7_first_25
    · have h := sk_neg h hc
      refine lv_aload_n hx hb dX7_first_15 rfl (lv_at hl 0 rfl) ?_
      refine lv_iload_n hx hb dX7_first_16 rfl (lv_at hl 3 rfl) ?_
      refine sk_contI (sk_runV (As := [.int a3]) (rest := []) C (c_X7_isSaid g l a3 M rfl) yo_X7_isSaid kw_1107 (sk_recv (ci := 7) C hM rfl rfl) (by decide) hM hS hl.1 rfl rfl (Nat.le_of_ble_eq_true rfl) dX7_first_17) hS (fun H locs hM hS => ?_)
      refine lv_if_ne hx hb dX7_first_20 rfl (fun hc => ?_) (fun hc => ?_)
      · have h := sk_neg h hc
        refine lv_aload_n hx hb dX7_first_26 rfl (lv_at hl 0 rfl) ?_
        obtain ⟨M_4, h_5, h⟩ := sk_b1E h
        refine sk_contV (sk_runV (As := []) (rest := []) C (c_X7_laysBy g l  M h_5) yo_X7_laysBy kw_1218 (sk_recv (ci := 7) C hM rfl rfl) (by decide) hM hS hl.1 rfl rfl (Nat.le_of_ble_eq_true rfl) dX7_first_27) hS (fun H locs hM hS => ?_)
        refine lv_iconst (v := (-1)) hx hb dX7_first_30 (by decide) ?_
        refine lv_istore (lv' := [(4, .int (-1)), (0, .ref (sk_ad g 88)), (1, .int a1), (2, .int a2), (3, .int a3)]) hx hb dX7_first_31 hl (by decide) rfl (fun ls hl => ?_)
        refine lv_iconst (v := 0) hx hb dX7_first_33 (by decide) ?_
        refine lv_istore (lv' := [(5, .int 0), (4, .int (-1)), (0, .ref (sk_ad g 88)), (1, .int a1), (2, .int a2), (3, .int a3)]) hx hb dX7_first_34 hl (by decide) rfl (fun ls hl => ?_)
        obtain ⟨x_11, M_12, h_16, h⟩ := sk_b2E h
        refine w_X7_first_L36 C a1 a2 a3 sk_FU (-1) 0 M_4 _ _ _ (lv_sub hl [2, 3, 4, 5, 1, 0] rfl) hM hS h_16 (fun y_17 y_18 H locs ls he hl hM hS => ?_)
        obtain ⟨rfl, rfl⟩ := sk_e2 he
        refine lv_aload_n hx hb dX7_first_77 rfl (lv_at hl 0 rfl) ?_
        obtain ⟨M_13, h_14, h⟩ := sk_b1E h
        refine sk_contV (sk_runV (As := []) (rest := []) C (c_X7_laysBack g l  y_18 h_14) yo_X7_laysBack kw_1226 (sk_recv (ci := 7) C hM rfl rfl) (by decide) hM hS hl.1 rfl rfl (Nat.le_of_ble_eq_true rfl) dX7_first_78) hS (fun H locs hM hS => ?_)
        refine lv_iload hx hb dX7_first_81 (lv_at hl 1 rfl) ?_
        refine sk_contI (sk_runS (As := [.int y_17]) (rest := []) C (c_X7_orNone g l y_17 M_13 rfl) yo_X7_orNone kw_1209 (by decide) hM hS hl.1 rfl rfl (Nat.le_of_ble_eq_true rfl) dX7_first_83) hS (fun H locs hM hS => ?_)
        exact sk_iret C hM hS (sk_e2 h) dX7_first_86
      · have h := sk_pos h hc
        refine lv_ldc (v := (-1000000001)) hx hb hown (hts _ kw_1044) dX7_first_23 ?_
        exact sk_iret C hM hS (sk_e2 h) dX7_first_25
theorem dX7_lasts_0 : decode cX7_lasts 0 = .ok (.aload_n 0, 1) := by decide +kernel
theorem dX7_lasts_1 : decode cX7_lasts 1 = .ok (.iload_n 1, 1) := by decide +kernel
theorem dX7_lasts_2 : decode cX7_lasts 2 = .ok (.invokevirtual 138, 3) := by decide +kernel
theorem dX7_lasts_5 : decode cX7_lasts 5 = .ok (.ifCond .eq 31, 3) := by decide +kernel
theorem dX7_lasts_8 : decode cX7_lasts 8 = .ok (.iload_n 2, 1) := by decide +kernel
theorem dX7_lasts_9 : decode cX7_lasts 9 = .ok (.invokestatic 124, 3) := by decide +kernel
theorem dX7_lasts_12 : decode cX7_lasts 12 = .ok (.ifCond .eq 24, 3) := by decide +kernel
theorem dX7_lasts_15 : decode cX7_lasts 15 = .ok (.aload_n 0, 1) := by decide +kernel
theorem dX7_lasts_16 : decode cX7_lasts 16 = .ok (.iload_n 3, 1) := by decide +kernel
theorem dX7_lasts_17 : decode cX7_lasts 17 = .ok (.invokevirtual 129, 3) := by decide +kernel
theorem dX7_lasts_20 : decode cX7_lasts 20 = .ok (.ifCond .eq 16, 3) := by decide +kernel
theorem dX7_lasts_23 : decode cX7_lasts 23 = .ok (.iload 4, 2) := by decide +kernel
theorem dX7_lasts_25 : decode cX7_lasts 25 = .ok (.i2l, 1) := by decide +kernel
theorem dX7_lasts_26 : decode cX7_lasts 26 = .ok (.lconst 0, 1) := by decide +kernel
theorem dX7_lasts_27 : decode cX7_lasts 27 = .ok (.ldc2_w 172, 3) := by decide +kernel
theorem dX7_lasts_30 : decode cX7_lasts 30 = .ok (.invokestatic 71, 3) := by decide +kernel
theorem dX7_lasts_33 : decode cX7_lasts 33 = .ok (.ifCond .ne 6, 3) := by decide +kernel
theorem dX7_lasts_36 : decode cX7_lasts 36 = .ok (.ldc 80, 2) := by decide +kernel
theorem dX7_lasts_38 : decode cX7_lasts 38 = .ok (.ireturn, 1) := by decide +kernel
theorem dX7_lasts_39 : decode cX7_lasts 39 = .ok (.aload_n 0, 1) := by decide +kernel
theorem dX7_lasts_40 : decode cX7_lasts 40 = .ok (.invokevirtual 162, 3) := by decide +kernel
theorem dX7_lasts_43 : decode cX7_lasts 43 = .ok (.iconst 0, 1) := by decide +kernel
theorem dX7_lasts_44 : decode cX7_lasts 44 = .ok (.istore 5, 2) := by decide +kernel
theorem dX7_lasts_46 : decode cX7_lasts 46 = .ok (.iconst 0, 1) := by decide +kernel
theorem dX7_lasts_47 : decode cX7_lasts 47 = .ok (.istore 6, 2) := by decide +kernel
theorem dX7_lasts_49 : decode cX7_lasts 49 = .ok (.iload 6, 2) := by decide +kernel
theorem dX7_lasts_51 : decode cX7_lasts 51 = .ok (.iload 4, 2) := by decide +kernel
theorem dX7_lasts_53 : decode cX7_lasts 53 = .ok (.if_icmp .gt 33, 3) := by decide +kernel
theorem dX7_lasts_56 : decode cX7_lasts 56 = .ok (.iload 5, 2) := by decide +kernel
theorem dX7_lasts_58 : decode cX7_lasts 58 = .ok (.aload_n 0, 1) := by decide +kernel
theorem dX7_lasts_59 : decode cX7_lasts 59 = .ok (.iload_n 1, 1) := by decide +kernel
theorem dX7_lasts_60 : decode cX7_lasts 60 = .ok (.iload_n 2, 1) := by decide +kernel
theorem dX7_lasts_61 : decode cX7_lasts 61 = .ok (.invokevirtual 154, 3) := by decide +kernel
theorem dX7_lasts_64 : decode cX7_lasts 64 = .ok (.iload_n 3, 1) := by decide +kernel
theorem dX7_lasts_65 : decode cX7_lasts 65 = .ok (.if_icmp .ne 7, 3) := by decide +kernel
theorem dX7_lasts_68 : decode cX7_lasts 68 = .ok (.iconst 1, 1) := by decide +kernel
theorem dX7_lasts_69 : decode cX7_lasts 69 = .ok (.goto 4, 3) := by decide +kernel
theorem dX7_lasts_72 : decode cX7_lasts 72 = .ok (.iconst 0, 1) := by decide +kernel
theorem dX7_lasts_73 : decode cX7_lasts 73 = .ok (.iadd, 1) := by decide +kernel
theorem dX7_lasts_74 : decode cX7_lasts 74 = .ok (.istore 5, 2) := by decide +kernel
theorem dX7_lasts_76 : decode cX7_lasts 76 = .ok (.aload_n 0, 1) := by decide +kernel
theorem dX7_lasts_77 : decode cX7_lasts 77 = .ok (.invokevirtual 148, 3) := by decide +kernel
theorem dX7_lasts_80 : decode cX7_lasts 80 = .ok (.iinc 6 1, 3) := by decide +kernel
theorem dX7_lasts_83 : decode cX7_lasts 83 = .ok (.goto (-34), 3) := by decide +kernel
theorem dX7_lasts_86 : decode cX7_lasts 86 = .ok (.aload_n 0, 1) := by decide +kernel
theorem dX7_lasts_87 : decode cX7_lasts 87 = .ok (.invokevirtual 169, 3) := by decide +kernel
theorem dX7_lasts_90 : decode cX7_lasts 90 = .ok (.iload 5, 2) := by decide +kernel
theorem dX7_lasts_92 : decode cX7_lasts 92 = .ok (.ireturn, 1) := by decide +kernel
set_option maxHeartbeats 4000000 in
set_option maxRecDepth 100000 in
theorem w_X7_lasts_L49 {g : sk_G} {l : Launch} {p : Program} {e : Env} {s : State} {m : MethodId} {av : Array Value} {below : List Frame} {meth : Method} {c : Code} (C : sk_C g p s m av meth c cX7_lasts 7 RX7 (some .int)) (a1 : Int32) (a2 : Int32) (a3 : Int32) (a4 : Int32) {rr : Int32} {MM : sk_M} :
    ∀ (n : Nat) (a5 : Int32) (a6 : Int32) (M : sk_M) (H : Heap) (locs : List Loc) (ls : Array Slot), lv_has ls 7 [(0, .ref (sk_ad g 88)), (1, .int a1), (2, .int a2), (3, .int a3), (4, .int a4), (5, .int a5), (6, .int a6)] → sk_P g M H → va_S (sk_A g) s.heap H locs → ∀ {out : Int32 × sk_M}, f_X7_lasts_L49 a1 a2 a3 a4 n a5 a6 M = some out → (∀ (x5 : Int32) (M1 : sk_M) (H : Heap) (locs : List Loc) (ls : Array Slot), some (x5, M1) = some out → lv_has ls 7 [(0, .ref (sk_ad g 88)), (5, .int x5)] → sk_P g M1 H → va_S (sk_A g) s.heap H locs → W p l e (sk_rm 6) s m av below meth c H locs 0 0 (MQ below (sk_QI g rr MM) av s 0 0 (sk_A g)) (F0 m 86 ls [])) → W p l e (sk_rm 6) s m av below meth c H locs 0 0 (MQ below (sk_QI g rr MM) av s 0 0 (sk_A g)) (F0 m 49 ls []) := by
  obtain ⟨hx, hb, hml, hown, hts, hK, hE, hr, hlocks⟩ := id C
  intro n
  induction n with
  | zero =>
    intro a5 a6 M H locs ls hl hM hS out h
    cases h
  | succ n ih =>
    intro a5 a6 M H locs ls hl hM hS out h kx
    rw [f_X7_lasts_L49] at h
    refine lv_iload hx hb dX7_lasts_49 (lv_at hl 6 rfl) ?_
    refine lv_iload hx hb dX7_lasts_51 (lv_at hl 4 rfl) ?_
    refine lv_icmp_gt hx hb dX7_lasts_53 rfl (fun hc => ?_) (fun hc => ?_)
    · have h := sk_pos h hc
      exact kx _ _ _ _ _ h (lv_sub hl [0, 5] rfl) hM hS
    · have h := sk_neg h hc
      refine lv_iload hx hb dX7_lasts_56 (lv_at hl 5 rfl) ?_
      refine lv_aload_n hx hb dX7_lasts_58 rfl (lv_at hl 0 rfl) ?_
      refine lv_iload_n hx hb dX7_lasts_59 rfl (lv_at hl 1 rfl) ?_
      refine lv_iload_n hx hb dX7_lasts_60 rfl (lv_at hl 2 rfl) ?_
      obtain ⟨x_7, h_8, h⟩ := sk_b1E h
      refine sk_contI (sk_runV (As := [.int a1, .int a2]) (rest := [.int a5]) C (c_X7_saidBy g l a1 a2 M h_8) yo_X7_saidBy kw_1205 (sk_recv (ci := 7) C hM rfl rfl) (by decide) hM hS hl.1 rfl rfl (Nat.le_of_ble_eq_true rfl) dX7_lasts_61) hS (fun H locs hM hS => ?_)
      refine lv_iload_n hx hb dX7_lasts_64 rfl (lv_at hl 3 rfl) ?_
      have J : ∀ (vv : Int32) (H : Heap) (locs : List Loc), (if x_7 = a3 then 1 else 0 : Int32) = vv → sk_P g M H → va_S (sk_A g) s.heap H locs → W p l e (sk_rm 6) s m av below meth c H locs 0 0 (MQ below (sk_QI g rr MM) av s 0 0 (sk_A g)) (F0 m 73 ls [.int vv, .int a5]) := by
        intro vv H locs hvv hM hS
        subst hvv
        refine lv_iadd hx hb dX7_lasts_73 ?_
        refine lv_topi (fun x_9 ex_9 => ?_)
        have h := sk_letU h ex_9
        refine lv_istore (lv' := [(5, .int x_9), (0, .ref (sk_ad g 88)), (1, .int a1), (2, .int a2), (3, .int a3), (4, .int a4), (6, .int a6)]) hx hb dX7_lasts_74 hl (by decide) rfl (fun ls hl => ?_)
        refine lv_aload_n hx hb dX7_lasts_76 rfl (lv_at hl 1 rfl) ?_
        obtain ⟨M_10, h_11, h⟩ := sk_b1E h
        refine sk_contV (sk_runV (As := []) (rest := []) C (c_X7_goesOn g l  M h_11) yo_X7_goesOn kw_1189 (sk_recv (ci := 7) C hM rfl rfl) (by decide) hM hS hl.1 rfl rfl (Nat.le_of_ble_eq_true rfl) dX7_lasts_77) hS (fun H locs hM hS => ?_)
        refine lv_iinc (v := (a6 + 1)) (lv' := [(6, .int (a6 + 1)), (5, .int x_9), (0, .ref (sk_ad g 88)), (1, .int a1), (2, .int a2), (3, .int a3), (4, .int a4)]) hx hb dX7_lasts_80 hl (k := 6) rfl rfl (by decide) rfl (fun ls hl => ?_)
        refine lv_goto hx hb dX7_lasts_83 rfl ?_
        exact ih x_9 (a6 + 1) M_10 _ _ _ (lv_sub hl [2, 3, 4, 5, 6, 1, 0] rfl) hM hS h kx
      refine lv_icmp_ne hx hb dX7_lasts_65 rfl (fun hc => ?_) (fun hc => ?_)
      · have J := fun vv H locs q => J vv H locs ((if_neg hc).trans q)
        refine lv_iconst (v := 0) hx hb dX7_lasts_72 (by decide) ?_
        exact J _ _ _ rfl hM hS
      · have J := fun vv H locs q => J vv H locs ((if_pos hc).trans q)
        refine lv_iconst (v := 1) hx hb dX7_lasts_68 (by decide) ?_
        refine lv_goto hx hb dX7_lasts_69 rfl ?_
        exact J _ _ _ rfl hM hS
set_option maxHeartbeats 4000000 in
set_option maxRecDepth 100000 in
theorem c_X7_lasts (g : sk_G) (l : Launch) (a1 : Int32) (a2 : Int32) (a3 : Int32) (a4 : Int32) (M : sk_M) {rr : Int32} {MM : sk_M} (h : f_X7_lasts a1 a2 a3 a4 M = some (rr, MM)) : sk_MI g l yX7_lasts cX7_lasts 7 (some .int) 6 [.ref (sk_ad g 88), .int a1, .int a2, .int a3, .int a4] M rr MM := by
  refine sk_go [(0, .ref (sk_ad g 88)), (1, .int a1), (2, .int a2), (3, .int a3), (4, .int a4)] (by decide) (Nat.le_of_ble_eq_true rfl) rfl ?_
  intro p e s m av below meth c C ls hl hM hS
  obtain ⟨hx, hb, hml, hown, hts, hK, hE, hr, hlocks⟩ := id C
  rw [f_X7_lasts] at h
  refine lv_aload_n hx hb dX7_lasts_0 rfl (lv_at hl 0 rfl) ?_
  refine lv_iload_n hx hb dX7_lasts_1 rfl (lv_at hl 1 rfl) ?_
  refine sk_contI (sk_runV (As := [.int a1]) (rest := []) C (c_X7_isCloth g l a1 M rfl) yo_X7_isCloth kw_1133 (sk_recv (ci := 7) C hM rfl rfl) (by decide) hM hS hl.1 rfl rfl (Nat.le_of_ble_eq_true rfl) dX7_lasts_2) hS (fun H locs hM hS => ?_)
  refine lv_if_eq hx hb dX7_lasts_5 rfl (fun hc => ?_) (fun hc => ?_)
  · have h := sk_pos h hc
    refine lv_ldc (v := (-1000000001)) hx hb hown (hts _ kw_1044) dX7_lasts_36 ?_
    exact sk_iret C hM hS (sk_e2 h) dX7_lasts_38
  · have h := sk_neg h hc
    refine lv_iload_n hx hb dX7_lasts_8 rfl (lv_at hl 2 rfl) ?_
    refine sk_contI (sk_runS (As := [.int a2]) (rest := []) C (c_X7_isNose g l a2 M rfl) yo_X7_isNose kw_1095 (by decide) hM hS hl.1 rfl rfl (Nat.le_of_ble_eq_true rfl) dX7_lasts_9) hS (fun H locs hM hS => ?_)
    refine lv_if_eq hx hb dX7_lasts_12 rfl (fun hc => ?_) (fun hc => ?_)
    · have h := sk_pos h hc
      refine lv_ldc (v := (-1000000001)) hx hb hown (hts _ kw_1044) dX7_lasts_36 ?_
      exact sk_iret C hM hS (sk_e2 h) dX7_lasts_38
    · have h := sk_neg h hc
      refine lv_aload_n hx hb dX7_lasts_15 rfl (lv_at hl 0 rfl) ?_
      refine lv_iload_n hx hb dX7_lasts_16 rfl (lv_at hl 3 rfl) ?_
      refine sk_contI (sk_runV (As := [.int a3]) (rest := []) C (c_X7_isSaid g l a3 M rfl) yo_X7_isSaid kw_1107 (sk_recv (ci := 7) C hM rfl rfl) (by decide) hM hS hl.1 rfl rfl (Nat.le_of_ble_eq_true rfl) dX7_lasts_17) hS (fun H locs hM hS => ?_)
      refine lv_if_eq hx hb dX7_lasts_20 rfl (fun hc => ?_) (fun hc => ?_)
      · have h := sk_pos h hc
        refine lv_ldc (v := (-1000000001)) hx hb hown (hts _ kw_1044) dX7_lasts_36 ?_
        exact sk_iret C hM hS (sk_e2 h) dX7_lasts_38
      · have h := sk_neg h hc
        refine lv_iload hx hb dX7_lasts_23 (lv_at hl 4 rfl) ?_
        refine lv_i2l (v := a4.toInt64) hx hb dX7_lasts_25 rfl ?_
        refine lv_lconst (v := 0) hx hb dX7_lasts_26 (by decide) ?_
        refine lv_ldc2 (v := 200) hx hb hown (hts _ kw_1238) dX7_lasts_27 ?_
        refine sk_contI (sk_runS (As := [.long (a4.toInt64), .long 0, .long 200]) (rest := []) C (c_X7_isIn g l (a4.toInt64) 0 200 M rfl) yo_X7_isIn kw_1040 (by decide) hM hS hl.1 rfl rfl (Nat.le_of_ble_eq_true rfl) dX7_lasts_30) hS (fun H locs hM hS => ?_)
        refine lv_if_ne hx hb dX7_lasts_33 rfl (fun hc => ?_) (fun hc => ?_)
        · have h := sk_neg h hc
          refine lv_aload_n hx hb dX7_lasts_39 rfl (lv_at hl 0 rfl) ?_
          obtain ⟨M_5, h_6, h⟩ := sk_b1E h
          refine sk_contV (sk_runV (As := []) (rest := []) C (c_X7_laysBy g l  M h_6) yo_X7_laysBy kw_1218 (sk_recv (ci := 7) C hM rfl rfl) (by decide) hM hS hl.1 rfl rfl (Nat.le_of_ble_eq_true rfl) dX7_lasts_40) hS (fun H locs hM hS => ?_)
          refine lv_iconst (v := 0) hx hb dX7_lasts_43 (by decide) ?_
          refine lv_istore (lv' := [(5, .int 0), (0, .ref (sk_ad g 88)), (1, .int a1), (2, .int a2), (3, .int a3), (4, .int a4)]) hx hb dX7_lasts_44 hl (by decide) rfl (fun ls hl => ?_)
          refine lv_iconst (v := 0) hx hb dX7_lasts_46 (by decide) ?_
          refine lv_istore (lv' := [(6, .int 0), (5, .int 0), (0, .ref (sk_ad g 88)), (1, .int a1), (2, .int a2), (3, .int a3), (4, .int a4)]) hx hb dX7_lasts_47 hl (by decide) rfl (fun ls hl => ?_)
          obtain ⟨x_12, M_13, h_16, h⟩ := sk_b2E h
          refine w_X7_lasts_L49 C a1 a2 a3 a4 sk_FU 0 0 M_5 _ _ _ (lv_sub hl [2, 3, 4, 5, 6, 1, 0] rfl) hM hS h_16 (fun y_17 y_18 H locs ls he hl hM hS => ?_)
          obtain ⟨rfl, rfl⟩ := sk_e2 he
          refine lv_aload_n hx hb dX7_lasts_86 rfl (lv_at hl 0 rfl) ?_
          obtain ⟨M_14, h_15, h⟩ := sk_b1E h
          refine sk_contV (sk_runV (As := []) (rest := []) C (c_X7_laysBack g l  y_18 h_15) yo_X7_laysBack kw_1226 (sk_recv (ci := 7) C hM rfl rfl) (by decide) hM hS hl.1 rfl rfl (Nat.le_of_ble_eq_true rfl) dX7_lasts_87) hS (fun H locs hM hS => ?_)
          refine lv_iload hx hb dX7_lasts_90 (lv_at hl 1 rfl) ?_
          exact sk_iret C hM hS (sk_e2 h) dX7_lasts_92
        · have h := sk_pos h hc
          refine lv_ldc (v := (-1000000001)) hx hb hown (hts _ kw_1044) dX7_lasts_36 ?_
          exact sk_iret C hM hS (sk_e2 h) dX7_lasts_38
theorem dX7_ones_0 : decode cX7_ones 0 = .ok (.iconst 0, 1) := by decide +kernel
theorem dX7_ones_1 : decode cX7_ones 1 = .ok (.istore_n 1, 1) := by decide +kernel
theorem dX7_ones_2 : decode cX7_ones 2 = .ok (.iconst 0, 1) := by decide +kernel
theorem dX7_ones_3 : decode cX7_ones 3 = .ok (.istore_n 2, 1) := by decide +kernel
theorem dX7_ones_4 : decode cX7_ones 4 = .ok (.iload_n 2, 1) := by decide +kernel
theorem dX7_ones_5 : decode cX7_ones 5 = .ok (.bipush 12, 2) := by decide +kernel
theorem dX7_ones_7 : decode cX7_ones 7 = .ok (.if_icmp .ge 17, 3) := by decide +kernel
theorem dX7_ones_10 : decode cX7_ones 10 = .ok (.iload_n 1, 1) := by decide +kernel
theorem dX7_ones_11 : decode cX7_ones 11 = .ok (.iload_n 0, 1) := by decide +kernel
theorem dX7_ones_12 : decode cX7_ones 12 = .ok (.iload_n 2, 1) := by decide +kernel
theorem dX7_ones_13 : decode cX7_ones 13 = .ok (.ishr, 1) := by decide +kernel
theorem dX7_ones_14 : decode cX7_ones 14 = .ok (.iconst 1, 1) := by decide +kernel
theorem dX7_ones_15 : decode cX7_ones 15 = .ok (.iand, 1) := by decide +kernel
theorem dX7_ones_16 : decode cX7_ones 16 = .ok (.iadd, 1) := by decide +kernel
theorem dX7_ones_17 : decode cX7_ones 17 = .ok (.istore_n 1, 1) := by decide +kernel
theorem dX7_ones_18 : decode cX7_ones 18 = .ok (.iinc 2 1, 3) := by decide +kernel
theorem dX7_ones_21 : decode cX7_ones 21 = .ok (.goto (-17), 3) := by decide +kernel
theorem dX7_ones_24 : decode cX7_ones 24 = .ok (.iload_n 1, 1) := by decide +kernel
theorem dX7_ones_25 : decode cX7_ones 25 = .ok (.ireturn, 1) := by decide +kernel
set_option maxHeartbeats 4000000 in
set_option maxRecDepth 100000 in
theorem w_X7_ones_L4 {g : sk_G} {l : Launch} {p : Program} {e : Env} {s : State} {m : MethodId} {av : Array Value} {below : List Frame} {meth : Method} {c : Code} (C : sk_C g p s m av meth c cX7_ones 3 RX7 (some .int)) (a0 : Int32) (M : sk_M) {rr : Int32} :
    ∀ (n : Nat) (a1 : Int32) (a2 : Int32) (H : Heap) (locs : List Loc) (ls : Array Slot), lv_has ls 3 [(0, .int a0), (1, .int a1), (2, .int a2)] → sk_P g M H → va_S (sk_A g) s.heap H locs → ∀ {out : Int32}, f_X7_ones_L4 a0 M n a1 a2 = some out → (∀ (x1 : Int32) (H : Heap) (locs : List Loc) (ls : Array Slot), some x1 = some out → lv_has ls 3 [(1, .int x1)] → sk_P g M H → va_S (sk_A g) s.heap H locs → W p l e (sk_rm 1) s m av below meth c H locs 0 0 (MQ below (sk_QI g rr M) av s 0 0 (sk_A g)) (F0 m 24 ls [])) → W p l e (sk_rm 1) s m av below meth c H locs 0 0 (MQ below (sk_QI g rr M) av s 0 0 (sk_A g)) (F0 m 4 ls []) := by
  obtain ⟨hx, hb, hml, hown, hts, hK, hE, hr, hlocks⟩ := id C
  intro n
  induction n with
  | zero =>
    intro a1 a2 H locs ls hl hM hS out h
    cases h
  | succ n ih =>
    intro a1 a2 H locs ls hl hM hS out h kx
    rw [f_X7_ones_L4] at h
    refine lv_iload_n hx hb dX7_ones_4 rfl (lv_at hl 2 rfl) ?_
    refine lv_bipush (v := 12) hx hb dX7_ones_5 (by decide) ?_
    refine lv_icmp_ge hx hb dX7_ones_7 rfl (fun hc => ?_) (fun hc => ?_)
    · have h := sk_pos h hc
      exact kx _ _ _ _ h (lv_sub hl [1] rfl) hM hS
    · have h := sk_neg h hc
      refine lv_iload_n hx hb dX7_ones_10 rfl (lv_at hl 1 rfl) ?_
      refine lv_iload_n hx hb dX7_ones_11 rfl (lv_at hl 0 rfl) ?_
      refine lv_iload_n hx hb dX7_ones_12 rfl (lv_at hl 2 rfl) ?_
      refine lv_ishr hx hb dX7_ones_13 ?_
      refine lv_iconst (v := 1) hx hb dX7_ones_14 (by decide) ?_
      refine lv_iand hx hb dX7_ones_15 ?_
      refine lv_iadd hx hb dX7_ones_16 ?_
      refine lv_topi (fun x_1 ex_1 => ?_)
      have h := sk_letU h ex_1
      refine lv_istore_n (lv' := [(1, .int x_1), (0, .int a0), (2, .int a2)]) hx hb dX7_ones_17 rfl hl (by decide) rfl (fun ls hl => ?_)
      refine lv_iinc (v := (a2 + 1)) (lv' := [(2, .int (a2 + 1)), (1, .int x_1), (0, .int a0)]) hx hb dX7_ones_18 hl (k := 2) rfl rfl (by decide) rfl (fun ls hl => ?_)
      refine lv_goto hx hb dX7_ones_21 rfl ?_
      exact ih x_1 (a2 + 1) _ _ _ (lv_sub hl [2, 1, 0] rfl) hM hS h kx
set_option maxHeartbeats 4000000 in
set_option maxRecDepth 100000 in
theorem c_X7_ones (g : sk_G) (l : Launch) (a0 : Int32) (M : sk_M) {rr : Int32} (h : f_X7_ones a0 M = some rr) : sk_MI g l yX7_ones cX7_ones 3 (some .int) 1 [.int a0] M rr M := by
  refine sk_go [(0, .int a0)] (by decide) (Nat.le_of_ble_eq_true rfl) rfl ?_
  intro p e s m av below meth c C ls hl hM hS
  obtain ⟨hx, hb, hml, hown, hts, hK, hE, hr, hlocks⟩ := id C
  rw [f_X7_ones] at h
  refine lv_iconst (v := 0) hx hb dX7_ones_0 (by decide) ?_
  refine lv_istore_n (lv' := [(1, .int 0), (0, .int a0)]) hx hb dX7_ones_1 rfl hl (by decide) rfl (fun ls hl => ?_)
  refine lv_iconst (v := 0) hx hb dX7_ones_2 (by decide) ?_
  refine lv_istore_n (lv' := [(2, .int 0), (1, .int 0), (0, .int a0)]) hx hb dX7_ones_3 rfl hl (by decide) rfl (fun ls hl => ?_)
  obtain ⟨x_2, h_3, h⟩ := sk_b1E h
  refine w_X7_ones_L4 C a0 M sk_FU 0 0 _ _ _ (lv_sub hl [2, 1, 0] rfl) hM hS h_3 (fun y_4 H locs ls he hl hM hS => ?_)
  obtain rfl := Option.some.inj he
  refine lv_iload_n hx hb dX7_ones_24 rfl (lv_at hl 0 rfl) ?_
  exact sk_iret C hM hS ⟨Option.some.inj h, rfl⟩ dX7_ones_25
theorem dX7_whispers_0 : decode cX7_whispers 0 = .ok (.aload_n 0, 1) := by decide +kernel
theorem dX7_whispers_1 : decode cX7_whispers 1 = .ok (.iload_n 1, 1) := by decide +kernel
theorem dX7_whispers_2 : decode cX7_whispers 2 = .ok (.invokevirtual 138, 3) := by decide +kernel
theorem dX7_whispers_5 : decode cX7_whispers 5 = .ok (.ifCond .eq 22, 3) := by decide +kernel
theorem dX7_whispers_8 : decode cX7_whispers 8 = .ok (.iload_n 2, 1) := by decide +kernel
theorem dX7_whispers_9 : decode cX7_whispers 9 = .ok (.invokestatic 124, 3) := by decide +kernel
theorem dX7_whispers_12 : decode cX7_whispers 12 = .ok (.ifCond .eq 15, 3) := by decide +kernel
theorem dX7_whispers_15 : decode cX7_whispers 15 = .ok (.iload_n 3, 1) := by decide +kernel
theorem dX7_whispers_16 : decode cX7_whispers 16 = .ok (.i2l, 1) := by decide +kernel
theorem dX7_whispers_17 : decode cX7_whispers 17 = .ok (.lconst 0, 1) := by decide +kernel
theorem dX7_whispers_18 : decode cX7_whispers 18 = .ok (.ldc2_w 172, 3) := by decide +kernel
theorem dX7_whispers_21 : decode cX7_whispers 21 = .ok (.invokestatic 71, 3) := by decide +kernel
theorem dX7_whispers_24 : decode cX7_whispers 24 = .ok (.ifCond .ne 6, 3) := by decide +kernel
theorem dX7_whispers_27 : decode cX7_whispers 27 = .ok (.ldc 80, 2) := by decide +kernel
theorem dX7_whispers_29 : decode cX7_whispers 29 = .ok (.ireturn, 1) := by decide +kernel
theorem dX7_whispers_30 : decode cX7_whispers 30 = .ok (.aload_n 0, 1) := by decide +kernel
theorem dX7_whispers_31 : decode cX7_whispers 31 = .ok (.invokevirtual 162, 3) := by decide +kernel
theorem dX7_whispers_34 : decode cX7_whispers 34 = .ok (.iconst 0, 1) := by decide +kernel
theorem dX7_whispers_35 : decode cX7_whispers 35 = .ok (.istore 4, 2) := by decide +kernel
theorem dX7_whispers_37 : decode cX7_whispers 37 = .ok (.iconst 0, 1) := by decide +kernel
theorem dX7_whispers_38 : decode cX7_whispers 38 = .ok (.istore 5, 2) := by decide +kernel
theorem dX7_whispers_40 : decode cX7_whispers 40 = .ok (.iload 5, 2) := by decide +kernel
theorem dX7_whispers_42 : decode cX7_whispers 42 = .ok (.iload_n 3, 1) := by decide +kernel
theorem dX7_whispers_43 : decode cX7_whispers 43 = .ok (.if_icmp .gt 39, 3) := by decide +kernel
theorem dX7_whispers_46 : decode cX7_whispers 46 = .ok (.aload_n 0, 1) := by decide +kernel
theorem dX7_whispers_47 : decode cX7_whispers 47 = .ok (.iload_n 1, 1) := by decide +kernel
theorem dX7_whispers_48 : decode cX7_whispers 48 = .ok (.iload_n 2, 1) := by decide +kernel
theorem dX7_whispers_49 : decode cX7_whispers 49 = .ok (.invokevirtual 154, 3) := by decide +kernel
theorem dX7_whispers_52 : decode cX7_whispers 52 = .ok (.istore 6, 2) := by decide +kernel
theorem dX7_whispers_54 : decode cX7_whispers 54 = .ok (.iload 4, 2) := by decide +kernel
theorem dX7_whispers_56 : decode cX7_whispers 56 = .ok (.iload 6, 2) := by decide +kernel
theorem dX7_whispers_58 : decode cX7_whispers 58 = .ok (.ifCond .ge 7, 3) := by decide +kernel
theorem dX7_whispers_61 : decode cX7_whispers 61 = .ok (.iconst 0, 1) := by decide +kernel
theorem dX7_whispers_62 : decode cX7_whispers 62 = .ok (.goto 7, 3) := by decide +kernel
theorem dX7_whispers_65 : decode cX7_whispers 65 = .ok (.iconst 1, 1) := by decide +kernel
theorem dX7_whispers_66 : decode cX7_whispers 66 = .ok (.iload 6, 2) := by decide +kernel
theorem dX7_whispers_68 : decode cX7_whispers 68 = .ok (.ishl, 1) := by decide +kernel
theorem dX7_whispers_69 : decode cX7_whispers 69 = .ok (.ior, 1) := by decide +kernel
theorem dX7_whispers_70 : decode cX7_whispers 70 = .ok (.istore 4, 2) := by decide +kernel
theorem dX7_whispers_72 : decode cX7_whispers 72 = .ok (.aload_n 0, 1) := by decide +kernel
theorem dX7_whispers_73 : decode cX7_whispers 73 = .ok (.invokevirtual 148, 3) := by decide +kernel
theorem dX7_whispers_76 : decode cX7_whispers 76 = .ok (.iinc 5 1, 3) := by decide +kernel
theorem dX7_whispers_79 : decode cX7_whispers 79 = .ok (.goto (-39), 3) := by decide +kernel
theorem dX7_whispers_82 : decode cX7_whispers 82 = .ok (.aload_n 0, 1) := by decide +kernel
theorem dX7_whispers_83 : decode cX7_whispers 83 = .ok (.invokevirtual 169, 3) := by decide +kernel
theorem dX7_whispers_86 : decode cX7_whispers 86 = .ok (.iload 4, 2) := by decide +kernel
theorem dX7_whispers_88 : decode cX7_whispers 88 = .ok (.invokestatic 174, 3) := by decide +kernel
theorem dX7_whispers_91 : decode cX7_whispers 91 = .ok (.ireturn, 1) := by decide +kernel
set_option maxHeartbeats 4000000 in
set_option maxRecDepth 100000 in
theorem w_X7_whispers_L40 {g : sk_G} {l : Launch} {p : Program} {e : Env} {s : State} {m : MethodId} {av : Array Value} {below : List Frame} {meth : Method} {c : Code} (C : sk_C g p s m av meth c cX7_whispers 7 RX7 (some .int)) (a1 : Int32) (a2 : Int32) (a3 : Int32) {rr : Int32} {MM : sk_M} :
    ∀ (n : Nat) (a4 : Int32) (a5 : Int32) (M : sk_M) (H : Heap) (locs : List Loc) (ls : Array Slot), lv_has ls 7 [(0, .ref (sk_ad g 88)), (1, .int a1), (2, .int a2), (3, .int a3), (4, .int a4), (5, .int a5)] → sk_P g M H → va_S (sk_A g) s.heap H locs → ∀ {out : Int32 × sk_M}, f_X7_whispers_L40 a1 a2 a3 n a4 a5 M = some out → (∀ (x4 : Int32) (M1 : sk_M) (H : Heap) (locs : List Loc) (ls : Array Slot), some (x4, M1) = some out → lv_has ls 7 [(0, .ref (sk_ad g 88)), (4, .int x4)] → sk_P g M1 H → va_S (sk_A g) s.heap H locs → W p l e (sk_rm 6) s m av below meth c H locs 0 0 (MQ below (sk_QI g rr MM) av s 0 0 (sk_A g)) (F0 m 82 ls [])) → W p l e (sk_rm 6) s m av below meth c H locs 0 0 (MQ below (sk_QI g rr MM) av s 0 0 (sk_A g)) (F0 m 40 ls []) := by
  obtain ⟨hx, hb, hml, hown, hts, hK, hE, hr, hlocks⟩ := id C
  intro n
  induction n with
  | zero =>
    intro a4 a5 M H locs ls hl hM hS out h
    cases h
  | succ n ih =>
    intro a4 a5 M H locs ls hl hM hS out h kx
    rw [f_X7_whispers_L40] at h
    refine lv_iload hx hb dX7_whispers_40 (lv_at hl 5 rfl) ?_
    refine lv_iload_n hx hb dX7_whispers_42 rfl (lv_at hl 3 rfl) ?_
    refine lv_icmp_gt hx hb dX7_whispers_43 rfl (fun hc => ?_) (fun hc => ?_)
    · have h := sk_pos h hc
      exact kx _ _ _ _ _ h (lv_sub hl [0, 4] rfl) hM hS
    · have h := sk_neg h hc
      refine lv_aload_n hx hb dX7_whispers_46 rfl (lv_at hl 0 rfl) ?_
      refine lv_iload_n hx hb dX7_whispers_47 rfl (lv_at hl 1 rfl) ?_
      refine lv_iload_n hx hb dX7_whispers_48 rfl (lv_at hl 2 rfl) ?_
      obtain ⟨x_6, h_7, h⟩ := sk_b1E h
      refine sk_contI (sk_runV (As := [.int a1, .int a2]) (rest := []) C (c_X7_saidBy g l a1 a2 M h_7) yo_X7_saidBy kw_1205 (sk_recv (ci := 7) C hM rfl rfl) (by decide) hM hS hl.1 rfl rfl (Nat.le_of_ble_eq_true rfl) dX7_whispers_49) hS (fun H locs hM hS => ?_)
      refine lv_istore (lv' := [(6, .int x_6), (0, .ref (sk_ad g 88)), (1, .int a1), (2, .int a2), (3, .int a3), (4, .int a4), (5, .int a5)]) hx hb dX7_whispers_52 hl (by decide) rfl (fun ls hl => ?_)
      refine lv_iload hx hb dX7_whispers_54 (lv_at hl 5 rfl) ?_
      refine lv_iload hx hb dX7_whispers_56 (lv_at hl 0 rfl) ?_
      have J : ∀ (vv : Int32) (H : Heap) (locs : List Loc), (if 0 ≤ x_6 then (1 <<< (x_6 &&& 31)) else 0 : Int32) = vv → sk_P g M H → va_S (sk_A g) s.heap H locs → W p l e (sk_rm 6) s m av below meth c H locs 0 0 (MQ below (sk_QI g rr MM) av s 0 0 (sk_A g)) (F0 m 69 ls [.int vv, .int a4]) := by
        intro vv H locs hvv hM hS
        subst hvv
        refine lv_ior hx hb dX7_whispers_69 ?_
        refine lv_topi (fun x_8 ex_8 => ?_)
        have h := sk_letU h ex_8
        refine lv_istore (lv' := [(4, .int x_8), (6, .int x_6), (0, .ref (sk_ad g 88)), (1, .int a1), (2, .int a2), (3, .int a3), (5, .int a5)]) hx hb dX7_whispers_70 hl (by decide) rfl (fun ls hl => ?_)
        refine lv_aload_n hx hb dX7_whispers_72 rfl (lv_at hl 2 rfl) ?_
        obtain ⟨M_9, h_10, h⟩ := sk_b1E h
        refine sk_contV (sk_runV (As := []) (rest := []) C (c_X7_goesOn g l  M h_10) yo_X7_goesOn kw_1189 (sk_recv (ci := 7) C hM rfl rfl) (by decide) hM hS hl.1 rfl rfl (Nat.le_of_ble_eq_true rfl) dX7_whispers_73) hS (fun H locs hM hS => ?_)
        refine lv_iinc (v := (a5 + 1)) (lv' := [(5, .int (a5 + 1)), (4, .int x_8), (6, .int x_6), (0, .ref (sk_ad g 88)), (1, .int a1), (2, .int a2), (3, .int a3)]) hx hb dX7_whispers_76 hl (k := 6) rfl rfl (by decide) rfl (fun ls hl => ?_)
        refine lv_goto hx hb dX7_whispers_79 rfl ?_
        exact ih x_8 (a5 + 1) M_9 _ _ _ (lv_sub hl [3, 4, 5, 6, 1, 0] rfl) hM hS h kx
      refine lv_if_ge hx hb dX7_whispers_58 rfl (fun hc => ?_) (fun hc => ?_)
      · have J := fun vv H locs q => J vv H locs ((if_pos hc).trans q)
        refine lv_iconst (v := 1) hx hb dX7_whispers_65 (by decide) ?_
        refine lv_iload hx hb dX7_whispers_66 (lv_at hl 0 rfl) ?_
        refine lv_ishl hx hb dX7_whispers_68 ?_
        exact J _ _ _ rfl hM hS
      · have J := fun vv H locs q => J vv H locs ((if_neg hc).trans q)
        refine lv_iconst (v := 0) hx hb dX7_whispers_61 (by decide) ?_
        refine lv_goto hx hb dX7_whispers_62 rfl ?_
        exact J _ _ _ rfl hM hS
set_option maxHeartbeats 4000000 in
set_option maxRecDepth 100000 in
theorem c_X7_whispers (g : sk_G) (l : Launch) (a1 : Int32) (a2 : Int32) (a3 : Int32) (M : sk_M) {rr : Int32} {MM : sk_M} (h : f_X7_whispers a1 a2 a3 M = some (rr, MM)) : sk_MI g l yX7_whispers cX7_whispers 7 (some .int) 6 [.ref (sk_ad g 88), .int a1, .int a2, .int a3] M rr MM := by
  refine sk_go [(0, .ref (sk_ad g 88)), (1, .int a1), (2, .int a2), (3, .int a3)] (by decide) (Nat.le_of_ble_eq_true rfl) rfl ?_
  intro p e s m av below meth c C ls hl hM hS
  obtain ⟨hx, hb, hml, hown, hts, hK, hE, hr, hlocks⟩ := id C
  rw [f_X7_whispers] at h
  refine lv_aload_n hx hb dX7_whispers_0 rfl (lv_at hl 0 rfl) ?_
  refine lv_iload_n hx hb dX7_whispers_1 rfl (lv_at hl 1 rfl) ?_
  refine sk_contI (sk_runV (As := [.int a1]) (rest := []) C (c_X7_isCloth g l a1 M rfl) yo_X7_isCloth kw_1133 (sk_recv (ci := 7) C hM rfl rfl) (by decide) hM hS hl.1 rfl rfl (Nat.le_of_ble_eq_true rfl) dX7_whispers_2) hS (fun H locs hM hS => ?_)
  refine lv_if_eq hx hb dX7_whispers_5 rfl (fun hc => ?_) (fun hc => ?_)
  · have h := sk_pos h hc
    refine lv_ldc (v := (-1000000001)) hx hb hown (hts _ kw_1044) dX7_whispers_27 ?_
    exact sk_iret C hM hS (sk_e2 h) dX7_whispers_29
  · have h := sk_neg h hc
    refine lv_iload_n hx hb dX7_whispers_8 rfl (lv_at hl 2 rfl) ?_
    refine sk_contI (sk_runS (As := [.int a2]) (rest := []) C (c_X7_isNose g l a2 M rfl) yo_X7_isNose kw_1095 (by decide) hM hS hl.1 rfl rfl (Nat.le_of_ble_eq_true rfl) dX7_whispers_9) hS (fun H locs hM hS => ?_)
    refine lv_if_eq hx hb dX7_whispers_12 rfl (fun hc => ?_) (fun hc => ?_)
    · have h := sk_pos h hc
      refine lv_ldc (v := (-1000000001)) hx hb hown (hts _ kw_1044) dX7_whispers_27 ?_
      exact sk_iret C hM hS (sk_e2 h) dX7_whispers_29
    · have h := sk_neg h hc
      refine lv_iload_n hx hb dX7_whispers_15 rfl (lv_at hl 3 rfl) ?_
      refine lv_i2l (v := a3.toInt64) hx hb dX7_whispers_16 rfl ?_
      refine lv_lconst (v := 0) hx hb dX7_whispers_17 (by decide) ?_
      refine lv_ldc2 (v := 200) hx hb hown (hts _ kw_1238) dX7_whispers_18 ?_
      refine sk_contI (sk_runS (As := [.long (a3.toInt64), .long 0, .long 200]) (rest := []) C (c_X7_isIn g l (a3.toInt64) 0 200 M rfl) yo_X7_isIn kw_1040 (by decide) hM hS hl.1 rfl rfl (Nat.le_of_ble_eq_true rfl) dX7_whispers_21) hS (fun H locs hM hS => ?_)
      refine lv_if_ne hx hb dX7_whispers_24 rfl (fun hc => ?_) (fun hc => ?_)
      · have h := sk_neg h hc
        refine lv_aload_n hx hb dX7_whispers_30 rfl (lv_at hl 0 rfl) ?_
        obtain ⟨M_4, h_5, h⟩ := sk_b1E h
        refine sk_contV (sk_runV (As := []) (rest := []) C (c_X7_laysBy g l  M h_5) yo_X7_laysBy kw_1218 (sk_recv (ci := 7) C hM rfl rfl) (by decide) hM hS hl.1 rfl rfl (Nat.le_of_ble_eq_true rfl) dX7_whispers_31) hS (fun H locs hM hS => ?_)
        refine lv_iconst (v := 0) hx hb dX7_whispers_34 (by decide) ?_
        refine lv_istore (lv' := [(4, .int 0), (0, .ref (sk_ad g 88)), (1, .int a1), (2, .int a2), (3, .int a3)]) hx hb dX7_whispers_35 hl (by decide) rfl (fun ls hl => ?_)
        refine lv_iconst (v := 0) hx hb dX7_whispers_37 (by decide) ?_
        refine lv_istore (lv' := [(5, .int 0), (4, .int 0), (0, .ref (sk_ad g 88)), (1, .int a1), (2, .int a2), (3, .int a3)]) hx hb dX7_whispers_38 hl (by decide) rfl (fun ls hl => ?_)
        obtain ⟨x_11, M_12, h_17, h⟩ := sk_b2E h
        refine w_X7_whispers_L40 C a1 a2 a3 sk_FU 0 0 M_4 _ _ _ (lv_sub hl [2, 3, 4, 5, 1, 0] rfl) hM hS h_17 (fun y_18 y_19 H locs ls he hl hM hS => ?_)
        obtain ⟨rfl, rfl⟩ := sk_e2 he
        refine lv_aload_n hx hb dX7_whispers_82 rfl (lv_at hl 0 rfl) ?_
        obtain ⟨M_13, h_14, h⟩ := sk_b1E h
        refine sk_contV (sk_runV (As := []) (rest := []) C (c_X7_laysBack g l  y_19 h_14) yo_X7_laysBack kw_1226 (sk_recv (ci := 7) C hM rfl rfl) (by decide) hM hS hl.1 rfl rfl (Nat.le_of_ble_eq_true rfl) dX7_whispers_83) hS (fun H locs hM hS => ?_)
        refine lv_iload hx hb dX7_whispers_86 (lv_at hl 1 rfl) ?_
        obtain ⟨x_15, h_16, h⟩ := sk_b1E h
        refine sk_contI (sk_runS (As := [.int y_18]) (rest := []) C (c_X7_ones g l y_18 M_13 h_16) yo_X7_ones kw_1243 (by decide) hM hS hl.1 rfl rfl (Nat.le_of_ble_eq_true rfl) dX7_whispers_88) hS (fun H locs hM hS => ?_)
        exact sk_iret C hM hS (sk_e2 h) dX7_whispers_91
      · have h := sk_pos h hc
        refine lv_ldc (v := (-1000000001)) hx hb hown (hts _ kw_1044) dX7_whispers_27 ?_
        exact sk_iret C hM hS (sk_e2 h) dX7_whispers_29
theorem dX7_dumb_0 : decode cX7_dumb 0 = .ok (.aload_n 0, 1) := by decide +kernel
theorem dX7_dumb_1 : decode cX7_dumb 1 = .ok (.iload_n 1, 1) := by decide +kernel
theorem dX7_dumb_2 : decode cX7_dumb 2 = .ok (.invokevirtual 138, 3) := by decide +kernel
theorem dX7_dumb_5 : decode cX7_dumb 5 = .ok (.ifCond .eq 10, 3) := by decide +kernel
theorem dX7_dumb_8 : decode cX7_dumb 8 = .ok (.iload_n 2, 1) := by decide +kernel
theorem dX7_dumb_9 : decode cX7_dumb 9 = .ok (.invokestatic 124, 3) := by decide +kernel
theorem dX7_dumb_12 : decode cX7_dumb 12 = .ok (.ifCond .ne 6, 3) := by decide +kernel
theorem dX7_dumb_15 : decode cX7_dumb 15 = .ok (.ldc 80, 2) := by decide +kernel
theorem dX7_dumb_17 : decode cX7_dumb 17 = .ok (.ireturn, 1) := by decide +kernel
theorem dX7_dumb_18 : decode cX7_dumb 18 = .ok (.aload_n 0, 1) := by decide +kernel
theorem dX7_dumb_19 : decode cX7_dumb 19 = .ok (.invokevirtual 162, 3) := by decide +kernel
theorem dX7_dumb_22 : decode cX7_dumb 22 = .ok (.iconst (-1), 1) := by decide +kernel
theorem dX7_dumb_23 : decode cX7_dumb 23 = .ok (.istore_n 3, 1) := by decide +kernel
theorem dX7_dumb_24 : decode cX7_dumb 24 = .ok (.iconst 0, 1) := by decide +kernel
theorem dX7_dumb_25 : decode cX7_dumb 25 = .ok (.istore 4, 2) := by decide +kernel
theorem dX7_dumb_27 : decode cX7_dumb 27 = .ok (.iload 4, 2) := by decide +kernel
theorem dX7_dumb_29 : decode cX7_dumb 29 = .ok (.sipush 300, 3) := by decide +kernel
theorem dX7_dumb_32 : decode cX7_dumb 32 = .ok (.if_icmp .gt 33, 3) := by decide +kernel
theorem dX7_dumb_35 : decode cX7_dumb 35 = .ok (.iload_n 3, 1) := by decide +kernel
theorem dX7_dumb_36 : decode cX7_dumb 36 = .ok (.ifCond .ge 29, 3) := by decide +kernel
theorem dX7_dumb_39 : decode cX7_dumb 39 = .ok (.aload_n 0, 1) := by decide +kernel
theorem dX7_dumb_40 : decode cX7_dumb 40 = .ok (.iload_n 1, 1) := by decide +kernel
theorem dX7_dumb_41 : decode cX7_dumb 41 = .ok (.iload_n 2, 1) := by decide +kernel
theorem dX7_dumb_42 : decode cX7_dumb 42 = .ok (.invokevirtual 151, 3) := by decide +kernel
theorem dX7_dumb_45 : decode cX7_dumb 45 = .ok (.ifCond .ne 8, 3) := by decide +kernel
theorem dX7_dumb_48 : decode cX7_dumb 48 = .ok (.iload 4, 2) := by decide +kernel
theorem dX7_dumb_50 : decode cX7_dumb 50 = .ok (.goto 4, 3) := by decide +kernel
theorem dX7_dumb_53 : decode cX7_dumb 53 = .ok (.iconst (-1), 1) := by decide +kernel
theorem dX7_dumb_54 : decode cX7_dumb 54 = .ok (.istore_n 3, 1) := by decide +kernel
theorem dX7_dumb_55 : decode cX7_dumb 55 = .ok (.aload_n 0, 1) := by decide +kernel
theorem dX7_dumb_56 : decode cX7_dumb 56 = .ok (.invokevirtual 148, 3) := by decide +kernel
theorem dX7_dumb_59 : decode cX7_dumb 59 = .ok (.iinc 4 1, 3) := by decide +kernel
theorem dX7_dumb_62 : decode cX7_dumb 62 = .ok (.goto (-35), 3) := by decide +kernel
theorem dX7_dumb_65 : decode cX7_dumb 65 = .ok (.aload_n 0, 1) := by decide +kernel
theorem dX7_dumb_66 : decode cX7_dumb 66 = .ok (.invokevirtual 169, 3) := by decide +kernel
theorem dX7_dumb_69 : decode cX7_dumb 69 = .ok (.iload_n 3, 1) := by decide +kernel
theorem dX7_dumb_70 : decode cX7_dumb 70 = .ok (.invokestatic 157, 3) := by decide +kernel
theorem dX7_dumb_73 : decode cX7_dumb 73 = .ok (.ireturn, 1) := by decide +kernel
set_option maxHeartbeats 4000000 in
set_option maxRecDepth 100000 in
theorem w_X7_dumb_L27 {g : sk_G} {l : Launch} {p : Program} {e : Env} {s : State} {m : MethodId} {av : Array Value} {below : List Frame} {meth : Method} {c : Code} (C : sk_C g p s m av meth c cX7_dumb 5 RX7 (some .int)) (a1 : Int32) (a2 : Int32) {rr : Int32} {MM : sk_M} :
    ∀ (n : Nat) (a3 : Int32) (a4 : Int32) (M : sk_M) (H : Heap) (locs : List Loc) (ls : Array Slot), lv_has ls 5 [(0, .ref (sk_ad g 88)), (1, .int a1), (2, .int a2), (3, .int a3), (4, .int a4)] → sk_P g M H → va_S (sk_A g) s.heap H locs → ∀ {out : Int32 × sk_M}, f_X7_dumb_L27 a1 a2 n a3 a4 M = some out → (∀ (x3 : Int32) (M1 : sk_M) (H : Heap) (locs : List Loc) (ls : Array Slot), some (x3, M1) = some out → lv_has ls 5 [(0, .ref (sk_ad g 88)), (3, .int x3)] → sk_P g M1 H → va_S (sk_A g) s.heap H locs → W p l e (sk_rm 6) s m av below meth c H locs 0 0 (MQ below (sk_QI g rr MM) av s 0 0 (sk_A g)) (F0 m 65 ls [])) → W p l e (sk_rm 6) s m av below meth c H locs 0 0 (MQ below (sk_QI g rr MM) av s 0 0 (sk_A g)) (F0 m 27 ls []) := by
  obtain ⟨hx, hb, hml, hown, hts, hK, hE, hr, hlocks⟩ := id C
  intro n
  induction n with
  | zero =>
    intro a3 a4 M H locs ls hl hM hS out h
    cases h
  | succ n ih =>
    intro a3 a4 M H locs ls hl hM hS out h kx
    rw [f_X7_dumb_L27] at h
    refine lv_iload hx hb dX7_dumb_27 (lv_at hl 4 rfl) ?_
    refine lv_sipush (v := 300) hx hb dX7_dumb_29 (by decide) ?_
    refine lv_icmp_gt hx hb dX7_dumb_32 rfl (fun hc => ?_) (fun hc => ?_)
    · have h := sk_pos h hc
      exact kx _ _ _ _ _ h (lv_sub hl [0, 3] rfl) hM hS
    · have h := sk_neg h hc
      refine lv_iload_n hx hb dX7_dumb_35 rfl (lv_at hl 3 rfl) ?_
      refine lv_if_ge hx hb dX7_dumb_36 rfl (fun hc => ?_) (fun hc => ?_)
      · have h := sk_pos h hc
        exact kx _ _ _ _ _ h (lv_sub hl [0, 3] rfl) hM hS
      · have h := sk_neg h hc
        refine lv_aload_n hx hb dX7_dumb_39 rfl (lv_at hl 0 rfl) ?_
        refine lv_iload_n hx hb dX7_dumb_40 rfl (lv_at hl 1 rfl) ?_
        refine lv_iload_n hx hb dX7_dumb_41 rfl (lv_at hl 2 rfl) ?_
        obtain ⟨x_5, h_6, h⟩ := sk_b1E h
        refine sk_contI (sk_runV (As := [.int a1, .int a2]) (rest := []) C (c_X7_smeltOn g l a1 a2 M h_6) yo_X7_smeltOn kw_1197 (sk_recv (ci := 7) C hM rfl rfl) (by decide) hM hS hl.1 rfl rfl (Nat.le_of_ble_eq_true rfl) dX7_dumb_42) hS (fun H locs hM hS => ?_)
        have J : ∀ (vv : Int32) (H : Heap) (locs : List Loc), (if x_5 = 0 then a4 else (-1) : Int32) = vv → sk_P g M H → va_S (sk_A g) s.heap H locs → W p l e (sk_rm 6) s m av below meth c H locs 0 0 (MQ below (sk_QI g rr MM) av s 0 0 (sk_A g)) (F0 m 54 ls [.int vv]) := by
          intro vv H locs hvv hM hS
          subst hvv
          refine lv_topi (fun x_7 ex_7 => ?_)
          have h := sk_letU h ex_7
          refine lv_istore_n (lv' := [(3, .int x_7), (0, .ref (sk_ad g 88)), (1, .int a1), (2, .int a2), (4, .int a4)]) hx hb dX7_dumb_54 rfl hl (by decide) rfl (fun ls hl => ?_)
          refine lv_aload_n hx hb dX7_dumb_55 rfl (lv_at hl 1 rfl) ?_
          obtain ⟨M_8, h_9, h⟩ := sk_b1E h
          refine sk_contV (sk_runV (As := []) (rest := []) C (c_X7_goesOn g l  M h_9) yo_X7_goesOn kw_1189 (sk_recv (ci := 7) C hM rfl rfl) (by decide) hM hS hl.1 rfl rfl (Nat.le_of_ble_eq_true rfl) dX7_dumb_56) hS (fun H locs hM hS => ?_)
          refine lv_iinc (v := (a4 + 1)) (lv' := [(4, .int (a4 + 1)), (3, .int x_7), (0, .ref (sk_ad g 88)), (1, .int a1), (2, .int a2)]) hx hb dX7_dumb_59 hl (k := 4) rfl rfl (by decide) rfl (fun ls hl => ?_)
          refine lv_goto hx hb dX7_dumb_62 rfl ?_
          exact ih x_7 (a4 + 1) M_8 _ _ _ (lv_sub hl [2, 3, 4, 1, 0] rfl) hM hS h kx
        refine lv_if_ne hx hb dX7_dumb_45 rfl (fun hc => ?_) (fun hc => ?_)
        · have J := fun vv H locs q => J vv H locs ((if_neg hc).trans q)
          refine lv_iconst (v := (-1)) hx hb dX7_dumb_53 (by decide) ?_
          exact J _ _ _ rfl hM hS
        · have J := fun vv H locs q => J vv H locs ((if_pos hc).trans q)
          refine lv_iload hx hb dX7_dumb_48 (lv_at hl 4 rfl) ?_
          refine lv_goto hx hb dX7_dumb_50 rfl ?_
          exact J _ _ _ rfl hM hS
set_option maxHeartbeats 4000000 in
set_option maxRecDepth 100000 in
theorem c_X7_dumb (g : sk_G) (l : Launch) (a1 : Int32) (a2 : Int32) (M : sk_M) {rr : Int32} {MM : sk_M} (h : f_X7_dumb a1 a2 M = some (rr, MM)) : sk_MI g l yX7_dumb cX7_dumb 5 (some .int) 6 [.ref (sk_ad g 88), .int a1, .int a2] M rr MM := by
  refine sk_go [(0, .ref (sk_ad g 88)), (1, .int a1), (2, .int a2)] (by decide) (Nat.le_of_ble_eq_true rfl) rfl ?_
  intro p e s m av below meth c C ls hl hM hS
  obtain ⟨hx, hb, hml, hown, hts, hK, hE, hr, hlocks⟩ := id C
  rw [f_X7_dumb] at h
  refine lv_aload_n hx hb dX7_dumb_0 rfl (lv_at hl 0 rfl) ?_
  refine lv_iload_n hx hb dX7_dumb_1 rfl (lv_at hl 1 rfl) ?_
  refine sk_contI (sk_runV (As := [.int a1]) (rest := []) C (c_X7_isCloth g l a1 M rfl) yo_X7_isCloth kw_1133 (sk_recv (ci := 7) C hM rfl rfl) (by decide) hM hS hl.1 rfl rfl (Nat.le_of_ble_eq_true rfl) dX7_dumb_2) hS (fun H locs hM hS => ?_)
  refine lv_if_eq hx hb dX7_dumb_5 rfl (fun hc => ?_) (fun hc => ?_)
  · have h := sk_pos h hc
    refine lv_ldc (v := (-1000000001)) hx hb hown (hts _ kw_1044) dX7_dumb_15 ?_
    exact sk_iret C hM hS (sk_e2 h) dX7_dumb_17
  · have h := sk_neg h hc
    refine lv_iload_n hx hb dX7_dumb_8 rfl (lv_at hl 2 rfl) ?_
    refine sk_contI (sk_runS (As := [.int a2]) (rest := []) C (c_X7_isNose g l a2 M rfl) yo_X7_isNose kw_1095 (by decide) hM hS hl.1 rfl rfl (Nat.le_of_ble_eq_true rfl) dX7_dumb_9) hS (fun H locs hM hS => ?_)
    refine lv_if_ne hx hb dX7_dumb_12 rfl (fun hc => ?_) (fun hc => ?_)
    · have h := sk_neg h hc
      refine lv_aload_n hx hb dX7_dumb_18 rfl (lv_at hl 0 rfl) ?_
      obtain ⟨M_3, h_4, h⟩ := sk_b1E h
      refine sk_contV (sk_runV (As := []) (rest := []) C (c_X7_laysBy g l  M h_4) yo_X7_laysBy kw_1218 (sk_recv (ci := 7) C hM rfl rfl) (by decide) hM hS hl.1 rfl rfl (Nat.le_of_ble_eq_true rfl) dX7_dumb_19) hS (fun H locs hM hS => ?_)
      refine lv_iconst (v := (-1)) hx hb dX7_dumb_22 (by decide) ?_
      refine lv_istore_n (lv' := [(3, .int (-1)), (0, .ref (sk_ad g 88)), (1, .int a1), (2, .int a2)]) hx hb dX7_dumb_23 rfl hl (by decide) rfl (fun ls hl => ?_)
      refine lv_iconst (v := 0) hx hb dX7_dumb_24 (by decide) ?_
      refine lv_istore (lv' := [(4, .int 0), (3, .int (-1)), (0, .ref (sk_ad g 88)), (1, .int a1), (2, .int a2)]) hx hb dX7_dumb_25 hl (by decide) rfl (fun ls hl => ?_)
      obtain ⟨x_10, M_11, h_15, h⟩ := sk_b2E h
      refine w_X7_dumb_L27 C a1 a2 sk_FU (-1) 0 M_3 _ _ _ (lv_sub hl [2, 3, 4, 1, 0] rfl) hM hS h_15 (fun y_16 y_17 H locs ls he hl hM hS => ?_)
      obtain ⟨rfl, rfl⟩ := sk_e2 he
      refine lv_aload_n hx hb dX7_dumb_65 rfl (lv_at hl 0 rfl) ?_
      obtain ⟨M_12, h_13, h⟩ := sk_b1E h
      refine sk_contV (sk_runV (As := []) (rest := []) C (c_X7_laysBack g l  y_17 h_13) yo_X7_laysBack kw_1226 (sk_recv (ci := 7) C hM rfl rfl) (by decide) hM hS hl.1 rfl rfl (Nat.le_of_ble_eq_true rfl) dX7_dumb_66) hS (fun H locs hM hS => ?_)
      refine lv_iload_n hx hb dX7_dumb_69 rfl (lv_at hl 1 rfl) ?_
      refine sk_contI (sk_runS (As := [.int y_16]) (rest := []) C (c_X7_orNone g l y_16 M_12 rfl) yo_X7_orNone kw_1209 (by decide) hM hS hl.1 rfl rfl (Nat.le_of_ble_eq_true rfl) dX7_dumb_70) hS (fun H locs hM hS => ?_)
      exact sk_iret C hM hS (sk_e2 h) dX7_dumb_73
    · have h := sk_pos h hc
      refine lv_ldc (v := (-1000000001)) hx hb hown (hts _ kw_1044) dX7_dumb_15 ?_
      exact sk_iret C hM hS (sk_e2 h) dX7_dumb_17
theorem dX7_secret_0 : decode cX7_secret 0 = .ok (.aload_n 0, 1) := by decide +kernel
theorem dX7_secret_1 : decode cX7_secret 1 = .ok (.iload_n 1, 1) := by decide +kernel
theorem dX7_secret_2 : decode cX7_secret 2 = .ok (.invokevirtual 138, 3) := by decide +kernel
theorem dX7_secret_5 : decode cX7_secret 5 = .ok (.ifCond .eq 15, 3) := by decide +kernel
theorem dX7_secret_8 : decode cX7_secret 8 = .ok (.iload_n 2, 1) := by decide +kernel
theorem dX7_secret_9 : decode cX7_secret 9 = .ok (.i2l, 1) := by decide +kernel
theorem dX7_secret_10 : decode cX7_secret 10 = .ok (.lconst 0, 1) := by decide +kernel
theorem dX7_secret_11 : decode cX7_secret 11 = .ok (.ldc2_w 160, 3) := by decide +kernel
theorem dX7_secret_14 : decode cX7_secret 14 = .ok (.invokestatic 71, 3) := by decide +kernel
theorem dX7_secret_17 : decode cX7_secret 17 = .ok (.ifCond .ne 6, 3) := by decide +kernel
theorem dX7_secret_20 : decode cX7_secret 20 = .ok (.ldc 80, 2) := by decide +kernel
theorem dX7_secret_22 : decode cX7_secret 22 = .ok (.ireturn, 1) := by decide +kernel
theorem dX7_secret_23 : decode cX7_secret 23 = .ok (.aload_n 0, 1) := by decide +kernel
theorem dX7_secret_24 : decode cX7_secret 24 = .ok (.invokevirtual 162, 3) := by decide +kernel
theorem dX7_secret_27 : decode cX7_secret 27 = .ok (.aload_n 0, 1) := by decide +kernel
theorem dX7_secret_28 : decode cX7_secret 28 = .ok (.iload_n 2, 1) := by decide +kernel
theorem dX7_secret_29 : decode cX7_secret 29 = .ok (.invokevirtual 165, 3) := by decide +kernel
theorem dX7_secret_32 : decode cX7_secret 32 = .ok (.iconst 0, 1) := by decide +kernel
theorem dX7_secret_33 : decode cX7_secret 33 = .ok (.istore_n 3, 1) := by decide +kernel
theorem dX7_secret_34 : decode cX7_secret 34 = .ok (.iconst 0, 1) := by decide +kernel
theorem dX7_secret_35 : decode cX7_secret 35 = .ok (.istore 4, 2) := by decide +kernel
theorem dX7_secret_37 : decode cX7_secret 37 = .ok (.iload 4, 2) := by decide +kernel
theorem dX7_secret_39 : decode cX7_secret 39 = .ok (.iconst 4, 1) := by decide +kernel
theorem dX7_secret_40 : decode cX7_secret 40 = .ok (.if_icmp .ge 30, 3) := by decide +kernel
theorem dX7_secret_43 : decode cX7_secret 43 = .ok (.iload_n 3, 1) := by decide +kernel
theorem dX7_secret_44 : decode cX7_secret 44 = .ok (.aload_n 0, 1) := by decide +kernel
theorem dX7_secret_45 : decode cX7_secret 45 = .ok (.iload_n 1, 1) := by decide +kernel
theorem dX7_secret_46 : decode cX7_secret 46 = .ok (.iload 4, 2) := by decide +kernel
theorem dX7_secret_48 : decode cX7_secret 48 = .ok (.invokevirtual 154, 3) := by decide +kernel
theorem dX7_secret_51 : decode cX7_secret 51 = .ok (.ifCond .ge 10, 3) := by decide +kernel
theorem dX7_secret_54 : decode cX7_secret 54 = .ok (.iconst 1, 1) := by decide +kernel
theorem dX7_secret_55 : decode cX7_secret 55 = .ok (.iload 4, 2) := by decide +kernel
theorem dX7_secret_57 : decode cX7_secret 57 = .ok (.ishl, 1) := by decide +kernel
theorem dX7_secret_58 : decode cX7_secret 58 = .ok (.goto 4, 3) := by decide +kernel
theorem dX7_secret_61 : decode cX7_secret 61 = .ok (.iconst 0, 1) := by decide +kernel
theorem dX7_secret_62 : decode cX7_secret 62 = .ok (.ior, 1) := by decide +kernel
theorem dX7_secret_63 : decode cX7_secret 63 = .ok (.istore_n 3, 1) := by decide +kernel
theorem dX7_secret_64 : decode cX7_secret 64 = .ok (.iinc 4 1, 3) := by decide +kernel
theorem dX7_secret_67 : decode cX7_secret 67 = .ok (.goto (-30), 3) := by decide +kernel
theorem dX7_secret_70 : decode cX7_secret 70 = .ok (.aload_n 0, 1) := by decide +kernel
theorem dX7_secret_71 : decode cX7_secret 71 = .ok (.invokevirtual 169, 3) := by decide +kernel
theorem dX7_secret_74 : decode cX7_secret 74 = .ok (.iload_n 3, 1) := by decide +kernel
theorem dX7_secret_75 : decode cX7_secret 75 = .ok (.ireturn, 1) := by decide +kernel
set_option maxHeartbeats 4000000 in
set_option maxRecDepth 100000 in
theorem w_X7_secret_L37 {g : sk_G} {l : Launch} {p : Program} {e : Env} {s : State} {m : MethodId} {av : Array Value} {below : List Frame} {meth : Method} {c : Code} (C : sk_C g p s m av meth c cX7_secret 5 RX7 (some .int)) (a1 : Int32) (M : sk_M) {rr : Int32} {MM : sk_M} :
    ∀ (n : Nat) (a3 : Int32) (a4 : Int32) (H : Heap) (locs : List Loc) (ls : Array Slot), lv_has ls 5 [(0, .ref (sk_ad g 88)), (1, .int a1), (3, .int a3), (4, .int a4)] → sk_P g M H → va_S (sk_A g) s.heap H locs → ∀ {out : Int32}, f_X7_secret_L37 a1 M n a3 a4 = some out → (∀ (x3 : Int32) (H : Heap) (locs : List Loc) (ls : Array Slot), some x3 = some out → lv_has ls 5 [(0, .ref (sk_ad g 88)), (3, .int x3)] → sk_P g M H → va_S (sk_A g) s.heap H locs → W p l e (sk_rm 7) s m av below meth c H locs 0 0 (MQ below (sk_QI g rr MM) av s 0 0 (sk_A g)) (F0 m 70 ls [])) → W p l e (sk_rm 7) s m av below meth c H locs 0 0 (MQ below (sk_QI g rr MM) av s 0 0 (sk_A g)) (F0 m 37 ls []) := by
  obtain ⟨hx, hb, hml, hown, hts, hK, hE, hr, hlocks⟩ := id C
  intro n
  induction n with
  | zero =>
    intro a3 a4 H locs ls hl hM hS out h
    cases h
  | succ n ih =>
    intro a3 a4 H locs ls hl hM hS out h kx
    rw [f_X7_secret_L37] at h
    refine lv_iload hx hb dX7_secret_37 (lv_at hl 3 rfl) ?_
    refine lv_iconst (v := 4) hx hb dX7_secret_39 (by decide) ?_
    refine lv_icmp_ge hx hb dX7_secret_40 rfl (fun hc => ?_) (fun hc => ?_)
    · have h := sk_pos h hc
      exact kx _ _ _ _ h (lv_sub hl [0, 2] rfl) hM hS
    · have h := sk_neg h hc
      refine lv_iload_n hx hb dX7_secret_43 rfl (lv_at hl 2 rfl) ?_
      refine lv_aload_n hx hb dX7_secret_44 rfl (lv_at hl 0 rfl) ?_
      refine lv_iload_n hx hb dX7_secret_45 rfl (lv_at hl 1 rfl) ?_
      refine lv_iload hx hb dX7_secret_46 (lv_at hl 3 rfl) ?_
      obtain ⟨x_7, h_8, h⟩ := sk_b1E h
      refine sk_contI (sk_runV (As := [.int a1, .int a4]) (rest := [.int a3]) C (c_X7_saidBy g l a1 a4 M h_8) yo_X7_saidBy kw_1205 (sk_recv (ci := 7) C hM rfl rfl) (by decide) hM hS hl.1 rfl rfl (Nat.le_of_ble_eq_true rfl) dX7_secret_48) hS (fun H locs hM hS => ?_)
      have J : ∀ (vv : Int32) (H : Heap) (locs : List Loc), (if 0 ≤ x_7 then 0 else (1 <<< (a4 &&& 31)) : Int32) = vv → sk_P g M H → va_S (sk_A g) s.heap H locs → W p l e (sk_rm 7) s m av below meth c H locs 0 0 (MQ below (sk_QI g rr MM) av s 0 0 (sk_A g)) (F0 m 62 ls [.int vv, .int a3]) := by
        intro vv H locs hvv hM hS
        subst hvv
        refine lv_ior hx hb dX7_secret_62 ?_
        refine lv_topi (fun x_9 ex_9 => ?_)
        have h := sk_letU h ex_9
        refine lv_istore_n (lv' := [(3, .int x_9), (0, .ref (sk_ad g 88)), (1, .int a1), (4, .int a4)]) hx hb dX7_secret_63 rfl hl (by decide) rfl (fun ls hl => ?_)
        refine lv_iinc (v := (a4 + 1)) (lv' := [(4, .int (a4 + 1)), (3, .int x_9), (0, .ref (sk_ad g 88)), (1, .int a1)]) hx hb dX7_secret_64 hl (k := 3) rfl rfl (by decide) rfl (fun ls hl => ?_)
        refine lv_goto hx hb dX7_secret_67 rfl ?_
        exact ih x_9 (a4 + 1) _ _ _ (lv_sub hl [2, 3, 1, 0] rfl) hM hS h kx
      refine lv_if_ge hx hb dX7_secret_51 rfl (fun hc => ?_) (fun hc => ?_)
      · have J := fun vv H locs q => J vv H locs ((if_pos hc).trans q)
        refine lv_iconst (v := 0) hx hb dX7_secret_61 (by decide) ?_
        exact J _ _ _ rfl hM hS
      · have J := fun vv H locs q => J vv H locs ((if_neg hc).trans q)
        refine lv_iconst (v := 1) hx hb dX7_secret_54 (by decide) ?_
        refine lv_iload hx hb dX7_secret_55 (lv_at hl 3 rfl) ?_
        refine lv_ishl hx hb dX7_secret_57 ?_
        refine lv_goto hx hb dX7_secret_58 rfl ?_
        exact J _ _ _ rfl hM hS
set_option maxHeartbeats 4000000 in
set_option maxRecDepth 100000 in
theorem c_X7_secret (g : sk_G) (l : Launch) (a1 : Int32) (a2 : Int32) (M : sk_M) {rr : Int32} {MM : sk_M} (h : f_X7_secret a1 a2 M = some (rr, MM)) : sk_MI g l yX7_secret cX7_secret 5 (some .int) 7 [.ref (sk_ad g 88), .int a1, .int a2] M rr MM := by
  refine sk_go [(0, .ref (sk_ad g 88)), (1, .int a1), (2, .int a2)] (by decide) (Nat.le_of_ble_eq_true rfl) rfl ?_
  intro p e s m av below meth c C ls hl hM hS
  obtain ⟨hx, hb, hml, hown, hts, hK, hE, hr, hlocks⟩ := id C
  rw [f_X7_secret] at h
  refine lv_aload_n hx hb dX7_secret_0 rfl (lv_at hl 0 rfl) ?_
  refine lv_iload_n hx hb dX7_secret_1 rfl (lv_at hl 1 rfl) ?_
  refine sk_contI (sk_runV (As := [.int a1]) (rest := []) C (c_X7_isCloth g l a1 M rfl) yo_X7_isCloth kw_1133 (sk_recv (ci := 7) C hM rfl rfl) (by decide) hM hS hl.1 rfl rfl (Nat.le_of_ble_eq_true rfl) dX7_secret_2) hS (fun H locs hM hS => ?_)
  refine lv_if_eq hx hb dX7_secret_5 rfl (fun hc => ?_) (fun hc => ?_)
  · have h := sk_pos h hc
    refine lv_ldc (v := (-1000000001)) hx hb hown (hts _ kw_1044) dX7_secret_20 ?_
    exact sk_iret C hM hS (sk_e2 h) dX7_secret_22
  · have h := sk_neg h hc
    refine lv_iload_n hx hb dX7_secret_8 rfl (lv_at hl 2 rfl) ?_
    refine lv_i2l (v := a2.toInt64) hx hb dX7_secret_9 rfl ?_
    refine lv_lconst (v := 0) hx hb dX7_secret_10 (by decide) ?_
    refine lv_ldc2 (v := 300) hx hb hown (hts _ kw_1217) dX7_secret_11 ?_
    refine sk_contI (sk_runS (As := [.long (a2.toInt64), .long 0, .long 300]) (rest := []) C (c_X7_isIn g l (a2.toInt64) 0 300 M rfl) yo_X7_isIn kw_1040 (by decide) hM hS hl.1 rfl rfl (Nat.le_of_ble_eq_true rfl) dX7_secret_14) hS (fun H locs hM hS => ?_)
    refine lv_if_ne hx hb dX7_secret_17 rfl (fun hc => ?_) (fun hc => ?_)
    · have h := sk_neg h hc
      refine lv_aload_n hx hb dX7_secret_23 rfl (lv_at hl 0 rfl) ?_
      obtain ⟨M_3, h_4, h⟩ := sk_b1E h
      refine sk_contV (sk_runV (As := []) (rest := []) C (c_X7_laysBy g l  M h_4) yo_X7_laysBy kw_1218 (sk_recv (ci := 7) C hM rfl rfl) (by decide) hM hS hl.1 rfl rfl (Nat.le_of_ble_eq_true rfl) dX7_secret_24) hS (fun H locs hM hS => ?_)
      refine lv_aload_n hx hb dX7_secret_27 rfl (lv_at hl 0 rfl) ?_
      refine lv_iload_n hx hb dX7_secret_28 rfl (lv_at hl 2 rfl) ?_
      obtain ⟨M_5, h_6, h⟩ := sk_b1E h
      refine sk_contV (sk_runV (As := [.int a2]) (rest := []) C (c_X7_goesOnMany g l a2 M_3 h_6) yo_X7_goesOnMany kw_1222 (sk_recv (ci := 7) C hM rfl rfl) (by decide) hM hS hl.1 rfl rfl (Nat.le_of_ble_eq_true rfl) dX7_secret_29) hS (fun H locs hM hS => ?_)
      refine lv_iconst (v := 0) hx hb dX7_secret_32 (by decide) ?_
      refine lv_istore_n (lv' := [(3, .int 0), (0, .ref (sk_ad g 88)), (1, .int a1), (2, .int a2)]) hx hb dX7_secret_33 rfl hl (by decide) rfl (fun ls hl => ?_)
      refine lv_iconst (v := 0) hx hb dX7_secret_34 (by decide) ?_
      refine lv_istore (lv' := [(4, .int 0), (3, .int 0), (0, .ref (sk_ad g 88)), (1, .int a1), (2, .int a2)]) hx hb dX7_secret_35 hl (by decide) rfl (fun ls hl => ?_)
      obtain ⟨x_10, h_13, h⟩ := sk_b1E h
      refine w_X7_secret_L37 C a1 M_5 sk_FU 0 0 _ _ _ (lv_sub hl [2, 3, 1, 0] rfl) hM hS h_13 (fun y_14 H locs ls he hl hM hS => ?_)
      obtain rfl := Option.some.inj he
      refine lv_aload_n hx hb dX7_secret_70 rfl (lv_at hl 0 rfl) ?_
      obtain ⟨M_11, h_12, h⟩ := sk_b1E h
      refine sk_contV (sk_runV (As := []) (rest := []) C (c_X7_laysBack g l  M_5 h_12) yo_X7_laysBack kw_1226 (sk_recv (ci := 7) C hM rfl rfl) (by decide) hM hS hl.1 rfl rfl (Nat.le_of_ble_eq_true rfl) dX7_secret_71) hS (fun H locs hM hS => ?_)
      refine lv_iload_n hx hb dX7_secret_74 rfl (lv_at hl 1 rfl) ?_
      exact sk_iret C hM hS (sk_e2 h) dX7_secret_75
    · have h := sk_pos h hc
      refine lv_ldc (v := (-1000000001)) hx hb hown (hts _ kw_1044) dX7_secret_20 ?_
      exact sk_iret C hM hS (sk_e2 h) dX7_secret_22
theorem dX7_leftOf_0 : decode cX7_leftOf 0 = .ok (.iload_n 3, 1) := by decide +kernel
theorem dX7_leftOf_1 : decode cX7_leftOf 1 = .ok (.istore 5, 2) := by decide +kernel
theorem dX7_leftOf_3 : decode cX7_leftOf 3 = .ok (.iconst 0, 1) := by decide +kernel
theorem dX7_leftOf_4 : decode cX7_leftOf 4 = .ok (.istore 6, 2) := by decide +kernel
theorem dX7_leftOf_6 : decode cX7_leftOf 6 = .ok (.iload 6, 2) := by decide +kernel
theorem dX7_leftOf_8 : decode cX7_leftOf 8 = .ok (.iload 4, 2) := by decide +kernel
theorem dX7_leftOf_10 : decode cX7_leftOf 10 = .ok (.if_icmp .ge 39, 3) := by decide +kernel
theorem dX7_leftOf_13 : decode cX7_leftOf 13 = .ok (.iload 5, 2) := by decide +kernel
theorem dX7_leftOf_15 : decode cX7_leftOf 15 = .ok (.aload_n 0, 1) := by decide +kernel
theorem dX7_leftOf_16 : decode cX7_leftOf 16 = .ok (.iload_n 2, 1) := by decide +kernel
theorem dX7_leftOf_17 : decode cX7_leftOf 17 = .ok (.iload 5, 2) := by decide +kernel
theorem dX7_leftOf_19 : decode cX7_leftOf 19 = .ok (.aload_n 0, 1) := by decide +kernel
theorem dX7_leftOf_20 : decode cX7_leftOf 20 = .ok (.getfield 7, 3) := by decide +kernel
theorem dX7_leftOf_23 : decode cX7_leftOf 23 = .ok (.bipush 37, 2) := by decide +kernel
theorem dX7_leftOf_25 : decode cX7_leftOf 25 = .ok (.iload_n 1, 1) := by decide +kernel
theorem dX7_leftOf_26 : decode cX7_leftOf 26 = .ok (.iadd, 1) := by decide +kernel
theorem dX7_leftOf_27 : decode cX7_leftOf 27 = .ok (.iaload, 1) := by decide +kernel
theorem dX7_leftOf_28 : decode cX7_leftOf 28 = .ok (.aload_n 0, 1) := by decide +kernel
theorem dX7_leftOf_29 : decode cX7_leftOf 29 = .ok (.getfield 7, 3) := by decide +kernel
theorem dX7_leftOf_32 : decode cX7_leftOf 32 = .ok (.iconst 4, 1) := by decide +kernel
theorem dX7_leftOf_33 : decode cX7_leftOf 33 = .ok (.iaload, 1) := by decide +kernel
theorem dX7_leftOf_34 : decode cX7_leftOf 34 = .ok (.iload 6, 2) := by decide +kernel
theorem dX7_leftOf_36 : decode cX7_leftOf 36 = .ok (.iadd, 1) := by decide +kernel
theorem dX7_leftOf_37 : decode cX7_leftOf 37 = .ok (.invokevirtual 103, 3) := by decide +kernel
theorem dX7_leftOf_40 : decode cX7_leftOf 40 = .ok (.isub, 1) := by decide +kernel
theorem dX7_leftOf_41 : decode cX7_leftOf 41 = .ok (.istore 5, 2) := by decide +kernel
theorem dX7_leftOf_43 : decode cX7_leftOf 43 = .ok (.iinc 6 1, 3) := by decide +kernel
theorem dX7_leftOf_46 : decode cX7_leftOf 46 = .ok (.goto (-40), 3) := by decide +kernel
theorem dX7_leftOf_49 : decode cX7_leftOf 49 = .ok (.iload 5, 2) := by decide +kernel
theorem dX7_leftOf_51 : decode cX7_leftOf 51 = .ok (.ireturn, 1) := by decide +kernel
set_option maxHeartbeats 4000000 in
set_option maxRecDepth 100000 in
theorem w_X7_leftOf_L6 {g : sk_G} {l : Launch} {p : Program} {e : Env} {s : State} {m : MethodId} {av : Array Value} {below : List Frame} {meth : Method} {c : Code} (C : sk_C g p s m av meth c cX7_leftOf 7 RX7 (some .int)) (a1 : Int32) (a2 : Int32) (a4 : Int32) {rr : Int32} {MM : sk_M} :
    ∀ (n : Nat) (a5 : Int32) (a6 : Int32) (M : sk_M) (H : Heap) (locs : List Loc) (ls : Array Slot), lv_has ls 7 [(0, .ref (sk_ad g 88)), (1, .int a1), (2, .int a2), (4, .int a4), (5, .int a5), (6, .int a6)] → sk_P g M H → va_S (sk_A g) s.heap H locs → ∀ {out : Int32 × sk_M}, f_X7_leftOf_L6 a1 a2 a4 n a5 a6 M = some out → (∀ (x5 : Int32) (M1 : sk_M) (H : Heap) (locs : List Loc) (ls : Array Slot), some (x5, M1) = some out → lv_has ls 7 [(5, .int x5)] → sk_P g M1 H → va_S (sk_A g) s.heap H locs → W p l e (sk_rm 4) s m av below meth c H locs 0 0 (MQ below (sk_QI g rr MM) av s 0 0 (sk_A g)) (F0 m 49 ls [])) → W p l e (sk_rm 4) s m av below meth c H locs 0 0 (MQ below (sk_QI g rr MM) av s 0 0 (sk_A g)) (F0 m 6 ls []) := by
  obtain ⟨hx, hb, hml, hown, hts, hK, hE, hr, hlocks⟩ := id C
  intro n
  induction n with
  | zero =>
    intro a5 a6 M H locs ls hl hM hS out h
    cases h
  | succ n ih =>
    intro a5 a6 M H locs ls hl hM hS out h kx
    rw [f_X7_leftOf_L6] at h
    refine lv_iload hx hb dX7_leftOf_6 (lv_at hl 5 rfl) ?_
    refine lv_iload hx hb dX7_leftOf_8 (lv_at hl 3 rfl) ?_
    refine lv_icmp_ge hx hb dX7_leftOf_10 rfl (fun hc => ?_) (fun hc => ?_)
    · have h := sk_pos h hc
      exact kx _ _ _ _ _ h (lv_sub hl [4] rfl) hM hS
    · have h := sk_neg h hc
      refine lv_iload hx hb dX7_leftOf_13 (lv_at hl 4 rfl) ?_
      refine lv_aload_n hx hb dX7_leftOf_15 rfl (lv_at hl 0 rfl) ?_
      refine lv_iload_n hx hb dX7_leftOf_16 rfl (lv_at hl 2 rfl) ?_
      refine lv_iload hx hb dX7_leftOf_17 (lv_at hl 4 rfl) ?_
      refine lv_aload_n hx hb dX7_leftOf_19 rfl (lv_at hl 0 rfl) ?_
      refine sk_getR (o := 88) (ci := 7) (j := 0) (t := 89) C hM rfl rfl (by decide) rfl rfl kw_935 dX7_leftOf_20 ?_
      refine lv_bipush (v := 37) hx hb dX7_leftOf_23 (by decide) ?_
      refine lv_iload_n hx hb dX7_leftOf_25 rfl (lv_at hl 1 rfl) ?_
      refine lv_iadd hx hb dX7_leftOf_26 ?_
      obtain ⟨i_1, h⟩ := sk_chkE h
      refine sk_iald (o := 89) C hM rfl i_1 dX7_leftOf_27 ?_
      refine lv_aload_n hx hb dX7_leftOf_28 rfl (lv_at hl 0 rfl) ?_
      refine sk_getR (o := 88) (ci := 7) (j := 0) (t := 89) C hM rfl rfl (by decide) rfl rfl kw_935 dX7_leftOf_29 ?_
      refine lv_iconst (v := 4) hx hb dX7_leftOf_32 (by decide) ?_
      refine sk_iald (o := 89) C hM rfl (by decide) dX7_leftOf_33 ?_
      refine W.eq (g2 := F0 m 34 ls [.int (M 89 4), .int (M 89 (37 + a1).toNatClampNeg), .int a5, .int a2, .ref (sk_ad g 88), .int a5]) rfl ?_
      refine lv_iload hx hb dX7_leftOf_34 (lv_at hl 5 rfl) ?_
      refine lv_iadd hx hb dX7_leftOf_36 ?_
      obtain ⟨x_2, M_3, h_4, h⟩ := sk_b2E h
      refine sk_contI (sk_runV (As := [.int a2, .int a5, .int (M 89 (37 + a1).toNatClampNeg), .int ((M 89 4) + a6)]) (rest := [.int a5]) C (c_X7_losesBy g l a2 a5 (M 89 (37 + a1).toNatClampNeg) ((M 89 4) + a6) M h_4) yo_X7_losesBy kw_1149 (sk_recv (ci := 7) C hM rfl rfl) (by decide) hM hS hl.1 rfl rfl (Nat.le_of_ble_eq_true rfl) dX7_leftOf_37) hS (fun H locs hM hS => ?_)
      refine lv_isub hx hb dX7_leftOf_40 ?_
      refine lv_topi (fun x_5 ex_5 => ?_)
      have h := sk_letU h ex_5
      refine lv_istore (lv' := [(5, .int x_5), (0, .ref (sk_ad g 88)), (1, .int a1), (2, .int a2), (4, .int a4), (6, .int a6)]) hx hb dX7_leftOf_41 hl (by decide) rfl (fun ls hl => ?_)
      refine lv_iinc (v := (a6 + 1)) (lv' := [(6, .int (a6 + 1)), (5, .int x_5), (0, .ref (sk_ad g 88)), (1, .int a1), (2, .int a2), (4, .int a4)]) hx hb dX7_leftOf_43 hl (k := 5) rfl rfl (by decide) rfl (fun ls hl => ?_)
      refine lv_goto hx hb dX7_leftOf_46 rfl ?_
      exact ih x_5 (a6 + 1) M_3 _ _ _ (lv_sub hl [2, 3, 4, 5, 1, 0] rfl) hM hS h kx
set_option maxHeartbeats 4000000 in
set_option maxRecDepth 100000 in
theorem c_X7_leftOf (g : sk_G) (l : Launch) (a1 : Int32) (a2 : Int32) (a3 : Int32) (a4 : Int32) (M : sk_M) {rr : Int32} {MM : sk_M} (h : f_X7_leftOf a1 a2 a3 a4 M = some (rr, MM)) : sk_MI g l yX7_leftOf cX7_leftOf 7 (some .int) 4 [.ref (sk_ad g 88), .int a1, .int a2, .int a3, .int a4] M rr MM := by
  refine sk_go [(0, .ref (sk_ad g 88)), (1, .int a1), (2, .int a2), (3, .int a3), (4, .int a4)] (by decide) (Nat.le_of_ble_eq_true rfl) rfl ?_
  intro p e s m av below meth c C ls hl hM hS
  obtain ⟨hx, hb, hml, hown, hts, hK, hE, hr, hlocks⟩ := id C
  rw [f_X7_leftOf] at h
  refine lv_iload_n hx hb dX7_leftOf_0 rfl (lv_at hl 3 rfl) ?_
  refine lv_istore (lv' := [(5, .int a3), (0, .ref (sk_ad g 88)), (1, .int a1), (2, .int a2), (3, .int a3), (4, .int a4)]) hx hb dX7_leftOf_1 hl (by decide) rfl (fun ls hl => ?_)
  refine lv_iconst (v := 0) hx hb dX7_leftOf_3 (by decide) ?_
  refine lv_istore (lv' := [(6, .int 0), (5, .int a3), (0, .ref (sk_ad g 88)), (1, .int a1), (2, .int a2), (3, .int a3), (4, .int a4)]) hx hb dX7_leftOf_4 hl (by decide) rfl (fun ls hl => ?_)
  obtain ⟨x_6, M_7, h_8, h⟩ := sk_b2E h
  refine w_X7_leftOf_L6 C a1 a2 a4 sk_FU a3 0 M _ _ _ (lv_sub hl [2, 3, 4, 6, 1, 0] rfl) hM hS h_8 (fun y_9 y_10 H locs ls he hl hM hS => ?_)
  obtain ⟨rfl, rfl⟩ := sk_e2 he
  refine lv_iload hx hb dX7_leftOf_49 (lv_at hl 0 rfl) ?_
  exact sk_iret C hM hS (sk_e2 h) dX7_leftOf_51
theorem dX7_leastOf_0 : decode cX7_leastOf 0 = .ok (.iconst 0, 1) := by decide +kernel
theorem dX7_leastOf_1 : decode cX7_leastOf 1 = .ok (.istore 5, 2) := by decide +kernel
theorem dX7_leastOf_3 : decode cX7_leastOf 3 = .ok (.iload 5, 2) := by decide +kernel
theorem dX7_leastOf_5 : decode cX7_leastOf 5 = .ok (.sipush 999, 3) := by decide +kernel
theorem dX7_leastOf_8 : decode cX7_leastOf 8 = .ok (.if_icmp .gt 34, 3) := by decide +kernel
theorem dX7_leastOf_11 : decode cX7_leastOf 11 = .ok (.aload_n 0, 1) := by decide +kernel
theorem dX7_leastOf_12 : decode cX7_leastOf 12 = .ok (.iload_n 1, 1) := by decide +kernel
theorem dX7_leastOf_13 : decode cX7_leastOf 13 = .ok (.iload_n 2, 1) := by decide +kernel
theorem dX7_leastOf_14 : decode cX7_leastOf 14 = .ok (.iload 5, 2) := by decide +kernel
theorem dX7_leastOf_16 : decode cX7_leastOf 16 = .ok (.iload 4, 2) := by decide +kernel
theorem dX7_leastOf_18 : decode cX7_leastOf 18 = .ok (.invokevirtual 177, 3) := by decide +kernel
theorem dX7_leastOf_21 : decode cX7_leastOf 21 = .ok (.aload_n 0, 1) := by decide +kernel
theorem dX7_leastOf_22 : decode cX7_leastOf 22 = .ok (.getfield 7, 3) := by decide +kernel
theorem dX7_leastOf_25 : decode cX7_leastOf 25 = .ok (.bipush 6, 2) := by decide +kernel
theorem dX7_leastOf_27 : decode cX7_leastOf 27 = .ok (.iload_n 3, 1) := by decide +kernel
theorem dX7_leastOf_28 : decode cX7_leastOf 28 = .ok (.iadd, 1) := by decide +kernel
theorem dX7_leastOf_29 : decode cX7_leastOf 29 = .ok (.iaload, 1) := by decide +kernel
theorem dX7_leastOf_30 : decode cX7_leastOf 30 = .ok (.if_icmp .lt 6, 3) := by decide +kernel
theorem dX7_leastOf_33 : decode cX7_leastOf 33 = .ok (.iload 5, 2) := by decide +kernel
theorem dX7_leastOf_35 : decode cX7_leastOf 35 = .ok (.ireturn, 1) := by decide +kernel
theorem dX7_leastOf_36 : decode cX7_leastOf 36 = .ok (.iinc 5 1, 3) := by decide +kernel
theorem dX7_leastOf_39 : decode cX7_leastOf 39 = .ok (.goto (-36), 3) := by decide +kernel
theorem dX7_leastOf_42 : decode cX7_leastOf 42 = .ok (.iconst (-1), 1) := by decide +kernel
theorem dX7_leastOf_43 : decode cX7_leastOf 43 = .ok (.ireturn, 1) := by decide +kernel
set_option maxHeartbeats 4000000 in
set_option maxRecDepth 100000 in
theorem w_X7_leastOf_L3 {g : sk_G} {l : Launch} {p : Program} {e : Env} {s : State} {m : MethodId} {av : Array Value} {below : List Frame} {meth : Method} {c : Code} (C : sk_C g p s m av meth c cX7_leastOf 6 RX7 (some .int)) (a1 : Int32) (a2 : Int32) (a3 : Int32) (a4 : Int32) {rr : Int32} {MM : sk_M} :
    ∀ (n : Nat) (a5 : Int32) (M : sk_M) (H : Heap) (locs : List Loc) (ls : Array Slot), lv_has ls 6 [(0, .ref (sk_ad g 88)), (1, .int a1), (2, .int a2), (3, .int a3), (4, .int a4), (5, .int a5)] → sk_P g M H → va_S (sk_A g) s.heap H locs → ∀ {out : (Int32 × sk_M) ⊕ (sk_M)}, f_X7_leastOf_L3 a1 a2 a3 a4 n a5 M = some out → (∀ r, out = Sum.inl r → some r = some (rr, MM)) → (∀ (M1 : sk_M) (H : Heap) (locs : List Loc) (ls : Array Slot), some (Sum.inr M1) = some out → lv_has ls 6 [] → sk_P g M1 H → va_S (sk_A g) s.heap H locs → W p l e (sk_rm 5) s m av below meth c H locs 0 0 (MQ below (sk_QI g rr MM) av s 0 0 (sk_A g)) (F0 m 42 ls [])) → W p l e (sk_rm 5) s m av below meth c H locs 0 0 (MQ below (sk_QI g rr MM) av s 0 0 (sk_A g)) (F0 m 3 ls []) := by
  obtain ⟨hx, hb, hml, hown, hts, hK, hE, hr, hlocks⟩ := id C
  intro n
  induction n with
  | zero =>
    intro a5 M H locs ls hl hM hS out h
    cases h
  | succ n ih =>
    intro a5 M H locs ls hl hM hS out h kr kx
    rw [f_X7_leastOf_L3] at h
    refine lv_iload hx hb dX7_leastOf_3 (lv_at hl 5 rfl) ?_
    refine lv_sipush (v := 999) hx hb dX7_leastOf_5 (by decide) ?_
    refine lv_icmp_gt hx hb dX7_leastOf_8 rfl (fun hc => ?_) (fun hc => ?_)
    · have h := sk_pos h hc
      exact kx _ _ _ _ h (lv_sub hl [] rfl) hM hS
    · have h := sk_neg h hc
      refine lv_aload_n hx hb dX7_leastOf_11 rfl (lv_at hl 0 rfl) ?_
      refine lv_iload_n hx hb dX7_leastOf_12 rfl (lv_at hl 1 rfl) ?_
      refine lv_iload_n hx hb dX7_leastOf_13 rfl (lv_at hl 2 rfl) ?_
      refine lv_iload hx hb dX7_leastOf_14 (lv_at hl 5 rfl) ?_
      refine lv_iload hx hb dX7_leastOf_16 (lv_at hl 4 rfl) ?_
      obtain ⟨x_1, M_2, h_3, h⟩ := sk_b2E h
      refine sk_contI (sk_runV (As := [.int a1, .int a2, .int a5, .int a4]) (rest := []) C (c_X7_leftOf g l a1 a2 a5 a4 M h_3) yo_X7_leftOf kw_1263 (sk_recv (ci := 7) C hM rfl rfl) (by decide) hM hS hl.1 rfl rfl (Nat.le_of_ble_eq_true rfl) dX7_leastOf_18) hS (fun H locs hM hS => ?_)
      refine lv_aload_n hx hb dX7_leastOf_21 rfl (lv_at hl 0 rfl) ?_
      refine sk_getR (o := 88) (ci := 7) (j := 0) (t := 89) C hM rfl rfl (by decide) rfl rfl kw_935 dX7_leastOf_22 ?_
      refine lv_bipush (v := 6) hx hb dX7_leastOf_25 (by decide) ?_
      refine lv_iload_n hx hb dX7_leastOf_27 rfl (lv_at hl 3 rfl) ?_
      refine lv_iadd hx hb dX7_leastOf_28 ?_
      obtain ⟨i_4, h⟩ := sk_chkE h
      refine sk_iald (o := 89) C hM rfl i_4 dX7_leastOf_29 ?_
      refine lv_icmp_lt hx hb dX7_leastOf_30 rfl (fun hc => ?_) (fun hc => ?_)
      · have h := sk_pos h hc
        refine lv_iinc (v := (a5 + 1)) (lv' := [(5, .int (a5 + 1)), (0, .ref (sk_ad g 88)), (1, .int a1), (2, .int a2), (3, .int a3), (4, .int a4)]) hx hb dX7_leastOf_36 hl (k := 5) rfl rfl (by decide) rfl (fun ls hl => ?_)
        refine lv_goto hx hb dX7_leastOf_39 rfl ?_
        exact ih (a5 + 1) M_2 _ _ _ (lv_sub hl [1, 2, 3, 4, 5, 0] rfl) hM hS h kr kx
      · have h := sk_neg h hc
        refine lv_iload hx hb dX7_leastOf_33 (lv_at hl 5 rfl) ?_
        have h := kr _ (Option.some.inj h).symm
        exact sk_iret C hM hS (sk_e2 h) dX7_leastOf_35
set_option maxHeartbeats 4000000 in
set_option maxRecDepth 100000 in
theorem c_X7_leastOf (g : sk_G) (l : Launch) (a1 : Int32) (a2 : Int32) (a3 : Int32) (a4 : Int32) (M : sk_M) {rr : Int32} {MM : sk_M} (h : f_X7_leastOf a1 a2 a3 a4 M = some (rr, MM)) : sk_MI g l yX7_leastOf cX7_leastOf 6 (some .int) 5 [.ref (sk_ad g 88), .int a1, .int a2, .int a3, .int a4] M rr MM := by
  refine sk_go [(0, .ref (sk_ad g 88)), (1, .int a1), (2, .int a2), (3, .int a3), (4, .int a4)] (by decide) (Nat.le_of_ble_eq_true rfl) rfl ?_
  intro p e s m av below meth c C ls hl hM hS
  obtain ⟨hx, hb, hml, hown, hts, hK, hE, hr, hlocks⟩ := id C
  rw [f_X7_leastOf] at h
  refine lv_iconst (v := 0) hx hb dX7_leastOf_0 (by decide) ?_
  refine lv_istore (lv' := [(5, .int 0), (0, .ref (sk_ad g 88)), (1, .int a1), (2, .int a2), (3, .int a3), (4, .int a4)]) hx hb dX7_leastOf_1 hl (by decide) rfl (fun ls hl => ?_)
  obtain ⟨out_7, h_6, kf_8, kg_9⟩ := sk_s1E h
  refine w_X7_leastOf_L3 C a1 a2 a3 a4 sk_FU 0 M _ _ _ (lv_sub hl [1, 2, 3, 4, 5, 0] rfl) hM hS h_6 kf_8 (fun M_5 H locs ls he hl hM hS => ?_)
  have h := kg_9 M_5 (Option.some.inj he).symm
  refine lv_iconst (v := (-1)) hx hb dX7_leastOf_42 (by decide) ?_
  exact sk_iret C hM hS (sk_e2 h) dX7_leastOf_43
theorem dX7_least_0 : decode cX7_least 0 = .ok (.aload_n 0, 1) := by decide +kernel
theorem dX7_least_1 : decode cX7_least 1 = .ok (.iload_n 1, 1) := by decide +kernel
theorem dX7_least_2 : decode cX7_least 2 = .ok (.invokevirtual 138, 3) := by decide +kernel
theorem dX7_least_5 : decode cX7_least 5 = .ok (.ifCond .eq 31, 3) := by decide +kernel
theorem dX7_least_8 : decode cX7_least 8 = .ok (.aload_n 0, 1) := by decide +kernel
theorem dX7_least_9 : decode cX7_least 9 = .ok (.iload_n 2, 1) := by decide +kernel
theorem dX7_least_10 : decode cX7_least 10 = .ok (.invokevirtual 107, 3) := by decide +kernel
theorem dX7_least_13 : decode cX7_least 13 = .ok (.ifCond .eq 23, 3) := by decide +kernel
theorem dX7_least_16 : decode cX7_least 16 = .ok (.iload_n 3, 1) := by decide +kernel
theorem dX7_least_17 : decode cX7_least 17 = .ok (.invokestatic 124, 3) := by decide +kernel
theorem dX7_least_20 : decode cX7_least 20 = .ok (.ifCond .eq 16, 3) := by decide +kernel
theorem dX7_least_23 : decode cX7_least 23 = .ok (.iload 4, 2) := by decide +kernel
theorem dX7_least_25 : decode cX7_least 25 = .ok (.i2l, 1) := by decide +kernel
theorem dX7_least_26 : decode cX7_least 26 = .ok (.lconst 0, 1) := by decide +kernel
theorem dX7_least_27 : decode cX7_least 27 = .ok (.ldc2_w 180, 3) := by decide +kernel
theorem dX7_least_30 : decode cX7_least 30 = .ok (.invokestatic 71, 3) := by decide +kernel
theorem dX7_least_33 : decode cX7_least 33 = .ok (.ifCond .ne 6, 3) := by decide +kernel
theorem dX7_least_36 : decode cX7_least 36 = .ok (.ldc 80, 2) := by decide +kernel
theorem dX7_least_38 : decode cX7_least 38 = .ok (.ireturn, 1) := by decide +kernel
theorem dX7_least_39 : decode cX7_least 39 = .ok (.aload_n 0, 1) := by decide +kernel
theorem dX7_least_40 : decode cX7_least 40 = .ok (.iload_n 1, 1) := by decide +kernel
theorem dX7_least_41 : decode cX7_least 41 = .ok (.iload_n 2, 1) := by decide +kernel
theorem dX7_least_42 : decode cX7_least 42 = .ok (.iload_n 3, 1) := by decide +kernel
theorem dX7_least_43 : decode cX7_least 43 = .ok (.iload 4, 2) := by decide +kernel
theorem dX7_least_45 : decode cX7_least 45 = .ok (.invokevirtual 182, 3) := by decide +kernel
theorem dX7_least_48 : decode cX7_least 48 = .ok (.invokestatic 157, 3) := by decide +kernel
theorem dX7_least_51 : decode cX7_least 51 = .ok (.ireturn, 1) := by decide +kernel
set_option maxHeartbeats 4000000 in
set_option maxRecDepth 100000 in
theorem c_X7_least (g : sk_G) (l : Launch) (a1 : Int32) (a2 : Int32) (a3 : Int32) (a4 : Int32) (M : sk_M) {rr : Int32} {MM : sk_M} (h : f_X7_least a1 a2 a3 a4 M = some (rr, MM)) : sk_MI g l yX7_least cX7_least 5 (some .int) 6 [.ref (sk_ad g 88), .int a1, .int a2, .int a3, .int a4] M rr MM := by
  refine sk_go [(0, .ref (sk_ad g 88)), (1, .int a1), (2, .int a2), (3, .int a3), (4, .int a4)] (by decide) (Nat.le_of_ble_eq_true rfl) rfl ?_
  intro p e s m av below meth c C ls hl hM hS
  obtain ⟨hx, hb, hml, hown, hts, hK, hE, hr, hlocks⟩ := id C
  rw [f_X7_least] at h
  refine lv_aload_n hx hb dX7_least_0 rfl (lv_at hl 0 rfl) ?_
  refine lv_iload_n hx hb dX7_least_1 rfl (lv_at hl 1 rfl) ?_
  refine sk_contI (sk_runV (As := [.int a1]) (rest := []) C (c_X7_isCloth g l a1 M rfl) yo_X7_isCloth kw_1133 (sk_recv (ci := 7) C hM rfl rfl) (by decide) hM hS hl.1 rfl rfl (Nat.le_of_ble_eq_true rfl) dX7_least_2) hS (fun H locs hM hS => ?_)
  refine lv_if_eq hx hb dX7_least_5 rfl (fun hc => ?_) (fun hc => ?_)
  · have h := sk_pos h hc
    refine lv_ldc (v := (-1000000001)) hx hb hown (hts _ kw_1044) dX7_least_36 ?_
    exact sk_iret C hM hS (sk_e2 h) dX7_least_38
  · have h := sk_neg h hc
    refine lv_aload_n hx hb dX7_least_8 rfl (lv_at hl 0 rfl) ?_
    refine lv_iload_n hx hb dX7_least_9 rfl (lv_at hl 2 rfl) ?_
    refine sk_contI (sk_runV (As := [.int a2]) (rest := []) C (c_X7_isScent g l a2 M rfl) yo_X7_isScent kw_1054 (sk_recv (ci := 7) C hM rfl rfl) (by decide) hM hS hl.1 rfl rfl (Nat.le_of_ble_eq_true rfl) dX7_least_10) hS (fun H locs hM hS => ?_)
    refine lv_if_eq hx hb dX7_least_13 rfl (fun hc => ?_) (fun hc => ?_)
    · have h := sk_pos h hc
      refine lv_ldc (v := (-1000000001)) hx hb hown (hts _ kw_1044) dX7_least_36 ?_
      exact sk_iret C hM hS (sk_e2 h) dX7_least_38
    · have h := sk_neg h hc
      refine lv_iload_n hx hb dX7_least_16 rfl (lv_at hl 3 rfl) ?_
      refine sk_contI (sk_runS (As := [.int a3]) (rest := []) C (c_X7_isNose g l a3 M rfl) yo_X7_isNose kw_1095 (by decide) hM hS hl.1 rfl rfl (Nat.le_of_ble_eq_true rfl) dX7_least_17) hS (fun H locs hM hS => ?_)
      refine lv_if_eq hx hb dX7_least_20 rfl (fun hc => ?_) (fun hc => ?_)
      · have h := sk_pos h hc
        refine lv_ldc (v := (-1000000001)) hx hb hown (hts _ kw_1044) dX7_least_36 ?_
        exact sk_iret C hM hS (sk_e2 h) dX7_least_38
      · have h := sk_neg h hc
        refine lv_iload hx hb dX7_least_23 (lv_at hl 4 rfl) ?_
        refine lv_i2l (v := a4.toInt64) hx hb dX7_least_25 rfl ?_
        refine lv_lconst (v := 0) hx hb dX7_least_26 (by decide) ?_
        refine lv_ldc2 (v := 100) hx hb hown (hts _ kw_1258) dX7_least_27 ?_
        refine sk_contI (sk_runS (As := [.long (a4.toInt64), .long 0, .long 100]) (rest := []) C (c_X7_isIn g l (a4.toInt64) 0 100 M rfl) yo_X7_isIn kw_1040 (by decide) hM hS hl.1 rfl rfl (Nat.le_of_ble_eq_true rfl) dX7_least_30) hS (fun H locs hM hS => ?_)
        refine lv_if_ne hx hb dX7_least_33 rfl (fun hc => ?_) (fun hc => ?_)
        · have h := sk_neg h hc
          refine lv_aload_n hx hb dX7_least_39 rfl (lv_at hl 0 rfl) ?_
          refine lv_iload_n hx hb dX7_least_40 rfl (lv_at hl 1 rfl) ?_
          refine lv_iload_n hx hb dX7_least_41 rfl (lv_at hl 2 rfl) ?_
          refine lv_iload_n hx hb dX7_least_42 rfl (lv_at hl 3 rfl) ?_
          refine lv_iload hx hb dX7_least_43 (lv_at hl 4 rfl) ?_
          obtain ⟨x_5, M_6, h_7, h⟩ := sk_b2E h
          refine sk_contI (sk_runV (As := [.int a1, .int a2, .int a3, .int a4]) (rest := []) C (c_X7_leastOf g l a1 a2 a3 a4 M h_7) yo_X7_leastOf kw_1259 (sk_recv (ci := 7) C hM rfl rfl) (by decide) hM hS hl.1 rfl rfl (Nat.le_of_ble_eq_true rfl) dX7_least_45) hS (fun H locs hM hS => ?_)
          refine sk_contI (sk_runS (As := [.int x_5]) (rest := []) C (c_X7_orNone g l x_5 M_6 rfl) yo_X7_orNone kw_1209 (by decide) hM hS hl.1 rfl rfl (Nat.le_of_ble_eq_true rfl) dX7_least_48) hS (fun H locs hM hS => ?_)
          exact sk_iret C hM hS (sk_e2 h) dX7_least_51
        · have h := sk_pos h hc
          refine lv_ldc (v := (-1000000001)) hx hb hown (hts _ kw_1044) dX7_least_36 ?_
          exact sk_iret C hM hS (sk_e2 h) dX7_least_38
theorem dX7_letter_0 : decode cX7_letter 0 = .ok (.aload_n 0, 1) := by decide +kernel
theorem dX7_letter_1 : decode cX7_letter 1 = .ok (.iload_n 1, 1) := by decide +kernel
theorem dX7_letter_2 : decode cX7_letter 2 = .ok (.invokevirtual 138, 3) := by decide +kernel
theorem dX7_letter_5 : decode cX7_letter 5 = .ok (.ifCond .eq 31, 3) := by decide +kernel
theorem dX7_letter_8 : decode cX7_letter 8 = .ok (.aload_n 0, 1) := by decide +kernel
theorem dX7_letter_9 : decode cX7_letter 9 = .ok (.iload_n 2, 1) := by decide +kernel
theorem dX7_letter_10 : decode cX7_letter 10 = .ok (.invokevirtual 129, 3) := by decide +kernel
theorem dX7_letter_13 : decode cX7_letter 13 = .ok (.ifCond .eq 23, 3) := by decide +kernel
theorem dX7_letter_16 : decode cX7_letter 16 = .ok (.iload_n 3, 1) := by decide +kernel
theorem dX7_letter_17 : decode cX7_letter 17 = .ok (.invokestatic 124, 3) := by decide +kernel
theorem dX7_letter_20 : decode cX7_letter 20 = .ok (.ifCond .eq 16, 3) := by decide +kernel
theorem dX7_letter_23 : decode cX7_letter 23 = .ok (.iload 4, 2) := by decide +kernel
theorem dX7_letter_25 : decode cX7_letter 25 = .ok (.i2l, 1) := by decide +kernel
theorem dX7_letter_26 : decode cX7_letter 26 = .ok (.lconst 0, 1) := by decide +kernel
theorem dX7_letter_27 : decode cX7_letter 27 = .ok (.ldc2_w 180, 3) := by decide +kernel
theorem dX7_letter_30 : decode cX7_letter 30 = .ok (.invokestatic 71, 3) := by decide +kernel
theorem dX7_letter_33 : decode cX7_letter 33 = .ok (.ifCond .ne 6, 3) := by decide +kernel
theorem dX7_letter_36 : decode cX7_letter 36 = .ok (.ldc 80, 2) := by decide +kernel
theorem dX7_letter_38 : decode cX7_letter 38 = .ok (.ireturn, 1) := by decide +kernel
theorem dX7_letter_39 : decode cX7_letter 39 = .ok (.iconst 0, 1) := by decide +kernel
theorem dX7_letter_40 : decode cX7_letter 40 = .ok (.istore 5, 2) := by decide +kernel
theorem dX7_letter_42 : decode cX7_letter 42 = .ok (.iconst 0, 1) := by decide +kernel
theorem dX7_letter_43 : decode cX7_letter 43 = .ok (.istore 6, 2) := by decide +kernel
theorem dX7_letter_45 : decode cX7_letter 45 = .ok (.iload 6, 2) := by decide +kernel
theorem dX7_letter_47 : decode cX7_letter 47 = .ok (.aload_n 0, 1) := by decide +kernel
theorem dX7_letter_48 : decode cX7_letter 48 = .ok (.getfield 7, 3) := by decide +kernel
theorem dX7_letter_51 : decode cX7_letter 51 = .ok (.iconst 0, 1) := by decide +kernel
theorem dX7_letter_52 : decode cX7_letter 52 = .ok (.iaload, 1) := by decide +kernel
theorem dX7_letter_53 : decode cX7_letter 53 = .ok (.if_icmp .ge 73, 3) := by decide +kernel
theorem dX7_letter_56 : decode cX7_letter 56 = .ok (.aload_n 0, 1) := by decide +kernel
theorem dX7_letter_57 : decode cX7_letter 57 = .ok (.getfield 46, 3) := by decide +kernel
theorem dX7_letter_60 : decode cX7_letter 60 = .ok (.iload 6, 2) := by decide +kernel
theorem dX7_letter_62 : decode cX7_letter 62 = .ok (.aload_n 0, 1) := by decide +kernel
theorem dX7_letter_63 : decode cX7_letter 63 = .ok (.getfield 7, 3) := by decide +kernel
theorem dX7_letter_66 : decode cX7_letter 66 = .ok (.bipush 97, 2) := by decide +kernel
theorem dX7_letter_68 : decode cX7_letter 68 = .ok (.iload_n 2, 1) := by decide +kernel
theorem dX7_letter_69 : decode cX7_letter 69 = .ok (.iadd, 1) := by decide +kernel
theorem dX7_letter_70 : decode cX7_letter 70 = .ok (.iaload, 1) := by decide +kernel
theorem dX7_letter_71 : decode cX7_letter 71 = .ok (.iload 6, 2) := by decide +kernel
theorem dX7_letter_73 : decode cX7_letter 73 = .ok (.ishr, 1) := by decide +kernel
theorem dX7_letter_74 : decode cX7_letter 74 = .ok (.iconst 1, 1) := by decide +kernel
theorem dX7_letter_75 : decode cX7_letter 75 = .ok (.iand, 1) := by decide +kernel
theorem dX7_letter_76 : decode cX7_letter 76 = .ok (.iconst 1, 1) := by decide +kernel
theorem dX7_letter_77 : decode cX7_letter 77 = .ok (.if_icmp .ne 16, 3) := by decide +kernel
theorem dX7_letter_80 : decode cX7_letter 80 = .ok (.aload_n 0, 1) := by decide +kernel
theorem dX7_letter_81 : decode cX7_letter 81 = .ok (.iload_n 1, 1) := by decide +kernel
theorem dX7_letter_82 : decode cX7_letter 82 = .ok (.iload 6, 2) := by decide +kernel
theorem dX7_letter_84 : decode cX7_letter 84 = .ok (.iload_n 3, 1) := by decide +kernel
theorem dX7_letter_85 : decode cX7_letter 85 = .ok (.iload 4, 2) := by decide +kernel
theorem dX7_letter_87 : decode cX7_letter 87 = .ok (.invokevirtual 182, 3) := by decide +kernel
theorem dX7_letter_90 : decode cX7_letter 90 = .ok (.goto 4, 3) := by decide +kernel
theorem dX7_letter_93 : decode cX7_letter 93 = .ok (.iconst 0, 1) := by decide +kernel
theorem dX7_letter_94 : decode cX7_letter 94 = .ok (.iastore, 1) := by decide +kernel
theorem dX7_letter_95 : decode cX7_letter 95 = .ok (.aload_n 0, 1) := by decide +kernel
theorem dX7_letter_96 : decode cX7_letter 96 = .ok (.getfield 46, 3) := by decide +kernel
theorem dX7_letter_99 : decode cX7_letter 99 = .ok (.iload 6, 2) := by decide +kernel
theorem dX7_letter_101 : decode cX7_letter 101 = .ok (.iaload, 1) := by decide +kernel
theorem dX7_letter_102 : decode cX7_letter 102 = .ok (.ifCond .ge 6, 3) := by decide +kernel
theorem dX7_letter_105 : decode cX7_letter 105 = .ok (.ldc 185, 2) := by decide +kernel
theorem dX7_letter_107 : decode cX7_letter 107 = .ok (.ireturn, 1) := by decide +kernel
theorem dX7_letter_108 : decode cX7_letter 108 = .ok (.iload 5, 2) := by decide +kernel
theorem dX7_letter_110 : decode cX7_letter 110 = .ok (.aload_n 0, 1) := by decide +kernel
theorem dX7_letter_111 : decode cX7_letter 111 = .ok (.getfield 46, 3) := by decide +kernel
theorem dX7_letter_114 : decode cX7_letter 114 = .ok (.iload 6, 2) := by decide +kernel
theorem dX7_letter_116 : decode cX7_letter 116 = .ok (.iaload, 1) := by decide +kernel
theorem dX7_letter_117 : decode cX7_letter 117 = .ok (.iadd, 1) := by decide +kernel
theorem dX7_letter_118 : decode cX7_letter 118 = .ok (.istore 5, 2) := by decide +kernel
theorem dX7_letter_120 : decode cX7_letter 120 = .ok (.iinc 6 1, 3) := by decide +kernel
theorem dX7_letter_123 : decode cX7_letter 123 = .ok (.goto (-78), 3) := by decide +kernel
theorem dX7_letter_126 : decode cX7_letter 126 = .ok (.iconst 0, 1) := by decide +kernel
theorem dX7_letter_127 : decode cX7_letter 127 = .ok (.istore 6, 2) := by decide +kernel
theorem dX7_letter_129 : decode cX7_letter 129 = .ok (.iload 6, 2) := by decide +kernel
theorem dX7_letter_131 : decode cX7_letter 131 = .ok (.aload_n 0, 1) := by decide +kernel
theorem dX7_letter_132 : decode cX7_letter 132 = .ok (.getfield 7, 3) := by decide +kernel
theorem dX7_letter_135 : decode cX7_letter 135 = .ok (.iconst 0, 1) := by decide +kernel
theorem dX7_letter_136 : decode cX7_letter 136 = .ok (.iaload, 1) := by decide +kernel
theorem dX7_letter_137 : decode cX7_letter 137 = .ok (.if_icmp .ge 31, 3) := by decide +kernel
theorem dX7_letter_140 : decode cX7_letter 140 = .ok (.aload_n 0, 1) := by decide +kernel
theorem dX7_letter_141 : decode cX7_letter 141 = .ok (.getfield 7, 3) := by decide +kernel
theorem dX7_letter_144 : decode cX7_letter 144 = .ok (.bipush 43, 2) := by decide +kernel
theorem dX7_letter_146 : decode cX7_letter 146 = .ok (.bipush 9, 2) := by decide +kernel
theorem dX7_letter_148 : decode cX7_letter 148 = .ok (.iload_n 1, 1) := by decide +kernel
theorem dX7_letter_149 : decode cX7_letter 149 = .ok (.imul, 1) := by decide +kernel
theorem dX7_letter_150 : decode cX7_letter 150 = .ok (.iadd, 1) := by decide +kernel
theorem dX7_letter_151 : decode cX7_letter 151 = .ok (.iload 6, 2) := by decide +kernel
theorem dX7_letter_153 : decode cX7_letter 153 = .ok (.iadd, 1) := by decide +kernel
theorem dX7_letter_154 : decode cX7_letter 154 = .ok (.aload_n 0, 1) := by decide +kernel
theorem dX7_letter_155 : decode cX7_letter 155 = .ok (.getfield 46, 3) := by decide +kernel
theorem dX7_letter_158 : decode cX7_letter 158 = .ok (.iload 6, 2) := by decide +kernel
theorem dX7_letter_160 : decode cX7_letter 160 = .ok (.iaload, 1) := by decide +kernel
theorem dX7_letter_161 : decode cX7_letter 161 = .ok (.iastore, 1) := by decide +kernel
theorem dX7_letter_162 : decode cX7_letter 162 = .ok (.iinc 6 1, 3) := by decide +kernel
theorem dX7_letter_165 : decode cX7_letter 165 = .ok (.goto (-36), 3) := by decide +kernel
theorem dX7_letter_168 : decode cX7_letter 168 = .ok (.iload 5, 2) := by decide +kernel
theorem dX7_letter_170 : decode cX7_letter 170 = .ok (.ireturn, 1) := by decide +kernel
set_option maxHeartbeats 4000000 in
set_option maxRecDepth 100000 in
theorem w_X7_letter_L45 {g : sk_G} {l : Launch} {p : Program} {e : Env} {s : State} {m : MethodId} {av : Array Value} {below : List Frame} {meth : Method} {c : Code} (C : sk_C g p s m av meth c cX7_letter 7 RX7 (some .int)) (a1 : Int32) (a2 : Int32) (a3 : Int32) (a4 : Int32) {rr : Int32} {MM : sk_M} :
    ∀ (n : Nat) (a5 : Int32) (a6 : Int32) (M : sk_M) (H : Heap) (locs : List Loc) (ls : Array Slot), lv_has ls 7 [(0, .ref (sk_ad g 88)), (1, .int a1), (2, .int a2), (3, .int a3), (4, .int a4), (5, .int a5), (6, .int a6)] → sk_P g M H → va_S (sk_A g) s.heap H locs → ∀ {out : (Int32 × sk_M) ⊕ (Int32 × sk_M)}, f_X7_letter_L45 a1 a2 a3 a4 n a5 a6 M = some out → (∀ r, out = Sum.inl r → some r = some (rr, MM)) → (∀ (x5 : Int32) (M1 : sk_M) (H : Heap) (locs : List Loc) (ls : Array Slot), some (Sum.inr (x5, M1)) = some out → lv_has ls 7 [(0, .ref (sk_ad g 88)), (1, .int a1), (5, .int x5)] → sk_P g M1 H → va_S (sk_A g) s.heap H locs → W p l e (sk_rm 6) s m av below meth c H locs 0 0 (MQ below (sk_QI g rr MM) av s 0 0 (sk_A g)) (F0 m 126 ls [])) → W p l e (sk_rm 6) s m av below meth c H locs 0 0 (MQ below (sk_QI g rr MM) av s 0 0 (sk_A g)) (F0 m 45 ls []) := by
  obtain ⟨hx, hb, hml, hown, hts, hK, hE, hr, hlocks⟩ := id C
  intro n
  induction n with
  | zero =>
    intro a5 a6 M H locs ls hl hM hS out h
    cases h
  | succ n ih =>
    intro a5 a6 M H locs ls hl hM hS out h kr kx
    rw [f_X7_letter_L45] at h
    refine lv_iload hx hb dX7_letter_45 (lv_at hl 6 rfl) ?_
    refine lv_aload_n hx hb dX7_letter_47 rfl (lv_at hl 0 rfl) ?_
    refine sk_getR (o := 88) (ci := 7) (j := 0) (t := 89) C hM rfl rfl (by decide) rfl rfl kw_935 dX7_letter_48 ?_
    refine lv_iconst (v := 0) hx hb dX7_letter_51 (by decide) ?_
    refine sk_iald (o := 89) C hM rfl (by decide) dX7_letter_52 ?_
    refine W.eq (g2 := F0 m 53 ls [.int (M 89 0), .int a6]) rfl ?_
    refine lv_icmp_ge hx hb dX7_letter_53 rfl (fun hc => ?_) (fun hc => ?_)
    · have h := sk_pos h hc
      exact kx _ _ _ _ _ h (lv_sub hl [0, 1, 5] rfl) hM hS
    · have h := sk_neg h hc
      refine lv_aload_n hx hb dX7_letter_56 rfl (lv_at hl 0 rfl) ?_
      refine sk_getR (o := 88) (ci := 7) (j := 13) (t := 101) C hM rfl rfl (by decide) rfl rfl kw_948 dX7_letter_57 ?_
      refine lv_iload hx hb dX7_letter_60 (lv_at hl 6 rfl) ?_
      refine lv_aload_n hx hb dX7_letter_62 rfl (lv_at hl 0 rfl) ?_
      refine sk_getR (o := 88) (ci := 7) (j := 0) (t := 89) C hM rfl rfl (by decide) rfl rfl kw_935 dX7_letter_63 ?_
      refine lv_bipush (v := 97) hx hb dX7_letter_66 (by decide) ?_
      refine lv_iload_n hx hb dX7_letter_68 rfl (lv_at hl 2 rfl) ?_
      refine lv_iadd hx hb dX7_letter_69 ?_
      obtain ⟨i_5, h⟩ := sk_chkE h
      refine sk_iald (o := 89) C hM rfl i_5 dX7_letter_70 ?_
      refine lv_iload hx hb dX7_letter_71 (lv_at hl 6 rfl) ?_
      refine lv_ishr hx hb dX7_letter_73 ?_
      refine lv_iconst (v := 1) hx hb dX7_letter_74 (by decide) ?_
      refine lv_iand hx hb dX7_letter_75 ?_
      refine lv_iconst (v := 1) hx hb dX7_letter_76 (by decide) ?_
      obtain ⟨y0_6, y1_6, h_6, kg_6⟩ := sk_b2E h
      have J_6 : ∀ (x_10 : Int32) (M_11 : sk_M) (H : Heap) (locs : List Loc) (ls : Array Slot), some (x_10, M_11) = some (y0_6, y1_6) → lv_has ls 7 [(0, .ref (sk_ad g 88)), (1, .int a1), (2, .int a2), (3, .int a3), (4, .int a4), (5, .int a5), (6, .int a6)] → sk_P g M_11 H → va_S (sk_A g) s.heap H locs → W p l e (sk_rm 6) s m av below meth c H locs 0 0 (MQ below (sk_QI g rr MM) av s 0 0 (sk_A g)) (F0 m 94 ls [.int x_10, .int a6, .ref (sk_ad g 101)]) := by
        intro x_10 M_11 H locs ls he hl hM hS
        obtain ⟨rfl, rfl⟩ := sk_e2 he
        have h := kg_6
        obtain ⟨i_12, h⟩ := sk_chkE h
        refine sk_iast (o := 101) C hM hS rfl i_12 dX7_letter_94 (fun M_13 eM_13 H locs hM hS => ?_)
        have h := sk_letU h eM_13
        refine lv_aload_n hx hb dX7_letter_95 rfl (lv_at hl 0 rfl) ?_
        refine sk_getR (o := 88) (ci := 7) (j := 13) (t := 101) C hM rfl rfl (by decide) rfl rfl kw_948 dX7_letter_96 ?_
        refine lv_iload hx hb dX7_letter_99 (lv_at hl 6 rfl) ?_
        obtain ⟨i_14, h⟩ := sk_chkE h
        refine sk_iald (o := 101) C hM rfl i_14 dX7_letter_101 ?_
        refine lv_if_ge hx hb dX7_letter_102 rfl (fun hc => ?_) (fun hc => ?_)
        · have h := sk_pos h hc
          refine lv_iload hx hb dX7_letter_108 (lv_at hl 5 rfl) ?_
          refine lv_aload_n hx hb dX7_letter_110 rfl (lv_at hl 0 rfl) ?_
          refine sk_getR (o := 88) (ci := 7) (j := 13) (t := 101) C hM rfl rfl (by decide) rfl rfl kw_948 dX7_letter_111 ?_
          refine lv_iload hx hb dX7_letter_114 (lv_at hl 6 rfl) ?_
          obtain ⟨i_15, h⟩ := sk_chkE h
          refine sk_iald (o := 101) C hM rfl i_15 dX7_letter_116 ?_
          refine lv_iadd hx hb dX7_letter_117 ?_
          refine lv_topi (fun x_16 ex_16 => ?_)
          have h := sk_letU h ex_16
          refine lv_istore (lv' := [(5, .int x_16), (0, .ref (sk_ad g 88)), (1, .int a1), (2, .int a2), (3, .int a3), (4, .int a4), (6, .int a6)]) hx hb dX7_letter_118 hl (by decide) rfl (fun ls hl => ?_)
          refine lv_iinc (v := (a6 + 1)) (lv' := [(6, .int (a6 + 1)), (5, .int x_16), (0, .ref (sk_ad g 88)), (1, .int a1), (2, .int a2), (3, .int a3), (4, .int a4)]) hx hb dX7_letter_120 hl (k := 6) rfl rfl (by decide) rfl (fun ls hl => ?_)
          refine lv_goto hx hb dX7_letter_123 rfl ?_
          exact ih x_16 (a6 + 1) M_13 _ _ _ (lv_sub hl [2, 3, 4, 5, 6, 1, 0] rfl) hM hS h kr kx
        · have h := sk_neg h hc
          refine lv_ldc (v := (-1000000002)) hx hb hown (hts _ kw_1271) dX7_letter_105 ?_
          have h := kr _ (Option.some.inj h).symm
          exact sk_iret C hM hS (sk_e2 h) dX7_letter_107
      have h := h_6
      refine lv_icmp_ne hx hb dX7_letter_77 rfl (fun hc => ?_) (fun hc => ?_)
      · have h := sk_neg h hc
        refine lv_iconst (v := 0) hx hb dX7_letter_93 (by decide) ?_
        exact J_6 _ _ _ _ _ h (lv_sub hl [0, 1, 2, 3, 4, 5, 6] rfl) hM hS
      · have h := sk_pos h hc
        refine lv_aload_n hx hb dX7_letter_80 rfl (lv_at hl 0 rfl) ?_
        refine lv_iload_n hx hb dX7_letter_81 rfl (lv_at hl 1 rfl) ?_
        refine lv_iload hx hb dX7_letter_82 (lv_at hl 6 rfl) ?_
        refine lv_iload_n hx hb dX7_letter_84 rfl (lv_at hl 3 rfl) ?_
        refine lv_iload hx hb dX7_letter_85 (lv_at hl 4 rfl) ?_
        obtain ⟨x_7, M_8, h_9, h⟩ := sk_b2E h
        refine sk_contI (sk_runV (As := [.int a1, .int a6, .int a3, .int a4]) (rest := [.int a6, .ref (sk_ad g 101)]) C (c_X7_leastOf g l a1 a6 a3 a4 M h_9) yo_X7_leastOf kw_1259 (sk_recv (ci := 7) C hM rfl rfl) (by decide) hM hS hl.1 rfl rfl (Nat.le_of_ble_eq_true rfl) dX7_letter_87) hS (fun H locs hM hS => ?_)
        refine lv_goto hx hb dX7_letter_90 rfl ?_
        exact J_6 _ _ _ _ _ h (lv_sub hl [0, 1, 2, 3, 4, 5, 6] rfl) hM hS
set_option maxHeartbeats 4000000 in
set_option maxRecDepth 100000 in
theorem w_X7_letter_L129 {g : sk_G} {l : Launch} {p : Program} {e : Env} {s : State} {m : MethodId} {av : Array Value} {below : List Frame} {meth : Method} {c : Code} (C : sk_C g p s m av meth c cX7_letter 7 RX7 (some .int)) (a1 : Int32) (a5 : Int32) {rr : Int32} {MM : sk_M} :
    ∀ (n : Nat) (a6 : Int32) (M : sk_M) (H : Heap) (locs : List Loc) (ls : Array Slot), lv_has ls 7 [(0, .ref (sk_ad g 88)), (1, .int a1), (5, .int a5), (6, .int a6)] → sk_P g M H → va_S (sk_A g) s.heap H locs → ∀ {out : sk_M}, f_X7_letter_L129 a1 a5 n a6 M = some out → (∀ (M1 : sk_M) (H : Heap) (locs : List Loc) (ls : Array Slot), some M1 = some out → lv_has ls 7 [(5, .int a5)] → sk_P g M1 H → va_S (sk_A g) s.heap H locs → W p l e (sk_rm 6) s m av below meth c H locs 0 0 (MQ below (sk_QI g rr MM) av s 0 0 (sk_A g)) (F0 m 168 ls [])) → W p l e (sk_rm 6) s m av below meth c H locs 0 0 (MQ below (sk_QI g rr MM) av s 0 0 (sk_A g)) (F0 m 129 ls []) := by
  obtain ⟨hx, hb, hml, hown, hts, hK, hE, hr, hlocks⟩ := id C
  intro n
  induction n with
  | zero =>
    intro a6 M H locs ls hl hM hS out h
    cases h
  | succ n ih =>
    intro a6 M H locs ls hl hM hS out h kx
    rw [f_X7_letter_L129] at h
    refine lv_iload hx hb dX7_letter_129 (lv_at hl 3 rfl) ?_
    refine lv_aload_n hx hb dX7_letter_131 rfl (lv_at hl 0 rfl) ?_
    refine sk_getR (o := 88) (ci := 7) (j := 0) (t := 89) C hM rfl rfl (by decide) rfl rfl kw_935 dX7_letter_132 ?_
    refine lv_iconst (v := 0) hx hb dX7_letter_135 (by decide) ?_
    refine sk_iald (o := 89) C hM rfl (by decide) dX7_letter_136 ?_
    refine W.eq (g2 := F0 m 137 ls [.int (M 89 0), .int a6]) rfl ?_
    refine lv_icmp_ge hx hb dX7_letter_137 rfl (fun hc => ?_) (fun hc => ?_)
    · have h := sk_pos h hc
      exact kx _ _ _ _ h (lv_sub hl [2] rfl) hM hS
    · have h := sk_neg h hc
      refine lv_aload_n hx hb dX7_letter_140 rfl (lv_at hl 0 rfl) ?_
      refine sk_getR (o := 88) (ci := 7) (j := 0) (t := 89) C hM rfl rfl (by decide) rfl rfl kw_935 dX7_letter_141 ?_
      refine lv_bipush (v := 43) hx hb dX7_letter_144 (by decide) ?_
      refine lv_bipush (v := 9) hx hb dX7_letter_146 (by decide) ?_
      refine lv_iload_n hx hb dX7_letter_148 rfl (lv_at hl 1 rfl) ?_
      refine lv_imul hx hb dX7_letter_149 ?_
      refine lv_iadd hx hb dX7_letter_150 ?_
      refine lv_iload hx hb dX7_letter_151 (lv_at hl 3 rfl) ?_
      refine lv_iadd hx hb dX7_letter_153 ?_
      refine lv_aload_n hx hb dX7_letter_154 rfl (lv_at hl 0 rfl) ?_
      refine sk_getR (o := 88) (ci := 7) (j := 13) (t := 101) C hM rfl rfl (by decide) rfl rfl kw_948 dX7_letter_155 ?_
      refine lv_iload hx hb dX7_letter_158 (lv_at hl 3 rfl) ?_
      obtain ⟨i_19, h⟩ := sk_chkE h
      refine sk_iald (o := 101) C hM rfl i_19 dX7_letter_160 ?_
      obtain ⟨i_20, h⟩ := sk_chkE h
      refine sk_iast (o := 89) C hM hS rfl i_20 dX7_letter_161 (fun M_21 eM_21 H locs hM hS => ?_)
      have h := sk_letU h eM_21
      refine lv_iinc (v := (a6 + 1)) (lv' := [(6, .int (a6 + 1)), (0, .ref (sk_ad g 88)), (1, .int a1), (5, .int a5)]) hx hb dX7_letter_162 hl (k := 3) rfl rfl (by decide) rfl (fun ls hl => ?_)
      refine lv_goto hx hb dX7_letter_165 rfl ?_
      exact ih (a6 + 1) M_21 _ _ _ (lv_sub hl [1, 2, 3, 0] rfl) hM hS h kx
set_option maxHeartbeats 4000000 in
set_option maxRecDepth 100000 in
theorem c_X7_letter (g : sk_G) (l : Launch) (a1 : Int32) (a2 : Int32) (a3 : Int32) (a4 : Int32) (M : sk_M) {rr : Int32} {MM : sk_M} (h : f_X7_letter a1 a2 a3 a4 M = some (rr, MM)) : sk_MI g l yX7_letter cX7_letter 7 (some .int) 6 [.ref (sk_ad g 88), .int a1, .int a2, .int a3, .int a4] M rr MM := by
  refine sk_go [(0, .ref (sk_ad g 88)), (1, .int a1), (2, .int a2), (3, .int a3), (4, .int a4)] (by decide) (Nat.le_of_ble_eq_true rfl) rfl ?_
  intro p e s m av below meth c C ls hl hM hS
  obtain ⟨hx, hb, hml, hown, hts, hK, hE, hr, hlocks⟩ := id C
  rw [f_X7_letter] at h
  refine lv_aload_n hx hb dX7_letter_0 rfl (lv_at hl 0 rfl) ?_
  refine lv_iload_n hx hb dX7_letter_1 rfl (lv_at hl 1 rfl) ?_
  refine sk_contI (sk_runV (As := [.int a1]) (rest := []) C (c_X7_isCloth g l a1 M rfl) yo_X7_isCloth kw_1133 (sk_recv (ci := 7) C hM rfl rfl) (by decide) hM hS hl.1 rfl rfl (Nat.le_of_ble_eq_true rfl) dX7_letter_2) hS (fun H locs hM hS => ?_)
  refine lv_if_eq hx hb dX7_letter_5 rfl (fun hc => ?_) (fun hc => ?_)
  · have h := sk_pos h hc
    refine lv_ldc (v := (-1000000001)) hx hb hown (hts _ kw_1044) dX7_letter_36 ?_
    exact sk_iret C hM hS (sk_e2 h) dX7_letter_38
  · have h := sk_neg h hc
    refine lv_aload_n hx hb dX7_letter_8 rfl (lv_at hl 0 rfl) ?_
    refine lv_iload_n hx hb dX7_letter_9 rfl (lv_at hl 2 rfl) ?_
    refine sk_contI (sk_runV (As := [.int a2]) (rest := []) C (c_X7_isSaid g l a2 M rfl) yo_X7_isSaid kw_1107 (sk_recv (ci := 7) C hM rfl rfl) (by decide) hM hS hl.1 rfl rfl (Nat.le_of_ble_eq_true rfl) dX7_letter_10) hS (fun H locs hM hS => ?_)
    refine lv_if_eq hx hb dX7_letter_13 rfl (fun hc => ?_) (fun hc => ?_)
    · have h := sk_pos h hc
      refine lv_ldc (v := (-1000000001)) hx hb hown (hts _ kw_1044) dX7_letter_36 ?_
      exact sk_iret C hM hS (sk_e2 h) dX7_letter_38
    · have h := sk_neg h hc
      refine lv_iload_n hx hb dX7_letter_16 rfl (lv_at hl 3 rfl) ?_
      refine sk_contI (sk_runS (As := [.int a3]) (rest := []) C (c_X7_isNose g l a3 M rfl) yo_X7_isNose kw_1095 (by decide) hM hS hl.1 rfl rfl (Nat.le_of_ble_eq_true rfl) dX7_letter_17) hS (fun H locs hM hS => ?_)
      refine lv_if_eq hx hb dX7_letter_20 rfl (fun hc => ?_) (fun hc => ?_)
      · have h := sk_pos h hc
        refine lv_ldc (v := (-1000000001)) hx hb hown (hts _ kw_1044) dX7_letter_36 ?_
        exact sk_iret C hM hS (sk_e2 h) dX7_letter_38
      · have h := sk_neg h hc
        refine lv_iload hx hb dX7_letter_23 (lv_at hl 4 rfl) ?_
        refine lv_i2l (v := a4.toInt64) hx hb dX7_letter_25 rfl ?_
        refine lv_lconst (v := 0) hx hb dX7_letter_26 (by decide) ?_
        refine lv_ldc2 (v := 100) hx hb hown (hts _ kw_1258) dX7_letter_27 ?_
        refine sk_contI (sk_runS (As := [.long (a4.toInt64), .long 0, .long 100]) (rest := []) C (c_X7_isIn g l (a4.toInt64) 0 100 M rfl) yo_X7_isIn kw_1040 (by decide) hM hS hl.1 rfl rfl (Nat.le_of_ble_eq_true rfl) dX7_letter_30) hS (fun H locs hM hS => ?_)
        refine lv_if_ne hx hb dX7_letter_33 rfl (fun hc => ?_) (fun hc => ?_)
        · have h := sk_neg h hc
          refine lv_iconst (v := 0) hx hb dX7_letter_39 (by decide) ?_
          refine lv_istore (lv' := [(5, .int 0), (0, .ref (sk_ad g 88)), (1, .int a1), (2, .int a2), (3, .int a3), (4, .int a4)]) hx hb dX7_letter_40 hl (by decide) rfl (fun ls hl => ?_)
          refine lv_iconst (v := 0) hx hb dX7_letter_42 (by decide) ?_
          refine lv_istore (lv' := [(6, .int 0), (5, .int 0), (0, .ref (sk_ad g 88)), (1, .int a1), (2, .int a2), (3, .int a3), (4, .int a4)]) hx hb dX7_letter_43 hl (by decide) rfl (fun ls hl => ?_)
          obtain ⟨out_26, h_25, kf_27, kg_28⟩ := sk_s2E h
          refine w_X7_letter_L45 C a1 a2 a3 a4 sk_FU 0 0 M _ _ _ (lv_sub hl [2, 3, 4, 5, 6, 1, 0] rfl) hM hS h_25 kf_27 (fun x_17 M_18 H locs ls he hl hM hS => ?_)
          have h := kg_28 x_17 M_18 (Option.some.inj he).symm
          refine lv_iconst (v := 0) hx hb dX7_letter_126 (by decide) ?_
          refine lv_istore (lv' := [(6, .int 0), (0, .ref (sk_ad g 88)), (1, .int a1), (5, .int x_17)]) hx hb dX7_letter_127 hl (by decide) rfl (fun ls hl => ?_)
          obtain ⟨M_22, h_23, h⟩ := sk_b1E h
          refine w_X7_letter_L129 C a1 x_17 sk_FU 0 M_18 _ _ _ (lv_sub hl [1, 2, 3, 0] rfl) hM hS h_23 (fun y_24 H locs ls he hl hM hS => ?_)
          obtain rfl := Option.some.inj he
          refine lv_iload hx hb dX7_letter_168 (lv_at hl 0 rfl) ?_
          exact sk_iret C hM hS (sk_e2 h) dX7_letter_170
        · have h := sk_pos h hc
          refine lv_ldc (v := (-1000000001)) hx hb hown (hts _ kw_1044) dX7_letter_36 ?_
          exact sk_iret C hM hS (sk_e2 h) dX7_letter_38
theorem dX7_allOn_0 : decode cX7_allOn 0 = .ok (.iconst 0, 1) := by decide +kernel
theorem dX7_allOn_1 : decode cX7_allOn 1 = .ok (.istore_n 2, 1) := by decide +kernel
theorem dX7_allOn_2 : decode cX7_allOn 2 = .ok (.iconst 0, 1) := by decide +kernel
theorem dX7_allOn_3 : decode cX7_allOn 3 = .ok (.istore_n 3, 1) := by decide +kernel
theorem dX7_allOn_4 : decode cX7_allOn 4 = .ok (.iload_n 3, 1) := by decide +kernel
theorem dX7_allOn_5 : decode cX7_allOn 5 = .ok (.aload_n 0, 1) := by decide +kernel
theorem dX7_allOn_6 : decode cX7_allOn 6 = .ok (.getfield 7, 3) := by decide +kernel
theorem dX7_allOn_9 : decode cX7_allOn 9 = .ok (.iconst 0, 1) := by decide +kernel
theorem dX7_allOn_10 : decode cX7_allOn 10 = .ok (.iaload, 1) := by decide +kernel
theorem dX7_allOn_11 : decode cX7_allOn 11 = .ok (.if_icmp .ge 18, 3) := by decide +kernel
theorem dX7_allOn_14 : decode cX7_allOn 14 = .ok (.iload_n 2, 1) := by decide +kernel
theorem dX7_allOn_15 : decode cX7_allOn 15 = .ok (.aload_n 0, 1) := by decide +kernel
theorem dX7_allOn_16 : decode cX7_allOn 16 = .ok (.iload_n 1, 1) := by decide +kernel
theorem dX7_allOn_17 : decode cX7_allOn 17 = .ok (.iload_n 3, 1) := by decide +kernel
theorem dX7_allOn_18 : decode cX7_allOn 18 = .ok (.invokevirtual 100, 3) := by decide +kernel
theorem dX7_allOn_21 : decode cX7_allOn 21 = .ok (.iadd, 1) := by decide +kernel
theorem dX7_allOn_22 : decode cX7_allOn 22 = .ok (.istore_n 2, 1) := by decide +kernel
theorem dX7_allOn_23 : decode cX7_allOn 23 = .ok (.iinc 3 1, 3) := by decide +kernel
theorem dX7_allOn_26 : decode cX7_allOn 26 = .ok (.goto (-22), 3) := by decide +kernel
theorem dX7_allOn_29 : decode cX7_allOn 29 = .ok (.iload_n 2, 1) := by decide +kernel
theorem dX7_allOn_30 : decode cX7_allOn 30 = .ok (.ireturn, 1) := by decide +kernel
set_option maxHeartbeats 4000000 in
set_option maxRecDepth 100000 in
theorem w_X7_allOn_L4 {g : sk_G} {l : Launch} {p : Program} {e : Env} {s : State} {m : MethodId} {av : Array Value} {below : List Frame} {meth : Method} {c : Code} (C : sk_C g p s m av meth c cX7_allOn 4 RX7 (some .int)) (a1 : Int32) (M : sk_M) {rr : Int32} :
    ∀ (n : Nat) (a2 : Int32) (a3 : Int32) (H : Heap) (locs : List Loc) (ls : Array Slot), lv_has ls 4 [(0, .ref (sk_ad g 88)), (1, .int a1), (2, .int a2), (3, .int a3)] → sk_P g M H → va_S (sk_A g) s.heap H locs → ∀ {out : Int32}, f_X7_allOn_L4 a1 M n a2 a3 = some out → (∀ (x2 : Int32) (H : Heap) (locs : List Loc) (ls : Array Slot), some x2 = some out → lv_has ls 4 [(2, .int x2)] → sk_P g M H → va_S (sk_A g) s.heap H locs → W p l e (sk_rm 2) s m av below meth c H locs 0 0 (MQ below (sk_QI g rr M) av s 0 0 (sk_A g)) (F0 m 29 ls [])) → W p l e (sk_rm 2) s m av below meth c H locs 0 0 (MQ below (sk_QI g rr M) av s 0 0 (sk_A g)) (F0 m 4 ls []) := by
  obtain ⟨hx, hb, hml, hown, hts, hK, hE, hr, hlocks⟩ := id C
  intro n
  induction n with
  | zero =>
    intro a2 a3 H locs ls hl hM hS out h
    cases h
  | succ n ih =>
    intro a2 a3 H locs ls hl hM hS out h kx
    rw [f_X7_allOn_L4] at h
    refine lv_iload_n hx hb dX7_allOn_4 rfl (lv_at hl 3 rfl) ?_
    refine lv_aload_n hx hb dX7_allOn_5 rfl (lv_at hl 0 rfl) ?_
    refine sk_getR (o := 88) (ci := 7) (j := 0) (t := 89) C hM rfl rfl (by decide) rfl rfl kw_935 dX7_allOn_6 ?_
    refine lv_iconst (v := 0) hx hb dX7_allOn_9 (by decide) ?_
    refine sk_iald (o := 89) C hM rfl (by decide) dX7_allOn_10 ?_
    refine W.eq (g2 := F0 m 11 ls [.int (M 89 0), .int a3]) rfl ?_
    refine lv_icmp_ge hx hb dX7_allOn_11 rfl (fun hc => ?_) (fun hc => ?_)
    · have h := sk_pos h hc
      exact kx _ _ _ _ h (lv_sub hl [2] rfl) hM hS
    · have h := sk_neg h hc
      refine lv_iload_n hx hb dX7_allOn_14 rfl (lv_at hl 2 rfl) ?_
      refine lv_aload_n hx hb dX7_allOn_15 rfl (lv_at hl 0 rfl) ?_
      refine lv_iload_n hx hb dX7_allOn_16 rfl (lv_at hl 1 rfl) ?_
      refine lv_iload_n hx hb dX7_allOn_17 rfl (lv_at hl 3 rfl) ?_
      obtain ⟨x_1, h_2, h⟩ := sk_b1E h
      refine sk_contI (sk_runV (As := [.int a1, .int a3]) (rest := [.int a2]) C (c_X7_on g l a1 a3 M h_2) yo_X7_on kw_1137 (sk_recv (ci := 7) C hM rfl rfl) (by decide) hM hS hl.1 rfl rfl (Nat.le_of_ble_eq_true rfl) dX7_allOn_18) hS (fun H locs hM hS => ?_)
      refine lv_iadd hx hb dX7_allOn_21 ?_
      refine lv_topi (fun x_3 ex_3 => ?_)
      have h := sk_letU h ex_3
      refine lv_istore_n (lv' := [(2, .int x_3), (0, .ref (sk_ad g 88)), (1, .int a1), (3, .int a3)]) hx hb dX7_allOn_22 rfl hl (by decide) rfl (fun ls hl => ?_)
      refine lv_iinc (v := (a3 + 1)) (lv' := [(3, .int (a3 + 1)), (2, .int x_3), (0, .ref (sk_ad g 88)), (1, .int a1)]) hx hb dX7_allOn_23 hl (k := 3) rfl rfl (by decide) rfl (fun ls hl => ?_)
      refine lv_goto hx hb dX7_allOn_26 rfl ?_
      exact ih x_3 (a3 + 1) _ _ _ (lv_sub hl [2, 3, 1, 0] rfl) hM hS h kx
set_option maxHeartbeats 4000000 in
set_option maxRecDepth 100000 in
theorem c_X7_allOn (g : sk_G) (l : Launch) (a1 : Int32) (M : sk_M) {rr : Int32} (h : f_X7_allOn a1 M = some rr) : sk_MI g l yX7_allOn cX7_allOn 4 (some .int) 2 [.ref (sk_ad g 88), .int a1] M rr M := by
  refine sk_go [(0, .ref (sk_ad g 88)), (1, .int a1)] (by decide) (Nat.le_of_ble_eq_true rfl) rfl ?_
  intro p e s m av below meth c C ls hl hM hS
  obtain ⟨hx, hb, hml, hown, hts, hK, hE, hr, hlocks⟩ := id C
  rw [f_X7_allOn] at h
  refine lv_iconst (v := 0) hx hb dX7_allOn_0 (by decide) ?_
  refine lv_istore_n (lv' := [(2, .int 0), (0, .ref (sk_ad g 88)), (1, .int a1)]) hx hb dX7_allOn_1 rfl hl (by decide) rfl (fun ls hl => ?_)
  refine lv_iconst (v := 0) hx hb dX7_allOn_2 (by decide) ?_
  refine lv_istore_n (lv' := [(3, .int 0), (2, .int 0), (0, .ref (sk_ad g 88)), (1, .int a1)]) hx hb dX7_allOn_3 rfl hl (by decide) rfl (fun ls hl => ?_)
  obtain ⟨x_4, h_5, h⟩ := sk_b1E h
  refine w_X7_allOn_L4 C a1 M sk_FU 0 0 _ _ _ (lv_sub hl [2, 3, 1, 0] rfl) hM hS h_5 (fun y_6 H locs ls he hl hM hS => ?_)
  obtain rfl := Option.some.inj he
  refine lv_iload_n hx hb dX7_allOn_29 rfl (lv_at hl 0 rfl) ?_
  exact sk_iret C hM hS ⟨Option.some.inj h, rfl⟩ dX7_allOn_30
theorem dX7_price_0 : decode cX7_price 0 = .ok (.aload_n 0, 1) := by decide +kernel
theorem dX7_price_1 : decode cX7_price 1 = .ok (.iload_n 1, 1) := by decide +kernel
theorem dX7_price_2 : decode cX7_price 2 = .ok (.invokevirtual 138, 3) := by decide +kernel
theorem dX7_price_5 : decode cX7_price 5 = .ok (.ifCond .ne 6, 3) := by decide +kernel
theorem dX7_price_8 : decode cX7_price 8 = .ok (.ldc 80, 2) := by decide +kernel
theorem dX7_price_10 : decode cX7_price 10 = .ok (.ireturn, 1) := by decide +kernel
theorem dX7_price_11 : decode cX7_price 11 = .ok (.aload_n 0, 1) := by decide +kernel
theorem dX7_price_12 : decode cX7_price 12 = .ok (.iconst 1, 1) := by decide +kernel
theorem dX7_price_13 : decode cX7_price 13 = .ok (.invokevirtual 90, 3) := by decide +kernel
theorem dX7_price_16 : decode cX7_price 16 = .ok (.istore_n 2, 1) := by decide +kernel
theorem dX7_price_17 : decode cX7_price 17 = .ok (.iload_n 2, 1) := by decide +kernel
theorem dX7_price_18 : decode cX7_price 18 = .ok (.ifCond .ge 9, 3) := by decide +kernel
theorem dX7_price_21 : decode cX7_price 21 = .ok (.aload_n 0, 1) := by decide +kernel
theorem dX7_price_22 : decode cX7_price 22 = .ok (.iload_n 1, 1) := by decide +kernel
theorem dX7_price_23 : decode cX7_price 23 = .ok (.invokevirtual 186, 3) := by decide +kernel
theorem dX7_price_26 : decode cX7_price 26 = .ok (.ireturn, 1) := by decide +kernel
theorem dX7_price_27 : decode cX7_price 27 = .ok (.iconst 0, 1) := by decide +kernel
theorem dX7_price_28 : decode cX7_price 28 = .ok (.istore_n 3, 1) := by decide +kernel
theorem dX7_price_29 : decode cX7_price 29 = .ok (.iconst 0, 1) := by decide +kernel
theorem dX7_price_30 : decode cX7_price 30 = .ok (.istore 4, 2) := by decide +kernel
theorem dX7_price_32 : decode cX7_price 32 = .ok (.iload 4, 2) := by decide +kernel
theorem dX7_price_34 : decode cX7_price 34 = .ok (.aload_n 0, 1) := by decide +kernel
theorem dX7_price_35 : decode cX7_price 35 = .ok (.getfield 7, 3) := by decide +kernel
theorem dX7_price_38 : decode cX7_price 38 = .ok (.iconst 0, 1) := by decide +kernel
theorem dX7_price_39 : decode cX7_price 39 = .ok (.iaload, 1) := by decide +kernel
theorem dX7_price_40 : decode cX7_price 40 = .ok (.if_icmp .ge 27, 3) := by decide +kernel
theorem dX7_price_43 : decode cX7_price 43 = .ok (.iload_n 3, 1) := by decide +kernel
theorem dX7_price_44 : decode cX7_price 44 = .ok (.aload_n 0, 1) := by decide +kernel
theorem dX7_price_45 : decode cX7_price 45 = .ok (.iload_n 1, 1) := by decide +kernel
theorem dX7_price_46 : decode cX7_price 46 = .ok (.iload 4, 2) := by decide +kernel
theorem dX7_price_48 : decode cX7_price 48 = .ok (.invokevirtual 100, 3) := by decide +kernel
theorem dX7_price_51 : decode cX7_price 51 = .ok (.ifCond .ne 7, 3) := by decide +kernel
theorem dX7_price_54 : decode cX7_price 54 = .ok (.iconst 0, 1) := by decide +kernel
theorem dX7_price_55 : decode cX7_price 55 = .ok (.goto 4, 3) := by decide +kernel
theorem dX7_price_58 : decode cX7_price 58 = .ok (.iconst 1, 1) := by decide +kernel
theorem dX7_price_59 : decode cX7_price 59 = .ok (.iadd, 1) := by decide +kernel
theorem dX7_price_60 : decode cX7_price 60 = .ok (.istore_n 3, 1) := by decide +kernel
theorem dX7_price_61 : decode cX7_price 61 = .ok (.iinc 4 1, 3) := by decide +kernel
theorem dX7_price_64 : decode cX7_price 64 = .ok (.goto (-32), 3) := by decide +kernel
theorem dX7_price_67 : decode cX7_price 67 = .ok (.aload_n 0, 1) := by decide +kernel
theorem dX7_price_68 : decode cX7_price 68 = .ok (.getfield 52, 3) := by decide +kernel
theorem dX7_price_71 : decode cX7_price 71 = .ok (.bipush 116, 2) := by decide +kernel
theorem dX7_price_73 : decode cX7_price 73 = .ok (.aload_n 0, 1) := by decide +kernel
theorem dX7_price_74 : decode cX7_price 74 = .ok (.iload_n 1, 1) := by decide +kernel
theorem dX7_price_75 : decode cX7_price 75 = .ok (.invokevirtual 186, 3) := by decide +kernel
theorem dX7_price_78 : decode cX7_price 78 = .ok (.iastore, 1) := by decide +kernel
theorem dX7_price_79 : decode cX7_price 79 = .ok (.aload_n 0, 1) := by decide +kernel
theorem dX7_price_80 : decode cX7_price 80 = .ok (.getfield 52, 3) := by decide +kernel
theorem dX7_price_83 : decode cX7_price 83 = .ok (.bipush 110, 2) := by decide +kernel
theorem dX7_price_85 : decode cX7_price 85 = .ok (.iload_n 3, 1) := by decide +kernel
theorem dX7_price_86 : decode cX7_price 86 = .ok (.iastore, 1) := by decide +kernel
theorem dX7_price_87 : decode cX7_price 87 = .ok (.aload_n 0, 1) := by decide +kernel
theorem dX7_price_88 : decode cX7_price 88 = .ok (.iload_n 2, 1) := by decide +kernel
theorem dX7_price_89 : decode cX7_price 89 = .ok (.invokevirtual 94, 3) := by decide +kernel
theorem dX7_price_92 : decode cX7_price 92 = .ok (.ireturn, 1) := by decide +kernel
set_option maxHeartbeats 4000000 in
set_option maxRecDepth 100000 in
theorem w_X7_price_L32 {g : sk_G} {l : Launch} {p : Program} {e : Env} {s : State} {m : MethodId} {av : Array Value} {below : List Frame} {meth : Method} {c : Code} (C : sk_C g p s m av meth c cX7_price 5 RX7 (some .int)) (a1 : Int32) (a2 : Int32) (M : sk_M) {rr : Int32} {MM : sk_M} :
    ∀ (n : Nat) (a3 : Int32) (a4 : Int32) (H : Heap) (locs : List Loc) (ls : Array Slot), lv_has ls 5 [(0, .ref (sk_ad g 88)), (1, .int a1), (2, .int a2), (3, .int a3), (4, .int a4)] → sk_P g M H → va_S (sk_A g) s.heap H locs → ∀ {out : Int32}, f_X7_price_L32 a1 a2 M n a3 a4 = some out → (∀ (x3 : Int32) (H : Heap) (locs : List Loc) (ls : Array Slot), some x3 = some out → lv_has ls 5 [(0, .ref (sk_ad g 88)), (1, .int a1), (2, .int a2), (3, .int x3)] → sk_P g M H → va_S (sk_A g) s.heap H locs → W p l e (sk_rm 3) s m av below meth c H locs 0 0 (MQ below (sk_QI g rr MM) av s 0 0 (sk_A g)) (F0 m 67 ls [])) → W p l e (sk_rm 3) s m av below meth c H locs 0 0 (MQ below (sk_QI g rr MM) av s 0 0 (sk_A g)) (F0 m 32 ls []) := by
  obtain ⟨hx, hb, hml, hown, hts, hK, hE, hr, hlocks⟩ := id C
  intro n
  induction n with
  | zero =>
    intro a3 a4 H locs ls hl hM hS out h
    cases h
  | succ n ih =>
    intro a3 a4 H locs ls hl hM hS out h kx
    rw [f_X7_price_L32] at h
    refine lv_iload hx hb dX7_price_32 (lv_at hl 4 rfl) ?_
    refine lv_aload_n hx hb dX7_price_34 rfl (lv_at hl 0 rfl) ?_
    refine sk_getR (o := 88) (ci := 7) (j := 0) (t := 89) C hM rfl rfl (by decide) rfl rfl kw_935 dX7_price_35 ?_
    refine lv_iconst (v := 0) hx hb dX7_price_38 (by decide) ?_
    refine sk_iald (o := 89) C hM rfl (by decide) dX7_price_39 ?_
    refine W.eq (g2 := F0 m 40 ls [.int (M 89 0), .int a4]) rfl ?_
    refine lv_icmp_ge hx hb dX7_price_40 rfl (fun hc => ?_) (fun hc => ?_)
    · have h := sk_pos h hc
      exact kx _ _ _ _ h (lv_sub hl [0, 1, 2, 3] rfl) hM hS
    · have h := sk_neg h hc
      refine lv_iload_n hx hb dX7_price_43 rfl (lv_at hl 3 rfl) ?_
      refine lv_aload_n hx hb dX7_price_44 rfl (lv_at hl 0 rfl) ?_
      refine lv_iload_n hx hb dX7_price_45 rfl (lv_at hl 1 rfl) ?_
      refine lv_iload hx hb dX7_price_46 (lv_at hl 4 rfl) ?_
      obtain ⟨x_4, h_5, h⟩ := sk_b1E h
      refine sk_contI (sk_runV (As := [.int a1, .int a4]) (rest := [.int a3]) C (c_X7_on g l a1 a4 M h_5) yo_X7_on kw_1137 (sk_recv (ci := 7) C hM rfl rfl) (by decide) hM hS hl.1 rfl rfl (Nat.le_of_ble_eq_true rfl) dX7_price_48) hS (fun H locs hM hS => ?_)
      have J : ∀ (vv : Int32) (H : Heap) (locs : List Loc), (if x_4 = 0 then 0 else 1 : Int32) = vv → sk_P g M H → va_S (sk_A g) s.heap H locs → W p l e (sk_rm 3) s m av below meth c H locs 0 0 (MQ below (sk_QI g rr MM) av s 0 0 (sk_A g)) (F0 m 59 ls [.int vv, .int a3]) := by
        intro vv H locs hvv hM hS
        subst hvv
        refine lv_iadd hx hb dX7_price_59 ?_
        refine lv_topi (fun x_6 ex_6 => ?_)
        have h := sk_letU h ex_6
        refine lv_istore_n (lv' := [(3, .int x_6), (0, .ref (sk_ad g 88)), (1, .int a1), (2, .int a2), (4, .int a4)]) hx hb dX7_price_60 rfl hl (by decide) rfl (fun ls hl => ?_)
        refine lv_iinc (v := (a4 + 1)) (lv' := [(4, .int (a4 + 1)), (3, .int x_6), (0, .ref (sk_ad g 88)), (1, .int a1), (2, .int a2)]) hx hb dX7_price_61 hl (k := 4) rfl rfl (by decide) rfl (fun ls hl => ?_)
        refine lv_goto hx hb dX7_price_64 rfl ?_
        exact ih x_6 (a4 + 1) _ _ _ (lv_sub hl [2, 3, 4, 1, 0] rfl) hM hS h kx
      refine lv_if_ne hx hb dX7_price_51 rfl (fun hc => ?_) (fun hc => ?_)
      · have J := fun vv H locs q => J vv H locs ((if_neg hc).trans q)
        refine lv_iconst (v := 1) hx hb dX7_price_58 (by decide) ?_
        exact J _ _ _ rfl hM hS
      · have J := fun vv H locs q => J vv H locs ((if_pos hc).trans q)
        refine lv_iconst (v := 0) hx hb dX7_price_54 (by decide) ?_
        refine lv_goto hx hb dX7_price_55 rfl ?_
        exact J _ _ _ rfl hM hS
set_option maxHeartbeats 4000000 in
set_option maxRecDepth 100000 in
theorem c_X7_price (g : sk_G) (l : Launch) (a1 : Int32) (M : sk_M) {rr : Int32} {MM : sk_M} (h : f_X7_price a1 M = some (rr, MM)) : sk_MI g l yX7_price cX7_price 5 (some .int) 3 [.ref (sk_ad g 88), .int a1] M rr MM := by
  refine sk_go [(0, .ref (sk_ad g 88)), (1, .int a1)] (by decide) (Nat.le_of_ble_eq_true rfl) rfl ?_
  intro p e s m av below meth c C ls hl hM hS
  obtain ⟨hx, hb, hml, hown, hts, hK, hE, hr, hlocks⟩ := id C
  rw [f_X7_price] at h
  refine lv_aload_n hx hb dX7_price_0 rfl (lv_at hl 0 rfl) ?_
  refine lv_iload_n hx hb dX7_price_1 rfl (lv_at hl 1 rfl) ?_
  refine sk_contI (sk_runV (As := [.int a1]) (rest := []) C (c_X7_isCloth g l a1 M rfl) yo_X7_isCloth kw_1133 (sk_recv (ci := 7) C hM rfl rfl) (by decide) hM hS hl.1 rfl rfl (Nat.le_of_ble_eq_true rfl) dX7_price_2) hS (fun H locs hM hS => ?_)
  refine lv_if_ne hx hb dX7_price_5 rfl (fun hc => ?_) (fun hc => ?_)
  · have h := sk_neg h hc
    refine lv_aload_n hx hb dX7_price_11 rfl (lv_at hl 0 rfl) ?_
    refine lv_iconst (v := 1) hx hb dX7_price_12 (by decide) ?_
    obtain ⟨x_2, h_3, h⟩ := sk_b1E h
    refine sk_contI (sk_runV (As := [.int 1]) (rest := []) C (c_X7_counts g l 1 M h_3) yo_X7_counts kw_1153 (sk_recv (ci := 7) C hM rfl rfl) (by decide) hM hS hl.1 rfl rfl (Nat.le_of_ble_eq_true rfl) dX7_price_13) hS (fun H locs hM hS => ?_)
    refine lv_istore_n (lv' := [(2, .int x_2), (0, .ref (sk_ad g 88)), (1, .int a1)]) hx hb dX7_price_16 rfl hl (by decide) rfl (fun ls hl => ?_)
    refine lv_iload_n hx hb dX7_price_17 rfl (lv_at hl 0 rfl) ?_
    refine lv_if_ge hx hb dX7_price_18 rfl (fun hc => ?_) (fun hc => ?_)
    · have h := sk_pos h hc
      refine lv_iconst (v := 0) hx hb dX7_price_27 (by decide) ?_
      refine lv_istore_n (lv' := [(3, .int 0), (2, .int x_2), (0, .ref (sk_ad g 88)), (1, .int a1)]) hx hb dX7_price_28 rfl hl (by decide) rfl (fun ls hl => ?_)
      refine lv_iconst (v := 0) hx hb dX7_price_29 (by decide) ?_
      refine lv_istore (lv' := [(4, .int 0), (3, .int 0), (2, .int x_2), (0, .ref (sk_ad g 88)), (1, .int a1)]) hx hb dX7_price_30 hl (by decide) rfl (fun ls hl => ?_)
      obtain ⟨x_7, h_15, h⟩ := sk_b1E h
      refine w_X7_price_L32 C a1 x_2 M sk_FU 0 0 _ _ _ (lv_sub hl [3, 4, 2, 1, 0] rfl) hM hS h_15 (fun y_16 H locs ls he hl hM hS => ?_)
      obtain rfl := Option.some.inj he
      refine lv_aload_n hx hb dX7_price_67 rfl (lv_at hl 0 rfl) ?_
      refine sk_getR (o := 88) (ci := 7) (j := 26) (t := 103) C hM rfl rfl (by decide) rfl rfl kw_961 dX7_price_68 ?_
      refine lv_bipush (v := 116) hx hb dX7_price_71 (by decide) ?_
      refine lv_aload_n hx hb dX7_price_73 rfl (lv_at hl 0 rfl) ?_
      refine lv_iload_n hx hb dX7_price_74 rfl (lv_at hl 1 rfl) ?_
      obtain ⟨x_8, h_9, h⟩ := sk_b1E h
      refine sk_contI (sk_runV (As := [.int a1]) (rest := [.int 116, .ref (sk_ad g 103)]) C (c_X7_allOn g l a1 M h_9) yo_X7_allOn kw_1276 (sk_recv (ci := 7) C hM rfl rfl) (by decide) hM hS hl.1 rfl rfl (Nat.le_of_ble_eq_true rfl) dX7_price_75) hS (fun H locs hM hS => ?_)
      refine sk_iast (o := 103) C hM hS rfl (by decide) dX7_price_78 (fun M_10 eM_10 H locs hM hS => ?_)
      have h := sk_letU h eM_10
      refine lv_aload_n hx hb dX7_price_79 rfl (lv_at hl 0 rfl) ?_
      refine sk_getR (o := 88) (ci := 7) (j := 26) (t := 103) C hM rfl rfl (by decide) rfl rfl kw_961 dX7_price_80 ?_
      refine lv_bipush (v := 110) hx hb dX7_price_83 (by decide) ?_
      refine lv_iload_n hx hb dX7_price_85 rfl (lv_at hl 3 rfl) ?_
      refine sk_iast (o := 103) C hM hS rfl (by decide) dX7_price_86 (fun M_11 eM_11 H locs hM hS => ?_)
      have h := sk_letU h eM_11
      refine lv_aload_n hx hb dX7_price_87 rfl (lv_at hl 0 rfl) ?_
      refine lv_iload_n hx hb dX7_price_88 rfl (lv_at hl 2 rfl) ?_
      obtain ⟨x_12, M_13, h_14, h⟩ := sk_b2E h
      refine sk_contI (sk_runV (As := [.int x_2]) (rest := []) C (c_X7_worked g l x_2 M_11 h_14) yo_X7_worked kw_1161 (sk_recv (ci := 7) C hM rfl rfl) (by decide) hM hS hl.1 rfl rfl (Nat.le_of_ble_eq_true rfl) dX7_price_89) hS (fun H locs hM hS => ?_)
      exact sk_iret C hM hS (sk_e2 h) dX7_price_92
    · have h := sk_neg h hc
      refine lv_aload_n hx hb dX7_price_21 rfl (lv_at hl 1 rfl) ?_
      refine lv_iload_n hx hb dX7_price_22 rfl (lv_at hl 2 rfl) ?_
      obtain ⟨x_17, h_18, h⟩ := sk_b1E h
      refine sk_contI (sk_runV (As := [.int a1]) (rest := []) C (c_X7_allOn g l a1 M h_18) yo_X7_allOn kw_1276 (sk_recv (ci := 7) C hM rfl rfl) (by decide) hM hS hl.1 rfl rfl (Nat.le_of_ble_eq_true rfl) dX7_price_23) hS (fun H locs hM hS => ?_)
      exact sk_iret C hM hS (sk_e2 h) dX7_price_26
  · have h := sk_pos h hc
    refine lv_ldc (v := (-1000000001)) hx hb hown (hts _ kw_1044) dX7_price_8 ?_
    exact sk_iret C hM hS (sk_e2 h) dX7_price_10
theorem dX7_saidOr_0 : decode cX7_saidOr 0 = .ok (.aload_n 0, 1) := by decide +kernel
theorem dX7_saidOr_1 : decode cX7_saidOr 1 = .ok (.iload_n 1, 1) := by decide +kernel
theorem dX7_saidOr_2 : decode cX7_saidOr 2 = .ok (.iconst 0, 1) := by decide +kernel
theorem dX7_saidOr_3 : decode cX7_saidOr 3 = .ok (.invokevirtual 154, 3) := by decide +kernel
theorem dX7_saidOr_6 : decode cX7_saidOr 6 = .ok (.istore_n 2, 1) := by decide +kernel
theorem dX7_saidOr_7 : decode cX7_saidOr 7 = .ok (.iload_n 2, 1) := by decide +kernel
theorem dX7_saidOr_8 : decode cX7_saidOr 8 = .ok (.ifCond .ge 8, 3) := by decide +kernel
theorem dX7_saidOr_11 : decode cX7_saidOr 11 = .ok (.bipush 99, 2) := by decide +kernel
theorem dX7_saidOr_13 : decode cX7_saidOr 13 = .ok (.goto 4, 3) := by decide +kernel
theorem dX7_saidOr_16 : decode cX7_saidOr 16 = .ok (.iload_n 2, 1) := by decide +kernel
theorem dX7_saidOr_17 : decode cX7_saidOr 17 = .ok (.ireturn, 1) := by decide +kernel
set_option maxHeartbeats 4000000 in
set_option maxRecDepth 100000 in
theorem c_X7_saidOr (g : sk_G) (l : Launch) (a1 : Int32) (M : sk_M) {rr : Int32} (h : f_X7_saidOr a1 M = some rr) : sk_MI g l yX7_saidOr cX7_saidOr 3 (some .int) 4 [.ref (sk_ad g 88), .int a1] M rr M := by
  refine sk_go [(0, .ref (sk_ad g 88)), (1, .int a1)] (by decide) (Nat.le_of_ble_eq_true rfl) rfl ?_
  intro p e s m av below meth c C ls hl hM hS
  obtain ⟨hx, hb, hml, hown, hts, hK, hE, hr, hlocks⟩ := id C
  rw [f_X7_saidOr] at h
  refine lv_aload_n hx hb dX7_saidOr_0 rfl (lv_at hl 0 rfl) ?_
  refine lv_iload_n hx hb dX7_saidOr_1 rfl (lv_at hl 1 rfl) ?_
  refine lv_iconst (v := 0) hx hb dX7_saidOr_2 (by decide) ?_
  obtain ⟨x_1, h_2, h⟩ := sk_b1E h
  refine sk_contI (sk_runV (As := [.int a1, .int 0]) (rest := []) C (c_X7_saidBy g l a1 0 M h_2) yo_X7_saidBy kw_1205 (sk_recv (ci := 7) C hM rfl rfl) (by decide) hM hS hl.1 rfl rfl (Nat.le_of_ble_eq_true rfl) dX7_saidOr_3) hS (fun H locs hM hS => ?_)
  refine lv_istore_n (lv' := [(2, .int x_1), (0, .ref (sk_ad g 88)), (1, .int a1)]) hx hb dX7_saidOr_6 rfl hl (by decide) rfl (fun ls hl => ?_)
  refine lv_iload_n hx hb dX7_saidOr_7 rfl (lv_at hl 0 rfl) ?_
  have J : ∀ (vv : Int32) (H : Heap) (locs : List Loc), (if 0 ≤ x_1 then x_1 else 99 : Int32) = vv → sk_P g M H → va_S (sk_A g) s.heap H locs → W p l e (sk_rm 4) s m av below meth c H locs 0 0 (MQ below (sk_QI g rr M) av s 0 0 (sk_A g)) (F0 m 17 ls [.int vv]) := by
    intro vv H locs hvv hM hS
    subst hvv
    exact sk_iret C hM hS ⟨Option.some.inj h, rfl⟩ dX7_saidOr_17
  refine lv_if_ge hx hb dX7_saidOr_8 rfl (fun hc => ?_) (fun hc => ?_)
  · have J := fun vv H locs q => J vv H locs ((if_pos hc).trans q)
    refine lv_iload_n hx hb dX7_saidOr_16 rfl (lv_at hl 0 rfl) ?_
    exact J _ _ _ rfl hM hS
  · have J := fun vv H locs q => J vv H locs ((if_neg hc).trans q)
    refine lv_bipush (v := 99) hx hb dX7_saidOr_11 (by decide) ?_
    refine lv_goto hx hb dX7_saidOr_13 rfl ?_
    exact J _ _ _ rfl hM hS
